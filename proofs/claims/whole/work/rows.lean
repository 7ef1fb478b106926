section
-- ===== PART A: goes FIRST, ahead of the names: the tables' words, and 'selects' of the private methods out of them =====
/-- a private method of a class that the tables say can be made, by its rows of tables_1 -/
def lw_okq (q : MethodName × Nat) : Prop := (q.1.cls ≠ "java/lang/invoke/MethodHandle" ∧ q.1.cls ≠ "java/lang/invoke/VarHandle") ∧ Cond.instantiable q.1.cls q.2 ∈ tables_1 ∧ Cond.privateMethod q.1 ∈ tables_1 ∧ Cond.instanceMethod q.1 ∈ tables_1
theorem lw_p0 : lw_okq (⟨"BeardHire", "finding", "(I)I"⟩, 7) := ⟨⟨by decide +kernel, by decide +kernel⟩, List.mem_of_getElem? (i := 19) (by decide +kernel), List.mem_of_getElem? (i := 223) (by decide +kernel), List.mem_of_getElem? (i := 224) (by decide +kernel)⟩
theorem lw_p1 : lw_okq (⟨"BeardHire", "isBeard", "(I)Z"⟩, 7) := ⟨⟨by decide +kernel, by decide +kernel⟩, List.mem_of_getElem? (i := 19) (by decide +kernel), List.mem_of_getElem? (i := 232) (by decide +kernel), List.mem_of_getElem? (i := 233) (by decide +kernel)⟩
theorem lw_p2 : lw_okq (⟨"BeardHire", "isWearer", "(I)Z"⟩, 7) := ⟨⟨by decide +kernel, by decide +kernel⟩, List.mem_of_getElem? (i := 19) (by decide +kernel), List.mem_of_getElem? (i := 425) (by decide +kernel), List.mem_of_getElem? (i := 426) (by decide +kernel)⟩
theorem lw_p3 : lw_okq (⟨"BeardHire$Trade", "spendNight", "(II)V"⟩, 13) := ⟨⟨by decide +kernel, by decide +kernel⟩, List.mem_of_getElem? (i := 70) (by decide +kernel), List.mem_of_getElem? (i := 463) (by decide +kernel), List.mem_of_getElem? (i := 464) (by decide +kernel)⟩
theorem lw_p4 : lw_okq (⟨"BeardHire$Trade", "combOut", "()V"⟩, 13) := ⟨⟨by decide +kernel, by decide +kernel⟩, List.mem_of_getElem? (i := 70) (by decide +kernel), List.mem_of_getElem? (i := 477) (by decide +kernel), List.mem_of_getElem? (i := 478) (by decide +kernel)⟩
theorem lw_p5 : lw_okq (⟨"BeardHire$Text", "advance", "()V"⟩, 8) := ⟨⟨by decide +kernel, by decide +kernel⟩, List.mem_of_getElem? (i := 138) (by decide +kernel), List.mem_of_getElem? (i := 557) (by decide +kernel), List.mem_of_getElem? (i := 558) (by decide +kernel)⟩
theorem lw_p6 : lw_okq (⟨"BeardHire$Text", "tellItem", "()Z"⟩, 8) := ⟨⟨by decide +kernel, by decide +kernel⟩, List.mem_of_getElem? (i := 138) (by decide +kernel), List.mem_of_getElem? (i := 568) (by decide +kernel), List.mem_of_getElem? (i := 569) (by decide +kernel)⟩
theorem lw_p7 : lw_okq (⟨"BeardHire$Text", "isWord", "(Ljava/lang/String;)Z"⟩, 8) := ⟨⟨by decide +kernel, by decide +kernel⟩, List.mem_of_getElem? (i := 138) (by decide +kernel), List.mem_of_getElem? (i := 598) (by decide +kernel), List.mem_of_getElem? (i := 599) (by decide +kernel)⟩
theorem lw_p8 : lw_okq (⟨"BeardHire$Text", "tellBeard", "(I)Z"⟩, 8) := ⟨⟨by decide +kernel, by decide +kernel⟩, List.mem_of_getElem? (i := 138) (by decide +kernel), List.mem_of_getElem? (i := 650) (by decide +kernel), List.mem_of_getElem? (i := 651) (by decide +kernel)⟩
theorem lw_p9 : lw_okq (⟨"BeardHire$Text", "isNumber", "(I)Z"⟩, 8) := ⟨⟨by decide +kernel, by decide +kernel⟩, List.mem_of_getElem? (i := 138) (by decide +kernel), List.mem_of_getElem? (i := 656) (by decide +kernel), List.mem_of_getElem? (i := 657) (by decide +kernel)⟩
theorem lw_p10 : lw_okq (⟨"BeardHire$Text", "takeNumber", "()I"⟩, 8) := ⟨⟨by decide +kernel, by decide +kernel⟩, List.mem_of_getElem? (i := 138) (by decide +kernel), List.mem_of_getElem? (i := 660) (by decide +kernel), List.mem_of_getElem? (i := 661) (by decide +kernel)⟩
theorem lw_p11 : lw_okq (⟨"BeardHire$Text", "tellWearer", "()Z"⟩, 8) := ⟨⟨by decide +kernel, by decide +kernel⟩, List.mem_of_getElem? (i := 138) (by decide +kernel), List.mem_of_getElem? (i := 666) (by decide +kernel), List.mem_of_getElem? (i := 667) (by decide +kernel)⟩
theorem lw_p12 : lw_okq (⟨"BeardHire$Text", "tellHouse", "()Z"⟩, 8) := ⟨⟨by decide +kernel, by decide +kernel⟩, List.mem_of_getElem? (i := 138) (by decide +kernel), List.mem_of_getElem? (i := 673) (by decide +kernel), List.mem_of_getElem? (i := 674) (by decide +kernel)⟩
theorem lw_p13 : lw_okq (⟨"BeardHire$Text", "tellHire", "()Z"⟩, 8) := ⟨⟨by decide +kernel, by decide +kernel⟩, List.mem_of_getElem? (i := 138) (by decide +kernel), List.mem_of_getElem? (i := 680) (by decide +kernel), List.mem_of_getElem? (i := 681) (by decide +kernel)⟩
theorem lw_p14 : lw_okq (⟨"BeardHire", "trialFollows", "(LBeardHire$Sheet;I)Z"⟩, 7) := ⟨⟨by decide +kernel, by decide +kernel⟩, List.mem_of_getElem? (i := 19) (by decide +kernel), List.mem_of_getElem? (i := 731) (by decide +kernel), List.mem_of_getElem? (i := 732) (by decide +kernel)⟩
theorem lw_p15 : lw_okq (⟨"BeardHireModel", "becomes", "(II)I"⟩, 16) := ⟨⟨by decide +kernel, by decide +kernel⟩, List.mem_of_getElem? (i := 759) (by decide +kernel), List.mem_of_getElem? (i := 830) (by decide +kernel), List.mem_of_getElem? (i := 831) (by decide +kernel)⟩
def lw_privs_1 : List (MethodName × Nat) := [(⟨"BeardHire", "finding", "(I)I"⟩, 7), (⟨"BeardHire", "isBeard", "(I)Z"⟩, 7), (⟨"BeardHire", "isWearer", "(I)Z"⟩, 7), (⟨"BeardHire$Trade", "spendNight", "(II)V"⟩, 13), (⟨"BeardHire$Trade", "combOut", "()V"⟩, 13), (⟨"BeardHire$Text", "advance", "()V"⟩, 8), (⟨"BeardHire$Text", "tellItem", "()Z"⟩, 8), (⟨"BeardHire$Text", "isWord", "(Ljava/lang/String;)Z"⟩, 8), (⟨"BeardHire$Text", "tellBeard", "(I)Z"⟩, 8), (⟨"BeardHire$Text", "isNumber", "(I)Z"⟩, 8), (⟨"BeardHire$Text", "takeNumber", "()I"⟩, 8), (⟨"BeardHire$Text", "tellWearer", "()Z"⟩, 8), (⟨"BeardHire$Text", "tellHouse", "()Z"⟩, 8), (⟨"BeardHire$Text", "tellHire", "()Z"⟩, 8), (⟨"BeardHire", "trialFollows", "(LBeardHire$Sheet;I)Z"⟩, 7), (⟨"BeardHireModel", "becomes", "(II)I"⟩, 16)]
theorem lw_r1 : ∀ q ∈ lw_privs_1, lw_okq q := List.forall_mem_cons.mpr ⟨lw_p0, List.forall_mem_cons.mpr ⟨lw_p1, List.forall_mem_cons.mpr ⟨lw_p2, List.forall_mem_cons.mpr ⟨lw_p3, List.forall_mem_cons.mpr ⟨lw_p4, List.forall_mem_cons.mpr ⟨lw_p5, List.forall_mem_cons.mpr ⟨lw_p6, List.forall_mem_cons.mpr ⟨lw_p7, List.forall_mem_cons.mpr ⟨lw_p8, List.forall_mem_cons.mpr ⟨lw_p9, List.forall_mem_cons.mpr ⟨lw_p10, List.forall_mem_cons.mpr ⟨lw_p11, List.forall_mem_cons.mpr ⟨lw_p12, List.forall_mem_cons.mpr ⟨lw_p13, List.forall_mem_cons.mpr ⟨lw_p14, List.forall_mem_cons.mpr ⟨lw_p15, fun _ h => absurd h List.not_mem_nil⟩⟩⟩⟩⟩⟩⟩⟩⟩⟩⟩⟩⟩⟩⟩⟩
theorem lw_p16 : lw_okq (⟨"BeardHireModel", "finds", "(I)I"⟩, 16) := ⟨⟨by decide +kernel, by decide +kernel⟩, List.mem_of_getElem? (i := 759) (by decide +kernel), List.mem_of_getElem? (i := 835) (by decide +kernel), List.mem_of_getElem? (i := 836) (by decide +kernel)⟩
theorem lw_p17 : lw_okq (⟨"BeardHireModel", "isBeard", "(I)Z"⟩, 16) := ⟨⟨by decide +kernel, by decide +kernel⟩, List.mem_of_getElem? (i := 759) (by decide +kernel), List.mem_of_getElem? (i := 843) (by decide +kernel), List.mem_of_getElem? (i := 844) (by decide +kernel)⟩
theorem lw_p18 : lw_okq (⟨"BeardHireModel", "house", "(II)I"⟩, 16) := ⟨⟨by decide +kernel, by decide +kernel⟩, List.mem_of_getElem? (i := 759) (by decide +kernel), List.mem_of_getElem? (i := 852) (by decide +kernel), List.mem_of_getElem? (i := 853) (by decide +kernel)⟩
theorem lw_p19 : lw_okq (⟨"BeardHireModel", "goers", "(I)I"⟩, 16) := ⟨⟨by decide +kernel, by decide +kernel⟩, List.mem_of_getElem? (i := 759) (by decide +kernel), List.mem_of_getElem? (i := 856) (by decide +kernel), List.mem_of_getElem? (i := 857) (by decide +kernel)⟩
theorem lw_p20 : lw_okq (⟨"BeardHireModel", "placeOf", "(I)I"⟩, 16) := ⟨⟨by decide +kernel, by decide +kernel⟩, List.mem_of_getElem? (i := 759) (by decide +kernel), List.mem_of_getElem? (i := 860) (by decide +kernel), List.mem_of_getElem? (i := 861) (by decide +kernel)⟩
theorem lw_p21 : lw_okq (⟨"BeardHireModel", "theirs", "(II)I"⟩, 16) := ⟨⟨by decide +kernel, by decide +kernel⟩, List.mem_of_getElem? (i := 759) (by decide +kernel), List.mem_of_getElem? (i := 864) (by decide +kernel), List.mem_of_getElem? (i := 865) (by decide +kernel)⟩
theorem lw_p22 : lw_okq (⟨"BeardHireModel", "isMonday", "()Z"⟩, 16) := ⟨⟨by decide +kernel, by decide +kernel⟩, List.mem_of_getElem? (i := 759) (by decide +kernel), List.mem_of_getElem? (i := 875) (by decide +kernel), List.mem_of_getElem? (i := 876) (by decide +kernel)⟩
theorem lw_p23 : lw_okq (⟨"BeardHireModel", "inShop", "()I"⟩, 16) := ⟨⟨by decide +kernel, by decide +kernel⟩, List.mem_of_getElem? (i := 759) (by decide +kernel), List.mem_of_getElem? (i := 879) (by decide +kernel), List.mem_of_getElem? (i := 880) (by decide +kernel)⟩
theorem lw_p24 : lw_okq (⟨"BeardHireModel", "its", "(II)I"⟩, 16) := ⟨⟨by decide +kernel, by decide +kernel⟩, List.mem_of_getElem? (i := 759) (by decide +kernel), List.mem_of_getElem? (i := 883) (by decide +kernel), List.mem_of_getElem? (i := 884) (by decide +kernel)⟩
theorem lw_p25 : lw_okq (⟨"BeardHireModel", "bearded", "()I"⟩, 16) := ⟨⟨by decide +kernel, by decide +kernel⟩, List.mem_of_getElem? (i := 759) (by decide +kernel), List.mem_of_getElem? (i := 890) (by decide +kernel), List.mem_of_getElem? (i := 891) (by decide +kernel)⟩
theorem lw_p26 : lw_okq (⟨"BeardHireModel", "purses", "()I"⟩, 16) := ⟨⟨by decide +kernel, by decide +kernel⟩, List.mem_of_getElem? (i := 759) (by decide +kernel), List.mem_of_getElem? (i := 894) (by decide +kernel), List.mem_of_getElem? (i := 895) (by decide +kernel)⟩
theorem lw_p27 : lw_okq (⟨"BeardHireModel", "addsBeard", "(I)I"⟩, 16) := ⟨⟨by decide +kernel, by decide +kernel⟩, List.mem_of_getElem? (i := 759) (by decide +kernel), List.mem_of_getElem? (i := 906) (by decide +kernel), List.mem_of_getElem? (i := 907) (by decide +kernel)⟩
theorem lw_p28 : lw_okq (⟨"BeardHireModel", "costsOf", "(I)I"⟩, 16) := ⟨⟨by decide +kernel, by decide +kernel⟩, List.mem_of_getElem? (i := 759) (by decide +kernel), List.mem_of_getElem? (i := 914) (by decide +kernel), List.mem_of_getElem? (i := 915) (by decide +kernel)⟩
theorem lw_p29 : lw_okq (⟨"BeardHireModel", "gainsOf", "(I)I"⟩, 16) := ⟨⟨by decide +kernel, by decide +kernel⟩, List.mem_of_getElem? (i := 759) (by decide +kernel), List.mem_of_getElem? (i := 918) (by decide +kernel), List.mem_of_getElem? (i := 919) (by decide +kernel)⟩
theorem lw_p30 : lw_okq (⟨"BeardHireModel", "meetsOf", "(II)I"⟩, 16) := ⟨⟨by decide +kernel, by decide +kernel⟩, List.mem_of_getElem? (i := 759) (by decide +kernel), List.mem_of_getElem? (i := 926) (by decide +kernel), List.mem_of_getElem? (i := 927) (by decide +kernel)⟩
theorem lw_p31 : lw_okq (⟨"BeardHireModel", "leavesOf", "(I)I"⟩, 16) := ⟨⟨by decide +kernel, by decide +kernel⟩, List.mem_of_getElem? (i := 759) (by decide +kernel), List.mem_of_getElem? (i := 930) (by decide +kernel), List.mem_of_getElem? (i := 931) (by decide +kernel)⟩
def lw_privs_2 : List (MethodName × Nat) := [(⟨"BeardHireModel", "finds", "(I)I"⟩, 16), (⟨"BeardHireModel", "isBeard", "(I)Z"⟩, 16), (⟨"BeardHireModel", "house", "(II)I"⟩, 16), (⟨"BeardHireModel", "goers", "(I)I"⟩, 16), (⟨"BeardHireModel", "placeOf", "(I)I"⟩, 16), (⟨"BeardHireModel", "theirs", "(II)I"⟩, 16), (⟨"BeardHireModel", "isMonday", "()Z"⟩, 16), (⟨"BeardHireModel", "inShop", "()I"⟩, 16), (⟨"BeardHireModel", "its", "(II)I"⟩, 16), (⟨"BeardHireModel", "bearded", "()I"⟩, 16), (⟨"BeardHireModel", "purses", "()I"⟩, 16), (⟨"BeardHireModel", "addsBeard", "(I)I"⟩, 16), (⟨"BeardHireModel", "costsOf", "(I)I"⟩, 16), (⟨"BeardHireModel", "gainsOf", "(I)I"⟩, 16), (⟨"BeardHireModel", "meetsOf", "(II)I"⟩, 16), (⟨"BeardHireModel", "leavesOf", "(I)I"⟩, 16)]
theorem lw_r2 : ∀ q ∈ lw_privs_2, lw_okq q := List.forall_mem_cons.mpr ⟨lw_p16, List.forall_mem_cons.mpr ⟨lw_p17, List.forall_mem_cons.mpr ⟨lw_p18, List.forall_mem_cons.mpr ⟨lw_p19, List.forall_mem_cons.mpr ⟨lw_p20, List.forall_mem_cons.mpr ⟨lw_p21, List.forall_mem_cons.mpr ⟨lw_p22, List.forall_mem_cons.mpr ⟨lw_p23, List.forall_mem_cons.mpr ⟨lw_p24, List.forall_mem_cons.mpr ⟨lw_p25, List.forall_mem_cons.mpr ⟨lw_p26, List.forall_mem_cons.mpr ⟨lw_p27, List.forall_mem_cons.mpr ⟨lw_p28, List.forall_mem_cons.mpr ⟨lw_p29, List.forall_mem_cons.mpr ⟨lw_p30, List.forall_mem_cons.mpr ⟨lw_p31, fun _ h => absurd h List.not_mem_nil⟩⟩⟩⟩⟩⟩⟩⟩⟩⟩⟩⟩⟩⟩⟩⟩
theorem lw_p32 : lw_okq (⟨"BeardHireModel", "addsWearer", "(I)I"⟩, 16) := ⟨⟨by decide +kernel, by decide +kernel⟩, List.mem_of_getElem? (i := 759) (by decide +kernel), List.mem_of_getElem? (i := 957) (by decide +kernel), List.mem_of_getElem? (i := 958) (by decide +kernel)⟩
theorem lw_p33 : lw_okq (⟨"BeardHireModel", "isWearer", "(I)Z"⟩, 16) := ⟨⟨by decide +kernel, by decide +kernel⟩, List.mem_of_getElem? (i := 759) (by decide +kernel), List.mem_of_getElem? (i := 965) (by decide +kernel), List.mem_of_getElem? (i := 966) (by decide +kernel)⟩
theorem lw_p34 : lw_okq (⟨"BeardHireModel", "wornBy", "(I)I"⟩, 16) := ⟨⟨by decide +kernel, by decide +kernel⟩, List.mem_of_getElem? (i := 759) (by decide +kernel), List.mem_of_getElem? (i := 970) (by decide +kernel), List.mem_of_getElem? (i := 971) (by decide +kernel)⟩
theorem lw_p35 : lw_okq (⟨"BeardHireModel", "nightsGo", "(I)V"⟩, 16) := ⟨⟨by decide +kernel, by decide +kernel⟩, List.mem_of_getElem? (i := 759) (by decide +kernel), List.mem_of_getElem? (i := 993) (by decide +kernel), List.mem_of_getElem? (i := 994) (by decide +kernel)⟩
theorem lw_p36 : lw_okq (⟨"BeardHireModel", "night", "()V"⟩, 16) := ⟨⟨by decide +kernel, by decide +kernel⟩, List.mem_of_getElem? (i := 759) (by decide +kernel), List.mem_of_getElem? (i := 997) (by decide +kernel), List.mem_of_getElem? (i := 998) (by decide +kernel)⟩
theorem lw_p37 : lw_okq (⟨"BeardHireModel", "wears", "(II)V"⟩, 16) := ⟨⟨by decide +kernel, by decide +kernel⟩, List.mem_of_getElem? (i := 759) (by decide +kernel), List.mem_of_getElem? (i := 1001) (by decide +kernel), List.mem_of_getElem? (i := 1002) (by decide +kernel)⟩
theorem lw_p38 : lw_okq (⟨"BeardHireModel", "goesOut", "(II)V"⟩, 16) := ⟨⟨by decide +kernel, by decide +kernel⟩, List.mem_of_getElem? (i := 759) (by decide +kernel), List.mem_of_getElem? (i := 1005) (by decide +kernel), List.mem_of_getElem? (i := 1006) (by decide +kernel)⟩
theorem lw_p39 : lw_okq (⟨"BeardHireModel", "behind", "(II)I"⟩, 16) := ⟨⟨by decide +kernel, by decide +kernel⟩, List.mem_of_getElem? (i := 759) (by decide +kernel), List.mem_of_getElem? (i := 1020) (by decide +kernel), List.mem_of_getElem? (i := 1021) (by decide +kernel)⟩
theorem lw_p40 : lw_okq (⟨"BeardHireModel", "laysAside", "()V"⟩, 16) := ⟨⟨by decide +kernel, by decide +kernel⟩, List.mem_of_getElem? (i := 759) (by decide +kernel), List.mem_of_getElem? (i := 1024) (by decide +kernel), List.mem_of_getElem? (i := 1025) (by decide +kernel)⟩
theorem lw_p41 : lw_okq (⟨"BeardHireModel", "takesBack", "(I)I"⟩, 16) := ⟨⟨by decide +kernel, by decide +kernel⟩, List.mem_of_getElem? (i := 759) (by decide +kernel), List.mem_of_getElem? (i := 1028) (by decide +kernel), List.mem_of_getElem? (i := 1029) (by decide +kernel)⟩
theorem lw_p42 : lw_okq (⟨"BeardHireModel", "wornBehind", "(II)I"⟩, 16) := ⟨⟨by decide +kernel, by decide +kernel⟩, List.mem_of_getElem? (i := 759) (by decide +kernel), List.mem_of_getElem? (i := 1032) (by decide +kernel), List.mem_of_getElem? (i := 1033) (by decide +kernel)⟩
theorem lw_p43 : lw_okq (⟨"BeardHireModel", "firstDown", "(II)I"⟩, 16) := ⟨⟨by decide +kernel, by decide +kernel⟩, List.mem_of_getElem? (i := 759) (by decide +kernel), List.mem_of_getElem? (i := 1048) (by decide +kernel), List.mem_of_getElem? (i := 1049) (by decide +kernel)⟩
theorem lw_p44 : lw_okq (⟨"BeardHireModel", "mostBy", "(IIII)I"⟩, 16) := ⟨⟨by decide +kernel, by decide +kernel⟩, List.mem_of_getElem? (i := 759) (by decide +kernel), List.mem_of_getElem? (i := 1069) (by decide +kernel), List.mem_of_getElem? (i := 1070) (by decide +kernel)⟩
theorem lw_p45 : lw_okq (⟨"BeardHireModel", "pursesBehind", "(I)I"⟩, 16) := ⟨⟨by decide +kernel, by decide +kernel⟩, List.mem_of_getElem? (i := 759) (by decide +kernel), List.mem_of_getElem? (i := 1073) (by decide +kernel), List.mem_of_getElem? (i := 1074) (by decide +kernel)⟩
theorem lw_p46 : lw_okq (⟨"BeardHireModel", "saves", "()V"⟩, 16) := ⟨⟨by decide +kernel, by decide +kernel⟩, List.mem_of_getElem? (i := 759) (by decide +kernel), List.mem_of_getElem? (i := 1106) (by decide +kernel), List.mem_of_getElem? (i := 1107) (by decide +kernel)⟩
theorem lw_p47 : lw_okq (⟨"BeardHireModel", "token", "()V"⟩, 16) := ⟨⟨by decide +kernel, by decide +kernel⟩, List.mem_of_getElem? (i := 759) (by decide +kernel), List.mem_of_getElem? (i := 1110) (by decide +kernel), List.mem_of_getElem? (i := 1111) (by decide +kernel)⟩
def lw_privs_3 : List (MethodName × Nat) := [(⟨"BeardHireModel", "addsWearer", "(I)I"⟩, 16), (⟨"BeardHireModel", "isWearer", "(I)Z"⟩, 16), (⟨"BeardHireModel", "wornBy", "(I)I"⟩, 16), (⟨"BeardHireModel", "nightsGo", "(I)V"⟩, 16), (⟨"BeardHireModel", "night", "()V"⟩, 16), (⟨"BeardHireModel", "wears", "(II)V"⟩, 16), (⟨"BeardHireModel", "goesOut", "(II)V"⟩, 16), (⟨"BeardHireModel", "behind", "(II)I"⟩, 16), (⟨"BeardHireModel", "laysAside", "()V"⟩, 16), (⟨"BeardHireModel", "takesBack", "(I)I"⟩, 16), (⟨"BeardHireModel", "wornBehind", "(II)I"⟩, 16), (⟨"BeardHireModel", "firstDown", "(II)I"⟩, 16), (⟨"BeardHireModel", "mostBy", "(IIII)I"⟩, 16), (⟨"BeardHireModel", "pursesBehind", "(I)I"⟩, 16), (⟨"BeardHireModel", "saves", "()V"⟩, 16), (⟨"BeardHireModel", "token", "()V"⟩, 16)]
theorem lw_r3 : ∀ q ∈ lw_privs_3, lw_okq q := List.forall_mem_cons.mpr ⟨lw_p32, List.forall_mem_cons.mpr ⟨lw_p33, List.forall_mem_cons.mpr ⟨lw_p34, List.forall_mem_cons.mpr ⟨lw_p35, List.forall_mem_cons.mpr ⟨lw_p36, List.forall_mem_cons.mpr ⟨lw_p37, List.forall_mem_cons.mpr ⟨lw_p38, List.forall_mem_cons.mpr ⟨lw_p39, List.forall_mem_cons.mpr ⟨lw_p40, List.forall_mem_cons.mpr ⟨lw_p41, List.forall_mem_cons.mpr ⟨lw_p42, List.forall_mem_cons.mpr ⟨lw_p43, List.forall_mem_cons.mpr ⟨lw_p44, List.forall_mem_cons.mpr ⟨lw_p45, List.forall_mem_cons.mpr ⟨lw_p46, List.forall_mem_cons.mpr ⟨lw_p47, fun _ h => absurd h List.not_mem_nil⟩⟩⟩⟩⟩⟩⟩⟩⟩⟩⟩⟩⟩⟩⟩⟩
theorem lw_p48 : lw_okq (⟨"BeardHireModel", "byteAt", "(I)I"⟩, 16) := ⟨⟨by decide +kernel, by decide +kernel⟩, List.mem_of_getElem? (i := 759) (by decide +kernel), List.mem_of_getElem? (i := 1114) (by decide +kernel), List.mem_of_getElem? (i := 1115) (by decide +kernel)⟩
theorem lw_p49 : lw_okq (⟨"BeardHireModel", "item", "()V"⟩, 16) := ⟨⟨by decide +kernel, by decide +kernel⟩, List.mem_of_getElem? (i := 759) (by decide +kernel), List.mem_of_getElem? (i := 1128) (by decide +kernel), List.mem_of_getElem? (i := 1129) (by decide +kernel)⟩
theorem lw_p50 : lw_okq (⟨"BeardHireModel", "kindHere", "()I"⟩, 16) := ⟨⟨by decide +kernel, by decide +kernel⟩, List.mem_of_getElem? (i := 759) (by decide +kernel), List.mem_of_getElem? (i := 1132) (by decide +kernel), List.mem_of_getElem? (i := 1133) (by decide +kernel)⟩
theorem lw_p51 : lw_okq (⟨"BeardHireModel", "word", "()J"⟩, 16) := ⟨⟨by decide +kernel, by decide +kernel⟩, List.mem_of_getElem? (i := 759) (by decide +kernel), List.mem_of_getElem? (i := 1136) (by decide +kernel), List.mem_of_getElem? (i := 1137) (by decide +kernel)⟩
theorem lw_p52 : lw_okq (⟨"BeardHireModel", "beardItem", "(I)V"⟩, 16) := ⟨⟨by decide +kernel, by decide +kernel⟩, List.mem_of_getElem? (i := 759) (by decide +kernel), List.mem_of_getElem? (i := 1148) (by decide +kernel), List.mem_of_getElem? (i := 1149) (by decide +kernel)⟩
theorem lw_p53 : lw_okq (⟨"BeardHireModel", "must", "(Z)V"⟩, 16) := ⟨⟨by decide +kernel, by decide +kernel⟩, List.mem_of_getElem? (i := 759) (by decide +kernel), List.mem_of_getElem? (i := 1152) (by decide +kernel), List.mem_of_getElem? (i := 1153) (by decide +kernel)⟩
theorem lw_p54 : lw_okq (⟨"BeardHireModel", "partItem", "(JII)V"⟩, 16) := ⟨⟨by decide +kernel, by decide +kernel⟩, List.mem_of_getElem? (i := 759) (by decide +kernel), List.mem_of_getElem? (i := 1157) (by decide +kernel), List.mem_of_getElem? (i := 1158) (by decide +kernel)⟩
theorem lw_p55 : lw_okq (⟨"BeardHireModel", "number", "(II)V"⟩, 16) := ⟨⟨by decide +kernel, by decide +kernel⟩, List.mem_of_getElem? (i := 759) (by decide +kernel), List.mem_of_getElem? (i := 1161) (by decide +kernel), List.mem_of_getElem? (i := 1162) (by decide +kernel)⟩
theorem lw_p56 : lw_okq (⟨"BeardHireModel", "wearerItem", "()V"⟩, 16) := ⟨⟨by decide +kernel, by decide +kernel⟩, List.mem_of_getElem? (i := 759) (by decide +kernel), List.mem_of_getElem? (i := 1167) (by decide +kernel), List.mem_of_getElem? (i := 1168) (by decide +kernel)⟩
theorem lw_p57 : lw_okq (⟨"BeardHireModel", "houseItem", "()V"⟩, 16) := ⟨⟨by decide +kernel, by decide +kernel⟩, List.mem_of_getElem? (i := 759) (by decide +kernel), List.mem_of_getElem? (i := 1173) (by decide +kernel), List.mem_of_getElem? (i := 1174) (by decide +kernel)⟩
theorem lw_p58 : lw_okq (⟨"BeardHireModel", "hireItem", "()V"⟩, 16) := ⟨⟨by decide +kernel, by decide +kernel⟩, List.mem_of_getElem? (i := 759) (by decide +kernel), List.mem_of_getElem? (i := 1180) (by decide +kernel), List.mem_of_getElem? (i := 1181) (by decide +kernel)⟩
theorem lw_p59 : lw_okq (⟨"BeardHireModel", "numberHere", "()I"⟩, 16) := ⟨⟨by decide +kernel, by decide +kernel⟩, List.mem_of_getElem? (i := 759) (by decide +kernel), List.mem_of_getElem? (i := 1184) (by decide +kernel), List.mem_of_getElem? (i := 1185) (by decide +kernel)⟩
theorem lw_p60 : lw_okq (⟨"BeardHireModel", "putsBack", "()V"⟩, 16) := ⟨⟨by decide +kernel, by decide +kernel⟩, List.mem_of_getElem? (i := 759) (by decide +kernel), List.mem_of_getElem? (i := 1188) (by decide +kernel), List.mem_of_getElem? (i := 1189) (by decide +kernel)⟩
theorem lw_p61 : lw_okq (⟨"BeardHireModel", "wrongSheet", "(I)I"⟩, 16) := ⟨⟨by decide +kernel, by decide +kernel⟩, List.mem_of_getElem? (i := 759) (by decide +kernel), List.mem_of_getElem? (i := 1204) (by decide +kernel), List.mem_of_getElem? (i := 1205) (by decide +kernel)⟩
theorem lw_p62 : lw_okq (⟨"BeardHireModel", "isBook", "(II)Z"⟩, 16) := ⟨⟨by decide +kernel, by decide +kernel⟩, List.mem_of_getElem? (i := 759) (by decide +kernel), List.mem_of_getElem? (i := 1228) (by decide +kernel), List.mem_of_getElem? (i := 1229) (by decide +kernel)⟩
theorem lw_p63 : lw_okq (⟨"BeardHireModel", "hoards", "()I"⟩, 16) := ⟨⟨by decide +kernel, by decide +kernel⟩, List.mem_of_getElem? (i := 759) (by decide +kernel), List.mem_of_getElem? (i := 1248) (by decide +kernel), List.mem_of_getElem? (i := 1249) (by decide +kernel)⟩
def lw_privs_4 : List (MethodName × Nat) := [(⟨"BeardHireModel", "byteAt", "(I)I"⟩, 16), (⟨"BeardHireModel", "item", "()V"⟩, 16), (⟨"BeardHireModel", "kindHere", "()I"⟩, 16), (⟨"BeardHireModel", "word", "()J"⟩, 16), (⟨"BeardHireModel", "beardItem", "(I)V"⟩, 16), (⟨"BeardHireModel", "must", "(Z)V"⟩, 16), (⟨"BeardHireModel", "partItem", "(JII)V"⟩, 16), (⟨"BeardHireModel", "number", "(II)V"⟩, 16), (⟨"BeardHireModel", "wearerItem", "()V"⟩, 16), (⟨"BeardHireModel", "houseItem", "()V"⟩, 16), (⟨"BeardHireModel", "hireItem", "()V"⟩, 16), (⟨"BeardHireModel", "numberHere", "()I"⟩, 16), (⟨"BeardHireModel", "putsBack", "()V"⟩, 16), (⟨"BeardHireModel", "wrongSheet", "(I)I"⟩, 16), (⟨"BeardHireModel", "isBook", "(II)Z"⟩, 16), (⟨"BeardHireModel", "hoards", "()I"⟩, 16)]
theorem lw_r4 : ∀ q ∈ lw_privs_4, lw_okq q := List.forall_mem_cons.mpr ⟨lw_p48, List.forall_mem_cons.mpr ⟨lw_p49, List.forall_mem_cons.mpr ⟨lw_p50, List.forall_mem_cons.mpr ⟨lw_p51, List.forall_mem_cons.mpr ⟨lw_p52, List.forall_mem_cons.mpr ⟨lw_p53, List.forall_mem_cons.mpr ⟨lw_p54, List.forall_mem_cons.mpr ⟨lw_p55, List.forall_mem_cons.mpr ⟨lw_p56, List.forall_mem_cons.mpr ⟨lw_p57, List.forall_mem_cons.mpr ⟨lw_p58, List.forall_mem_cons.mpr ⟨lw_p59, List.forall_mem_cons.mpr ⟨lw_p60, List.forall_mem_cons.mpr ⟨lw_p61, List.forall_mem_cons.mpr ⟨lw_p62, List.forall_mem_cons.mpr ⟨lw_p63, fun _ h => absurd h List.not_mem_nil⟩⟩⟩⟩⟩⟩⟩⟩⟩⟩⟩⟩⟩⟩⟩⟩
def lw_privs : List (MethodName × Nat) := lw_privs_1 ++ (lw_privs_2 ++ (lw_privs_3 ++ (lw_privs_4)))
def lw_tbl : List Cond := k2_sels lw_privs ++ tables_1
theorem lw_privs_ok : ∀ q ∈ lw_privs, lw_okq q := by
  show ∀ q ∈ lw_privs_1 ++ (lw_privs_2 ++ (lw_privs_3 ++ (lw_privs_4))), lw_okq q
  exact List.forall_mem_append.mpr ⟨lw_r1, List.forall_mem_append.mpr ⟨lw_r2, List.forall_mem_append.mpr ⟨lw_r3, lw_r4⟩⟩⟩
-- ===== end of PART A; then your names; then what follows =====
end
section
theorem goodIn_r {big : List Cond} (ws : List Cond) (ps : List Nat) (hp : ws = ps.filterMap (fun i => big[i]?)) (h : ws.all goodWord = true) : GoodIn big ws := by
  intro w hw
  have h1 := List.all_eq_true.mp h w hw
  rw [hp] at hw
  obtain ⟨i, -, hi⟩ := List.mem_filterMap.mp hw
  have hm : w ∈ big := by first | exact List.mem_of_getElem? hi | exact List.getElem?_mem hi
  exact ⟨hm, good_of_word h1⟩
theorem goodIn_app {big a b : List Cond} (ha : GoodIn big a) (hb : GoodIn big b) : GoodIn big (a ++ b) := fun w h => (List.mem_append.mp h).elim (ha w) (hb w)
theorem goodIn_ca {big a b : List Cond} {c : Cond} (ha : GoodIn big (c :: a)) (hb : GoodIn big b) : GoodIn big (c :: (a ++ b)) := fun w h => (List.mem_cons.mp h).elim (fun e => ha w (List.mem_cons.mpr (Or.inl e))) (fun h => (List.mem_append.mp h).elim (fun h => ha w (List.mem_cons.mpr (Or.inr h))) (hb w))
theorem goodIn_sub {big ws : List Cond} (hm : ∀ w ∈ ws, w ∈ big) (h : ws.all goodWord = true) : GoodIn big ws := fun w hw => ⟨hm w hw, good_of_word (List.all_eq_true.mp h w hw)⟩
def RX0 : String := "BeardHire$Ginger"
def TX0 : u_T := fun k => match k with
  | _ => ("", "", "", false)
def tyX0 : Nat → FieldType := fun k => match k with
  | _ => .int
abbrev wsX00 : List Cond := u_ws RX0 TX0 0
theorem nmX0 : ∀ a, a < 0 → ∀ b, b < 0 → a ≠ b → (TX0 a).2.1 ≠ (TX0 b).2.1 := by decide +kernel
theorem tyX0_ok : ∀ k, k < 0 → parseFieldDescriptor (TX0 k).2.2.1 = some (tyX0 k) := by decide +kernel
abbrev cX0_init : ByteArray := prog_2_method_1_code
def yX0_init : MethodName := ⟨RX0, "<init>", "()V"⟩
abbrev cX0_title : ByteArray := prog_2_method_2_code
def yX0_title : MethodName := ⟨RX0, "title", "()Ljava/lang/String;"⟩
abbrev cX0_costs : ByteArray := prog_2_method_3_code
def yX0_costs : MethodName := ⟨RX0, "costs", "(II)I"⟩
abbrev cX0_meets : ByteArray := prog_2_method_4_code
def yX0_meets : MethodName := ⟨RX0, "meets", "(IZI)I"⟩
abbrev cX0_leaves : ByteArray := prog_2_method_5_code
def yX0_leaves : MethodName := ⟨RX0, "leaves", "(I)I"⟩
abbrev cX0_gains : ByteArray := prog_2_method_6_code
def yX0_gains : MethodName := ⟨RX0, "gains", "(Z)I"⟩
def RX1 : String := "BeardHire$Imperial"
def TX1 : u_T := fun k => match k with
  | _ => ("", "", "", false)
def tyX1 : Nat → FieldType := fun k => match k with
  | _ => .int
abbrev wsX10 : List Cond := u_ws RX1 TX1 0
theorem nmX1 : ∀ a, a < 0 → ∀ b, b < 0 → a ≠ b → (TX1 a).2.1 ≠ (TX1 b).2.1 := by decide +kernel
theorem tyX1_ok : ∀ k, k < 0 → parseFieldDescriptor (TX1 k).2.2.1 = some (tyX1 k) := by decide +kernel
abbrev cX1_init : ByteArray := prog_3_method_1_code
def yX1_init : MethodName := ⟨RX1, "<init>", "()V"⟩
abbrev cX1_title : ByteArray := prog_3_method_2_code
def yX1_title : MethodName := ⟨RX1, "title", "()Ljava/lang/String;"⟩
abbrev cX1_costs : ByteArray := prog_3_method_3_code
def yX1_costs : MethodName := ⟨RX1, "costs", "(II)I"⟩
abbrev cX1_meets : ByteArray := prog_3_method_4_code
def yX1_meets : MethodName := ⟨RX1, "meets", "(IZI)I"⟩
abbrev cX1_leaves : ByteArray := prog_3_method_5_code
def yX1_leaves : MethodName := ⟨RX1, "leaves", "(I)I"⟩
abbrev cX1_gains : ByteArray := prog_3_method_6_code
def yX1_gains : MethodName := ⟨RX1, "gains", "(Z)I"⟩
def RX2 : String := "BeardHire$Kind"
def TX2 : u_T := fun k => match k with
  | _ => ("", "", "", false)
def tyX2 : Nat → FieldType := fun k => match k with
  | _ => .int
abbrev wsX20 : List Cond := u_ws RX2 TX2 0
theorem nmX2 : ∀ a, a < 0 → ∀ b, b < 0 → a ≠ b → (TX2 a).2.1 ≠ (TX2 b).2.1 := by decide +kernel
theorem tyX2_ok : ∀ k, k < 0 → parseFieldDescriptor (TX2 k).2.2.1 = some (tyX2 k) := by decide +kernel
abbrev cX2_init : ByteArray := prog_4_method_1_code
def yX2_init : MethodName := ⟨RX2, "<init>", "()V"⟩
abbrev cX2_title : ByteArray := prog_4_method_2_code
def yX2_title : MethodName := ⟨RX2, "title", "()Ljava/lang/String;"⟩
abbrev cX2_costs : ByteArray := prog_4_method_3_code
def yX2_costs : MethodName := ⟨RX2, "costs", "(II)I"⟩
abbrev cX2_meets : ByteArray := prog_4_method_4_code
def yX2_meets : MethodName := ⟨RX2, "meets", "(IZI)I"⟩
abbrev cX2_leaves : ByteArray := prog_4_method_5_code
def yX2_leaves : MethodName := ⟨RX2, "leaves", "(I)I"⟩
abbrev cX2_gains : ByteArray := prog_4_method_6_code
def yX2_gains : MethodName := ⟨RX2, "gains", "(Z)I"⟩
def RX3 : String := "BeardHire$Moustache"
def TX3 : u_T := fun k => match k with
  | _ => ("", "", "", false)
def tyX3 : Nat → FieldType := fun k => match k with
  | _ => .int
abbrev wsX30 : List Cond := u_ws RX3 TX3 0
theorem nmX3 : ∀ a, a < 0 → ∀ b, b < 0 → a ≠ b → (TX3 a).2.1 ≠ (TX3 b).2.1 := by decide +kernel
theorem tyX3_ok : ∀ k, k < 0 → parseFieldDescriptor (TX3 k).2.2.1 = some (tyX3 k) := by decide +kernel
abbrev cX3_init : ByteArray := prog_5_method_1_code
def yX3_init : MethodName := ⟨RX3, "<init>", "()V"⟩
abbrev cX3_title : ByteArray := prog_5_method_2_code
def yX3_title : MethodName := ⟨RX3, "title", "()Ljava/lang/String;"⟩
abbrev cX3_costs : ByteArray := prog_5_method_3_code
def yX3_costs : MethodName := ⟨RX3, "costs", "(II)I"⟩
abbrev cX3_meets : ByteArray := prog_5_method_4_code
def yX3_meets : MethodName := ⟨RX3, "meets", "(IZI)I"⟩
abbrev cX3_leaves : ByteArray := prog_5_method_5_code
def yX3_leaves : MethodName := ⟨RX3, "leaves", "(I)I"⟩
abbrev cX3_gains : ByteArray := prog_5_method_6_code
def yX3_gains : MethodName := ⟨RX3, "gains", "(Z)I"⟩
def RX4 : String := "BeardHire$Patriarch"
def TX4 : u_T := fun k => match k with
  | _ => ("", "", "", false)
def tyX4 : Nat → FieldType := fun k => match k with
  | _ => .int
abbrev wsX40 : List Cond := u_ws RX4 TX4 0
theorem nmX4 : ∀ a, a < 0 → ∀ b, b < 0 → a ≠ b → (TX4 a).2.1 ≠ (TX4 b).2.1 := by decide +kernel
theorem tyX4_ok : ∀ k, k < 0 → parseFieldDescriptor (TX4 k).2.2.1 = some (tyX4 k) := by decide +kernel
abbrev cX4_init : ByteArray := prog_6_method_1_code
def yX4_init : MethodName := ⟨RX4, "<init>", "()V"⟩
abbrev cX4_title : ByteArray := prog_6_method_2_code
def yX4_title : MethodName := ⟨RX4, "title", "()Ljava/lang/String;"⟩
abbrev cX4_costs : ByteArray := prog_6_method_3_code
def yX4_costs : MethodName := ⟨RX4, "costs", "(II)I"⟩
abbrev cX4_meets : ByteArray := prog_6_method_4_code
def yX4_meets : MethodName := ⟨RX4, "meets", "(IZI)I"⟩
abbrev cX4_gains : ByteArray := prog_6_method_5_code
def yX4_gains : MethodName := ⟨RX4, "gains", "(Z)I"⟩
def RX5 : String := "BeardHire$Sheet"
def TX5 : u_T := fun k => match k with
  | 0 => ("BeardHire$Sheet", "numbers", "[J", true)
  | 1 => ("BeardHire$Sheet", "bits", "I", false)
  | _ => ("BeardHire$Sheet", "length", "I", false)
def tyX5 : Nat → FieldType := fun k => match k with
  | 0 => .array .long
  | 1 => .int
  | _ => .int
abbrev wsX50 : List Cond := u_ws RX5 TX5 3
theorem nmX5 : ∀ a, a < 3 → ∀ b, b < 3 → a ≠ b → (TX5 a).2.1 ≠ (TX5 b).2.1 := by decide +kernel
theorem tyX5_ok : ∀ k, k < 3 → parseFieldDescriptor (TX5 k).2.2.1 = some (tyX5 k) := by decide +kernel
abbrev cX5_init : ByteArray := prog_7_method_1_code
def yX5_init : MethodName := ⟨RX5, "<init>", "()V"⟩
abbrev cX5_layOut : ByteArray := prog_7_method_2_code
def yX5_layOut : MethodName := ⟨RX5, "layOut", "(II)V"⟩
abbrev cX5_isMissing : ByteArray := prog_7_method_3_code
def yX5_isMissing : MethodName := ⟨RX5, "isMissing", "()Z"⟩
abbrev cX5_put : ByteArray := prog_7_method_4_code
def yX5_put : MethodName := ⟨RX5, "put", "(IJ)V"⟩
abbrev cX5_hasSpan : ByteArray := prog_7_method_5_code
def yX5_hasSpan : MethodName := ⟨RX5, "hasSpan", "(II)Z"⟩
def RX6 : String := "BeardHire$Text"
def TX6 : u_T := fun k => match k with
  | 0 => ("BeardHire$Text", "manners", "[LBeardHire$Kind;", true)
  | 1 => ("BeardHire$Text", "tape", "[I", true)
  | 2 => ("BeardHire$Text", "length", "I", false)
  | 3 => ("BeardHire$Text", "draft", "LBeardHire$Trade;", true)
  | 4 => ("BeardHire$Text", "token", "I", false)
  | 5 => ("BeardHire$Text", "first", "I", false)
  | 6 => ("BeardHire$Text", "next", "I", false)
  | _ => ("BeardHire$Text", "value", "I", false)
def tyX6 : Nat → FieldType := fun k => match k with
  | 0 => .array (.object "BeardHire$Kind")
  | 1 => .array .int
  | 2 => .int
  | 3 => .object "BeardHire$Trade"
  | 4 => .int
  | 5 => .int
  | 6 => .int
  | _ => .int
abbrev wsX60 : List Cond := u_ws RX6 TX6 8
theorem nmX6 : ∀ a, a < 8 → ∀ b, b < 8 → a ≠ b → (TX6 a).2.1 ≠ (TX6 b).2.1 := by decide +kernel
theorem tyX6_ok : ∀ k, k < 8 → parseFieldDescriptor (TX6 k).2.2.1 = some (tyX6 k) := by decide +kernel
abbrev cX6_init : ByteArray := prog_8_method_1_code
def yX6_init : MethodName := ⟨RX6, "<init>", "([LBeardHire$Kind;LBeardHire$Trade;)V"⟩
abbrev cX6_append : ByteArray := prog_8_method_2_code
def yX6_append : MethodName := ⟨RX6, "append", "(I)V"⟩
abbrev cX6_tellAll : ByteArray := prog_8_method_3_code
def yX6_tellAll : MethodName := ⟨RX6, "tellAll", "()I"⟩
abbrev cX6_tellItem : ByteArray := prog_8_method_4_code
def yX6_tellItem : MethodName := ⟨RX6, "tellItem", "()Z"⟩
abbrev cX6_tellBeard : ByteArray := prog_8_method_5_code
def yX6_tellBeard : MethodName := ⟨RX6, "tellBeard", "(I)Z"⟩
abbrev cX6_tellWearer : ByteArray := prog_8_method_6_code
def yX6_tellWearer : MethodName := ⟨RX6, "tellWearer", "()Z"⟩
abbrev cX6_tellHouse : ByteArray := prog_8_method_7_code
def yX6_tellHouse : MethodName := ⟨RX6, "tellHouse", "()Z"⟩
abbrev cX6_tellHire : ByteArray := prog_8_method_8_code
def yX6_tellHire : MethodName := ⟨RX6, "tellHire", "()Z"⟩
abbrev cX6_isWord : ByteArray := prog_8_method_9_code
def yX6_isWord : MethodName := ⟨RX6, "isWord", "(Ljava/lang/String;)Z"⟩
abbrev cX6_isNumber : ByteArray := prog_8_method_10_code
def yX6_isNumber : MethodName := ⟨RX6, "isNumber", "(I)Z"⟩
abbrev cX6_takeNumber : ByteArray := prog_8_method_11_code
def yX6_takeNumber : MethodName := ⟨RX6, "takeNumber", "()I"⟩
abbrev cX6_advance : ByteArray := prog_8_method_12_code
def yX6_advance : MethodName := ⟨RX6, "advance", "()V"⟩
abbrev cX6_isLetter : ByteArray := prog_8_method_13_code
def yX6_isLetter : MethodName := ⟨RX6, "isLetter", "(I)Z"⟩
abbrev cX6_isDigit : ByteArray := prog_8_method_14_code
def yX6_isDigit : MethodName := ⟨RX6, "isDigit", "(I)Z"⟩
def RX7 : String := "BeardHire$Trade"
def TX7 : u_T := fun k => match k with
  | 0 => ("BeardHire$Trade", "manners", "[LBeardHire$Kind;", true)
  | 1 => ("BeardHire$Trade", "night", "I", false)
  | 2 => ("BeardHire$Trade", "beards", "I", false)
  | 3 => ("BeardHire$Trade", "wearers", "I", false)
  | 4 => ("BeardHire$Trade", "kinds", "[I", true)
  | 5 => ("BeardHire$Trade", "fames", "[I", true)
  | 6 => ("BeardHire$Trade", "hoards", "[I", true)
  | 7 => ("BeardHire$Trade", "wornBy", "[I", true)
  | 8 => ("BeardHire$Trade", "purses", "[I", true)
  | 9 => ("BeardHire$Trade", "rounds", "[I", true)
  | 10 => ("BeardHire$Trade", "wears", "[I", true)
  | 11 => ("BeardHire$Trade", "moods", "[I", true)
  | _ => ("BeardHire$Trade", "remembered", "[I", true)
def tyX7 : Nat → FieldType := fun k => match k with
  | 0 => .array (.object "BeardHire$Kind")
  | 1 => .int
  | 2 => .int
  | 3 => .int
  | 4 => .array .int
  | 5 => .array .int
  | 6 => .array .int
  | 7 => .array .int
  | 8 => .array .int
  | 9 => .array .int
  | 10 => .array .int
  | 11 => .array .int
  | _ => .array .int
abbrev wsX70 : List Cond := u_ws RX7 TX7 13
theorem nmX7 : ∀ a, a < 13 → ∀ b, b < 13 → a ≠ b → (TX7 a).2.1 ≠ (TX7 b).2.1 := by decide +kernel
theorem tyX7_ok : ∀ k, k < 13 → parseFieldDescriptor (TX7 k).2.2.1 = some (tyX7 k) := by decide +kernel
abbrev cX7_init : ByteArray := prog_9_method_1_code
def yX7_init : MethodName := ⟨RX7, "<init>", "([LBeardHire$Kind;)V"⟩
abbrev cX7_become : ByteArray := prog_9_method_2_code
def yX7_become : MethodName := ⟨RX7, "become", "(LBeardHire$Trade;)V"⟩
abbrev cX7_addBeard : ByteArray := prog_9_method_3_code
def yX7_addBeard : MethodName := ⟨RX7, "addBeard", "(I)I"⟩
abbrev cX7_addWearer : ByteArray := prog_9_method_4_code
def yX7_addWearer : MethodName := ⟨RX7, "addWearer", "(I)I"⟩
abbrev cX7_putOn : ByteArray := prog_9_method_5_code
def yX7_putOn : MethodName := ⟨RX7, "putOn", "(II)V"⟩
abbrev cX7_takeOff : ByteArray := prog_9_method_6_code
def yX7_takeOff : MethodName := ⟨RX7, "takeOff", "(II)V"⟩
abbrev cX7_isMonday : ByteArray := prog_9_method_7_code
def yX7_isMonday : MethodName := ⟨RX7, "isMonday", "()Z"⟩
abbrev cX7_houseTonight : ByteArray := prog_9_method_8_code
def yX7_houseTonight : MethodName := ⟨RX7, "houseTonight", "(I)I"⟩
abbrev cX7_costOf : ByteArray := prog_9_method_9_code
def yX7_costOf : MethodName := ⟨RX7, "costOf", "(I)I"⟩
abbrev cX7_meetingAt : ByteArray := prog_9_method_10_code
def yX7_meetingAt : MethodName := ⟨RX7, "meetingAt", "(II)I"⟩
abbrev cX7_leavingOf : ByteArray := prog_9_method_11_code
def yX7_leavingOf : MethodName := ⟨RX7, "leavingOf", "(I)I"⟩
abbrev cX7_gainOf : ByteArray := prog_9_method_12_code
def yX7_gainOf : MethodName := ⟨RX7, "gainOf", "(I)I"⟩
abbrev cX7_passNights : ByteArray := prog_9_method_13_code
def yX7_passNights : MethodName := ⟨RX7, "passNights", "(I)V"⟩
abbrev cX7_passNightsOfWearer : ByteArray := prog_9_method_14_code
def yX7_passNightsOfWearer : MethodName := ⟨RX7, "passNightsOfWearer", "(II)V"⟩
abbrev cX7_passNight : ByteArray := prog_9_method_15_code
def yX7_passNight : MethodName := ⟨RX7, "passNight", "()V"⟩
abbrev cX7_spendNight : ByteArray := prog_9_method_16_code
def yX7_spendNight : MethodName := ⟨RX7, "spendNight", "(II)V"⟩
abbrev cX7_combOut : ByteArray := prog_9_method_17_code
def yX7_combOut : MethodName := ⟨RX7, "combOut", "()V"⟩
abbrev cX7_held : ByteArray := prog_9_method_18_code
def yX7_held : MethodName := ⟨RX7, "held", "(III)I"⟩
abbrev cX7_guestsAt : ByteArray := prog_9_method_19_code
def yX7_guestsAt : MethodName := ⟨RX7, "guestsAt", "(I)I"⟩
abbrev cX7_beardsInShop : ByteArray := prog_9_method_20_code
def yX7_beardsInShop : MethodName := ⟨RX7, "beardsInShop", "()I"⟩
abbrev cX7_wearersInBeards : ByteArray := prog_9_method_21_code
def yX7_wearersInBeards : MethodName := ⟨RX7, "wearersInBeards", "()I"⟩
abbrev cX7_allPurses : ByteArray := prog_9_method_22_code
def yX7_allPurses : MethodName := ⟨RX7, "allPurses", "()I"⟩
abbrev cX7_allHoards : ByteArray := prog_9_method_23_code
def yX7_allHoards : MethodName := ⟨RX7, "allHoards", "()I"⟩
def RX8 : String := "BeardHire$White"
def TX8 : u_T := fun k => match k with
  | _ => ("", "", "", false)
def tyX8 : Nat → FieldType := fun k => match k with
  | _ => .int
abbrev wsX80 : List Cond := u_ws RX8 TX8 0
theorem nmX8 : ∀ a, a < 0 → ∀ b, b < 0 → a ≠ b → (TX8 a).2.1 ≠ (TX8 b).2.1 := by decide +kernel
theorem tyX8_ok : ∀ k, k < 0 → parseFieldDescriptor (TX8 k).2.2.1 = some (tyX8 k) := by decide +kernel
abbrev cX8_init : ByteArray := prog_10_method_1_code
def yX8_init : MethodName := ⟨RX8, "<init>", "()V"⟩
abbrev cX8_title : ByteArray := prog_10_method_2_code
def yX8_title : MethodName := ⟨RX8, "title", "()Ljava/lang/String;"⟩
abbrev cX8_costs : ByteArray := prog_10_method_3_code
def yX8_costs : MethodName := ⟨RX8, "costs", "(II)I"⟩
abbrev cX8_meets : ByteArray := prog_10_method_4_code
def yX8_meets : MethodName := ⟨RX8, "meets", "(IZI)I"⟩
abbrev cX8_leaves : ByteArray := prog_10_method_5_code
def yX8_leaves : MethodName := ⟨RX8, "leaves", "(I)I"⟩
def RX9 : String := "BeardHire"
def TX9 : u_T := fun k => match k with
  | 0 => ("BeardHire", "live", "LBeardHire$Trade;", true)
  | 1 => ("BeardHire", "trial", "LBeardHire$Trade;", true)
  | 2 => ("BeardHire", "kept", "LBeardHire$Trade;", true)
  | 3 => ("BeardHire", "isKept", "Z", false)
  | 4 => ("BeardHire", "text", "LBeardHire$Text;", true)
  | 5 => ("BeardHire", "sheets", "[LBeardHire$Sheet;", true)
  | _ => ("BeardHire", "findings", "[I", true)
def tyX9 : Nat → FieldType := fun k => match k with
  | 0 => .object "BeardHire$Trade"
  | 1 => .object "BeardHire$Trade"
  | 2 => .object "BeardHire$Trade"
  | 3 => .boolean
  | 4 => .object "BeardHire$Text"
  | 5 => .array (.object "BeardHire$Sheet")
  | _ => .array .int
abbrev wsX90 : List Cond := u_ws RX9 TX9 7
theorem nmX9 : ∀ a, a < 7 → ∀ b, b < 7 → a ≠ b → (TX9 a).2.1 ≠ (TX9 b).2.1 := by decide +kernel
theorem tyX9_ok : ∀ k, k < 7 → parseFieldDescriptor (TX9 k).2.2.1 = some (tyX9 k) := by decide +kernel
abbrev cX9_init : ByteArray := prog_1_method_1_code
def yX9_init : MethodName := ⟨RX9, "<init>", "()V"⟩
abbrev cX9_mood : ByteArray := prog_1_method_2_code
def yX9_mood : MethodName := ⟨RX9, "mood", "(II)I"⟩
abbrev cX9_recall : ByteArray := prog_1_method_3_code
def yX9_recall : MethodName := ⟨RX9, "recall", "(II)I"⟩
abbrev cX9_houseOf : ByteArray := prog_1_method_4_code
def yX9_houseOf : MethodName := ⟨RX9, "houseOf", "(II)I"⟩
abbrev cX9_now : ByteArray := prog_1_method_5_code
def yX9_now : MethodName := ⟨RX9, "now", "(I)I"⟩
abbrev cX9_beard : ByteArray := prog_1_method_6_code
def yX9_beard : MethodName := ⟨RX9, "beard", "(I)I"⟩
abbrev cX9_of : ByteArray := prog_1_method_7_code
def yX9_of : MethodName := ⟨RX9, "of", "(II)I"⟩
abbrev cX9_can : ByteArray := prog_1_method_8_code
def yX9_can : MethodName := ⟨RX9, "can", "(III)I"⟩
abbrev cX9_set : ByteArray := prog_1_method_9_code
def yX9_set : MethodName := ⟨RX9, "set", "(III)I"⟩
abbrev cX9_turn : ByteArray := prog_1_method_10_code
def yX9_turn : MethodName := ⟨RX9, "turn", "(II)I"⟩
abbrev cX9_as : ByteArray := prog_1_method_11_code
def yX9_as : MethodName := ⟨RX9, "as", "(II)I"⟩
abbrev cX9_wearer : ByteArray := prog_1_method_12_code
def yX9_wearer : MethodName := ⟨RX9, "wearer", "(I)I"⟩
abbrev cX9_wearerOf : ByteArray := prog_1_method_13_code
def yX9_wearerOf : MethodName := ⟨RX9, "wearerOf", "(II)I"⟩
abbrev cX9_give : ByteArray := prog_1_method_14_code
def yX9_give : MethodName := ⟨RX9, "give", "(III)I"⟩
abbrev cX9_hire : ByteArray := prog_1_method_15_code
def yX9_hire : MethodName := ⟨RX9, "hire", "(II)I"⟩
abbrev cX9_back : ByteArray := prog_1_method_16_code
def yX9_back : MethodName := ⟨RX9, "back", "(I)I"⟩
abbrev cX9_nights : ByteArray := prog_1_method_17_code
def yX9_nights : MethodName := ⟨RX9, "nights", "(I)I"⟩
abbrev cX9_on : ByteArray := prog_1_method_18_code
def yX9_on : MethodName := ⟨RX9, "on", "(III)I"⟩
abbrev cX9_then : ByteArray := prog_1_method_19_code
def yX9_then : MethodName := ⟨RX9, "then", "(III)I"⟩
abbrev cX9_fond : ByteArray := prog_1_method_20_code
def yX9_fond : MethodName := ⟨RX9, "fond", "(II)I"⟩
abbrev cX9_home : ByteArray := prog_1_method_21_code
def yX9_home : MethodName := ⟨RX9, "home", "(I)I"⟩
abbrev cX9_falls : ByteArray := prog_1_method_22_code
def yX9_falls : MethodName := ⟨RX9, "falls", "(II)I"⟩
abbrev cX9_best : ByteArray := prog_1_method_23_code
def yX9_best : MethodName := ⟨RX9, "best", "(II)I"⟩
abbrev cX9_round : ByteArray := prog_1_method_24_code
def yX9_round : MethodName := ⟨RX9, "round", "(II)I"⟩
abbrev cX9_kind : ByteArray := prog_1_method_25_code
def yX9_kind : MethodName := ⟨RX9, "kind", "(II)I"⟩
abbrev cX9_enough : ByteArray := prog_1_method_26_code
def yX9_enough : MethodName := ⟨RX9, "enough", "(II)I"⟩
abbrev cX9_please : ByteArray := prog_1_method_27_code
def yX9_please : MethodName := ⟨RX9, "please", "(IIII)I"⟩
abbrev cX9_richest : ByteArray := prog_1_method_28_code
def yX9_richest : MethodName := ⟨RX9, "richest", "(I)I"⟩
abbrev cX9_feed : ByteArray := prog_1_method_29_code
def yX9_feed : MethodName := ⟨RX9, "feed", "(II)I"⟩
abbrev cX9_wipe : ByteArray := prog_1_method_30_code
def yX9_wipe : MethodName := ⟨RX9, "wipe", "()I"⟩
abbrev cX9_shop : ByteArray := prog_1_method_31_code
def yX9_shop : MethodName := ⟨RX9, "shop", "()I"⟩
abbrev cX9_sheet : ByteArray := prog_1_method_32_code
def yX9_sheet : MethodName := ⟨RX9, "sheet", "(III)I"⟩
abbrev cX9_write : ByteArray := prog_1_method_33_code
def yX9_write : MethodName := ⟨RX9, "write", "(IIJ)J"⟩
abbrev cX9_copy : ByteArray := prog_1_method_34_code
def yX9_copy : MethodName := ⟨RX9, "copy", "(IIIII)I"⟩
abbrev cX9_lays : ByteArray := prog_1_method_35_code
def yX9_lays : MethodName := ⟨RX9, "lays", "(I)I"⟩
abbrev cX9_book : ByteArray := prog_1_method_36_code
def yX9_book : MethodName := ⟨RX9, "book", "(II)I"⟩
abbrev cX9_read : ByteArray := prog_1_method_37_code
def yX9_read : MethodName := ⟨RX9, "read", "(III)I"⟩
abbrev cX9_image : ByteArray := prog_1_method_38_code
def yX9_image : MethodName := ⟨RX9, "image", "()I"⟩
abbrev cX9_undo : ByteArray := prog_1_method_39_code
def yX9_undo : MethodName := ⟨RX9, "undo", "()I"⟩
abbrev cX9_tear : ByteArray := prog_1_method_40_code
def yX9_tear : MethodName := ⟨RX9, "tear", "()I"⟩
abbrev cX9_count : ByteArray := prog_1_method_41_code
def yX9_count : MethodName := ⟨RX9, "count", "(I)I"⟩
abbrev cX9_status : ByteArray := prog_1_method_42_code
def yX9_status : MethodName := ⟨RX9, "status", "(I)I"⟩
abbrev cX9_finding : ByteArray := prog_1_method_43_code
def yX9_finding : MethodName := ⟨RX9, "finding", "(I)I"⟩
abbrev cX9_isBeard : ByteArray := prog_1_method_44_code
def yX9_isBeard : MethodName := ⟨RX9, "isBeard", "(I)Z"⟩
abbrev cX9_isWearer : ByteArray := prog_1_method_45_code
def yX9_isWearer : MethodName := ⟨RX9, "isWearer", "(I)Z"⟩
abbrev cX9_isHouse : ByteArray := prog_1_method_46_code
def yX9_isHouse : MethodName := ⟨RX9, "isHouse", "(I)Z"⟩
abbrev cX9_isKind : ByteArray := prog_1_method_47_code
def yX9_isKind : MethodName := ⟨RX9, "isKind", "(I)Z"⟩
abbrev cX9_isSheet : ByteArray := prog_1_method_48_code
def yX9_isSheet : MethodName := ⟨RX9, "isSheet", "(I)Z"⟩
abbrev cX9_isWithin : ByteArray := prog_1_method_49_code
def yX9_isWithin : MethodName := ⟨RX9, "isWithin", "(III)Z"⟩
abbrev cX9_isUnder : ByteArray := prog_1_method_50_code
def yX9_isUnder : MethodName := ⟨RX9, "isUnder", "(II)Z"⟩
abbrev cX9_trialFollows : ByteArray := prog_1_method_51_code
def yX9_trialFollows : MethodName := ⟨RX9, "trialFollows", "(LBeardHire$Sheet;I)Z"⟩
def RX10 : String := "BeardHireModel"
def TX10 : u_T := fun k => match k with
  | 0 => ("BeardHireModel", "s", "[I", true)
  | 1 => ("BeardHireModel", "keptS", "[I", true)
  | 2 => ("BeardHireModel", "other", "[I", true)
  | 3 => ("BeardHireModel", "aside", "[I", true)
  | 4 => ("BeardHireModel", "statuses", "[I", true)
  | 5 => ("BeardHireModel", "isKept", "Z", false)
  | 6 => ("BeardHireModel", "tape", "[I", true)
  | 7 => ("BeardHireModel", "taped", "I", false)
  | 8 => ("BeardHireModel", "from", "I", false)
  | 9 => ("BeardHireModel", "to", "I", false)
  | 10 => ("BeardHireModel", "value", "I", false)
  | 11 => ("BeardHireModel", "isWrong", "Z", false)
  | 12 => ("BeardHireModel", "bitsOf", "[I", true)
  | 13 => ("BeardHireModel", "sizeOf", "[I", true)
  | 14 => ("BeardHireModel", "numbers", "[J", true)
  | _ => ("BeardHireModel", "moved", "[J", true)
def tyX10 : Nat → FieldType := fun k => match k with
  | 0 => .array .int
  | 1 => .array .int
  | 2 => .array .int
  | 3 => .array .int
  | 4 => .array .int
  | 5 => .boolean
  | 6 => .array .int
  | 7 => .int
  | 8 => .int
  | 9 => .int
  | 10 => .int
  | 11 => .boolean
  | 12 => .array .int
  | 13 => .array .int
  | 14 => .array .long
  | _ => .array .long
abbrev wsX100 : List Cond := u_ws RX10 TX10 16
theorem nmX10 : ∀ a, a < 16 → ∀ b, b < 16 → a ≠ b → (TX10 a).2.1 ≠ (TX10 b).2.1 := by decide +kernel
theorem tyX10_ok : ∀ k, k < 16 → parseFieldDescriptor (TX10 k).2.2.1 = some (tyX10 k) := by decide +kernel
abbrev cX10_init : ByteArray := prog_12_method_1_code
def yX10_init : MethodName := ⟨RX10, "<init>", "()V"⟩
abbrev cX10_in : ByteArray := prog_12_method_2_code
def yX10_in : MethodName := ⟨RX10, "in", "(JJJ)Z"⟩
abbrev cX10_finds : ByteArray := prog_12_method_3_code
def yX10_finds : MethodName := ⟨RX10, "finds", "(I)I"⟩
abbrev cX10_saves : ByteArray := prog_12_method_4_code
def yX10_saves : MethodName := ⟨RX10, "saves", "()V"⟩
abbrev cX10_putsBack : ByteArray := prog_12_method_5_code
def yX10_putsBack : MethodName := ⟨RX10, "putsBack", "()V"⟩
abbrev cX10_laysAside : ByteArray := prog_12_method_6_code
def yX10_laysAside : MethodName := ⟨RX10, "laysAside", "()V"⟩
abbrev cX10_takesBack : ByteArray := prog_12_method_7_code
def yX10_takesBack : MethodName := ⟨RX10, "takesBack", "(I)I"⟩
abbrev cX10_becomes : ByteArray := prog_12_method_8_code
def yX10_becomes : MethodName := ⟨RX10, "becomes", "(II)I"⟩
abbrev cX10_houseSpot : ByteArray := prog_12_method_9_code
def yX10_houseSpot : MethodName := ⟨RX10, "houseSpot", "(II)I"⟩
abbrev cX10_beardSpot : ByteArray := prog_12_method_10_code
def yX10_beardSpot : MethodName := ⟨RX10, "beardSpot", "(II)I"⟩
abbrev cX10_wearerSpot : ByteArray := prog_12_method_11_code
def yX10_wearerSpot : MethodName := ⟨RX10, "wearerSpot", "(II)I"⟩
abbrev cX10_house : ByteArray := prog_12_method_12_code
def yX10_house : MethodName := ⟨RX10, "house", "(II)I"⟩
abbrev cX10_its : ByteArray := prog_12_method_13_code
def yX10_its : MethodName := ⟨RX10, "its", "(II)I"⟩
abbrev cX10_theirs : ByteArray := prog_12_method_14_code
def yX10_theirs : MethodName := ⟨RX10, "theirs", "(II)I"⟩
abbrev cX10_isHouse : ByteArray := prog_12_method_15_code
def yX10_isHouse : MethodName := ⟨RX10, "isHouse", "(I)Z"⟩
abbrev cX10_isBeard : ByteArray := prog_12_method_16_code
def yX10_isBeard : MethodName := ⟨RX10, "isBeard", "(I)Z"⟩
abbrev cX10_isWearer : ByteArray := prog_12_method_17_code
def yX10_isWearer : MethodName := ⟨RX10, "isWearer", "(I)Z"⟩
abbrev cX10_isKind : ByteArray := prog_12_method_18_code
def yX10_isKind : MethodName := ⟨RX10, "isKind", "(I)Z"⟩
abbrev cX10_held : ByteArray := prog_12_method_19_code
def yX10_held : MethodName := ⟨RX10, "held", "(III)I"⟩
abbrev cX10_isMonday : ByteArray := prog_12_method_20_code
def yX10_isMonday : MethodName := ⟨RX10, "isMonday", "()Z"⟩
abbrev cX10_placeOf : ByteArray := prog_12_method_21_code
def yX10_placeOf : MethodName := ⟨RX10, "placeOf", "(I)I"⟩
abbrev cX10_wornBy : ByteArray := prog_12_method_22_code
def yX10_wornBy : MethodName := ⟨RX10, "wornBy", "(I)I"⟩
abbrev cX10_mood : ByteArray := prog_12_method_23_code
def yX10_mood : MethodName := ⟨RX10, "mood", "(II)I"⟩
abbrev cX10_recall : ByteArray := prog_12_method_24_code
def yX10_recall : MethodName := ⟨RX10, "recall", "(II)I"⟩
abbrev cX10_goers : ByteArray := prog_12_method_25_code
def yX10_goers : MethodName := ⟨RX10, "goers", "(I)I"⟩
abbrev cX10_houseOf : ByteArray := prog_12_method_26_code
def yX10_houseOf : MethodName := ⟨RX10, "houseOf", "(II)I"⟩
abbrev cX10_inShop : ByteArray := prog_12_method_27_code
def yX10_inShop : MethodName := ⟨RX10, "inShop", "()I"⟩
abbrev cX10_bearded : ByteArray := prog_12_method_28_code
def yX10_bearded : MethodName := ⟨RX10, "bearded", "()I"⟩
abbrev cX10_purses : ByteArray := prog_12_method_29_code
def yX10_purses : MethodName := ⟨RX10, "purses", "()I"⟩
abbrev cX10_hoards : ByteArray := prog_12_method_30_code
def yX10_hoards : MethodName := ⟨RX10, "hoards", "()I"⟩
abbrev cX10_now : ByteArray := prog_12_method_31_code
def yX10_now : MethodName := ⟨RX10, "now", "(I)I"⟩
abbrev cX10_costsOf : ByteArray := prog_12_method_32_code
def yX10_costsOf : MethodName := ⟨RX10, "costsOf", "(I)I"⟩
abbrev cX10_meetsOf : ByteArray := prog_12_method_33_code
def yX10_meetsOf : MethodName := ⟨RX10, "meetsOf", "(II)I"⟩
abbrev cX10_leavesOf : ByteArray := prog_12_method_34_code
def yX10_leavesOf : MethodName := ⟨RX10, "leavesOf", "(I)I"⟩
abbrev cX10_gainsOf : ByteArray := prog_12_method_35_code
def yX10_gainsOf : MethodName := ⟨RX10, "gainsOf", "(I)I"⟩
abbrev cX10_addsBeard : ByteArray := prog_12_method_36_code
def yX10_addsBeard : MethodName := ⟨RX10, "addsBeard", "(I)I"⟩
abbrev cX10_beard : ByteArray := prog_12_method_37_code
def yX10_beard : MethodName := ⟨RX10, "beard", "(I)I"⟩
abbrev cX10_of : ByteArray := prog_12_method_38_code
def yX10_of : MethodName := ⟨RX10, "of", "(II)I"⟩
abbrev cX10_can : ByteArray := prog_12_method_39_code
def yX10_can : MethodName := ⟨RX10, "can", "(III)I"⟩
abbrev cX10_set : ByteArray := prog_12_method_40_code
def yX10_set : MethodName := ⟨RX10, "set", "(III)I"⟩
abbrev cX10_turn : ByteArray := prog_12_method_41_code
def yX10_turn : MethodName := ⟨RX10, "turn", "(II)I"⟩
abbrev cX10_isUnder : ByteArray := prog_12_method_42_code
def yX10_isUnder : MethodName := ⟨RX10, "isUnder", "(II)Z"⟩
abbrev cX10_as : ByteArray := prog_12_method_43_code
def yX10_as : MethodName := ⟨RX10, "as", "(II)I"⟩
abbrev cX10_addsWearer : ByteArray := prog_12_method_44_code
def yX10_addsWearer : MethodName := ⟨RX10, "addsWearer", "(I)I"⟩
abbrev cX10_wearer : ByteArray := prog_12_method_45_code
def yX10_wearer : MethodName := ⟨RX10, "wearer", "(I)I"⟩
abbrev cX10_wearerOf : ByteArray := prog_12_method_46_code
def yX10_wearerOf : MethodName := ⟨RX10, "wearerOf", "(II)I"⟩
abbrev cX10_give : ByteArray := prog_12_method_47_code
def yX10_give : MethodName := ⟨RX10, "give", "(III)I"⟩
abbrev cX10_hire : ByteArray := prog_12_method_48_code
def yX10_hire : MethodName := ⟨RX10, "hire", "(II)I"⟩
abbrev cX10_back : ByteArray := prog_12_method_49_code
def yX10_back : MethodName := ⟨RX10, "back", "(I)I"⟩
abbrev cX10_goesOut : ByteArray := prog_12_method_50_code
def yX10_goesOut : MethodName := ⟨RX10, "goesOut", "(II)V"⟩
abbrev cX10_wears : ByteArray := prog_12_method_51_code
def yX10_wears : MethodName := ⟨RX10, "wears", "(II)V"⟩
abbrev cX10_night : ByteArray := prog_12_method_52_code
def yX10_night : MethodName := ⟨RX10, "night", "()V"⟩
abbrev cX10_nightsGo : ByteArray := prog_12_method_53_code
def yX10_nightsGo : MethodName := ⟨RX10, "nightsGo", "(I)V"⟩
abbrev cX10_nights : ByteArray := prog_12_method_54_code
def yX10_nights : MethodName := ⟨RX10, "nights", "(I)I"⟩
abbrev cX10_isAhead : ByteArray := prog_12_method_55_code
def yX10_isAhead : MethodName := ⟨RX10, "isAhead", "(I)Z"⟩
abbrev cX10_behind : ByteArray := prog_12_method_56_code
def yX10_behind : MethodName := ⟨RX10, "behind", "(II)I"⟩
abbrev cX10_wornBehind : ByteArray := prog_12_method_57_code
def yX10_wornBehind : MethodName := ⟨RX10, "wornBehind", "(II)I"⟩
abbrev cX10_pursesBehind : ByteArray := prog_12_method_58_code
def yX10_pursesBehind : MethodName := ⟨RX10, "pursesBehind", "(I)I"⟩
abbrev cX10_on : ByteArray := prog_12_method_59_code
def yX10_on : MethodName := ⟨RX10, "on", "(III)I"⟩
abbrev cX10_then : ByteArray := prog_12_method_60_code
def yX10_then : MethodName := ⟨RX10, "then", "(III)I"⟩
abbrev cX10_fond : ByteArray := prog_12_method_61_code
def yX10_fond : MethodName := ⟨RX10, "fond", "(II)I"⟩
abbrev cX10_firstDown : ByteArray := prog_12_method_62_code
def yX10_firstDown : MethodName := ⟨RX10, "firstDown", "(II)I"⟩
abbrev cX10_home : ByteArray := prog_12_method_63_code
def yX10_home : MethodName := ⟨RX10, "home", "(I)I"⟩
abbrev cX10_falls : ByteArray := prog_12_method_64_code
def yX10_falls : MethodName := ⟨RX10, "falls", "(II)I"⟩
abbrev cX10_isSoon : ByteArray := prog_12_method_65_code
def yX10_isSoon : MethodName := ⟨RX10, "isSoon", "(I)Z"⟩
abbrev cX10_best : ByteArray := prog_12_method_66_code
def yX10_best : MethodName := ⟨RX10, "best", "(II)I"⟩
abbrev cX10_mostBy : ByteArray := prog_12_method_67_code
def yX10_mostBy : MethodName := ⟨RX10, "mostBy", "(IIII)I"⟩
abbrev cX10_round : ByteArray := prog_12_method_68_code
def yX10_round : MethodName := ⟨RX10, "round", "(II)I"⟩
abbrev cX10_kind : ByteArray := prog_12_method_69_code
def yX10_kind : MethodName := ⟨RX10, "kind", "(II)I"⟩
abbrev cX10_enough : ByteArray := prog_12_method_70_code
def yX10_enough : MethodName := ⟨RX10, "enough", "(II)I"⟩
abbrev cX10_please : ByteArray := prog_12_method_71_code
def yX10_please : MethodName := ⟨RX10, "please", "(IIII)I"⟩
abbrev cX10_richest : ByteArray := prog_12_method_72_code
def yX10_richest : MethodName := ⟨RX10, "richest", "(I)I"⟩
abbrev cX10_feed : ByteArray := prog_12_method_73_code
def yX10_feed : MethodName := ⟨RX10, "feed", "(II)I"⟩
abbrev cX10_wipe : ByteArray := prog_12_method_74_code
def yX10_wipe : MethodName := ⟨RX10, "wipe", "()I"⟩
abbrev cX10_byteAt : ByteArray := prog_12_method_75_code
def yX10_byteAt : MethodName := ⟨RX10, "byteAt", "(I)I"⟩
abbrev cX10_isLetter : ByteArray := prog_12_method_76_code
def yX10_isLetter : MethodName := ⟨RX10, "isLetter", "(I)Z"⟩
abbrev cX10_isDigit : ByteArray := prog_12_method_77_code
def yX10_isDigit : MethodName := ⟨RX10, "isDigit", "(I)Z"⟩
abbrev cX10_token : ByteArray := prog_12_method_78_code
def yX10_token : MethodName := ⟨RX10, "token", "()V"⟩
abbrev cX10_must : ByteArray := prog_12_method_79_code
def yX10_must : MethodName := ⟨RX10, "must", "(Z)V"⟩
abbrev cX10_word : ByteArray := prog_12_method_80_code
def yX10_word : MethodName := ⟨RX10, "word", "()J"⟩
abbrev cX10_number : ByteArray := prog_12_method_81_code
def yX10_number : MethodName := ⟨RX10, "number", "(II)V"⟩
abbrev cX10_kindHere : ByteArray := prog_12_method_82_code
def yX10_kindHere : MethodName := ⟨RX10, "kindHere", "()I"⟩
abbrev cX10_partItem : ByteArray := prog_12_method_83_code
def yX10_partItem : MethodName := ⟨RX10, "partItem", "(JII)V"⟩
abbrev cX10_beardItem : ByteArray := prog_12_method_84_code
def yX10_beardItem : MethodName := ⟨RX10, "beardItem", "(I)V"⟩
abbrev cX10_wearerItem : ByteArray := prog_12_method_85_code
def yX10_wearerItem : MethodName := ⟨RX10, "wearerItem", "()V"⟩
abbrev cX10_houseItem : ByteArray := prog_12_method_86_code
def yX10_houseItem : MethodName := ⟨RX10, "houseItem", "()V"⟩
abbrev cX10_numberHere : ByteArray := prog_12_method_87_code
def yX10_numberHere : MethodName := ⟨RX10, "numberHere", "()I"⟩
abbrev cX10_hireItem : ByteArray := prog_12_method_88_code
def yX10_hireItem : MethodName := ⟨RX10, "hireItem", "()V"⟩
abbrev cX10_item : ByteArray := prog_12_method_89_code
def yX10_item : MethodName := ⟨RX10, "item", "()V"⟩
abbrev cX10_shop : ByteArray := prog_12_method_90_code
def yX10_shop : MethodName := ⟨RX10, "shop", "()I"⟩
abbrev cX10_isOne : ByteArray := prog_12_method_91_code
def yX10_isOne : MethodName := ⟨RX10, "isOne", "(I)Z"⟩
abbrev cX10_sheet : ByteArray := prog_12_method_92_code
def yX10_sheet : MethodName := ⟨RX10, "sheet", "(III)I"⟩
abbrev cX10_narrowed : ByteArray := prog_12_method_93_code
def yX10_narrowed : MethodName := ⟨RX10, "narrowed", "(IJ)J"⟩
abbrev cX10_wrongSheet : ByteArray := prog_12_method_94_code
def yX10_wrongSheet : MethodName := ⟨RX10, "wrongSheet", "(I)I"⟩
abbrev cX10_write : ByteArray := prog_12_method_95_code
def yX10_write : MethodName := ⟨RX10, "write", "(IIJ)J"⟩
abbrev cX10_copy : ByteArray := prog_12_method_96_code
def yX10_copy : MethodName := ⟨RX10, "copy", "(IIIII)I"⟩
abbrev cX10_lays : ByteArray := prog_12_method_97_code
def yX10_lays : MethodName := ⟨RX10, "lays", "(I)I"⟩
abbrev cX10_book : ByteArray := prog_12_method_98_code
def yX10_book : MethodName := ⟨RX10, "book", "(II)I"⟩
abbrev cX10_isBook : ByteArray := prog_12_method_99_code
def yX10_isBook : MethodName := ⟨RX10, "isBook", "(II)Z"⟩
abbrev cX10_read : ByteArray := prog_12_method_100_code
def yX10_read : MethodName := ⟨RX10, "read", "(III)I"⟩
abbrev cX10_image : ByteArray := prog_12_method_101_code
def yX10_image : MethodName := ⟨RX10, "image", "()I"⟩
abbrev cX10_undo : ByteArray := prog_12_method_102_code
def yX10_undo : MethodName := ⟨RX10, "undo", "()I"⟩
abbrev cX10_tear : ByteArray := prog_12_method_103_code
def yX10_tear : MethodName := ⟨RX10, "tear", "()I"⟩
abbrev cX10_count : ByteArray := prog_12_method_104_code
def yX10_count : MethodName := ⟨RX10, "count", "(I)I"⟩
abbrev cX10_status : ByteArray := prog_12_method_105_code
def yX10_status : MethodName := ⟨RX10, "status", "(I)I"⟩
def RJ9 : String := "java/lang/Math"
def TJ9 : u_T := fun k => match k with
  | _ => ("", "", "", false)
def tyJ9 : Nat → FieldType := fun k => match k with
  | _ => .int
abbrev wsJ90 : List Cond := u_ws RJ9 TJ9 0
theorem nmJ9 : ∀ a, a < 0 → ∀ b, b < 0 → a ≠ b → (TJ9 a).2.1 ≠ (TJ9 b).2.1 := by decide +kernel
theorem tyJ9_ok : ∀ k, k < 0 → parseFieldDescriptor (TJ9 k).2.2.1 = some (tyJ9 k) := by decide +kernel
abbrev cJ9_max_7cf53 : ByteArray := prog_13_method_65_code
def yJ9_max_7cf53 : MethodName := ⟨RJ9, "max", "(II)I"⟩
abbrev cJ9_min_7cf53 : ByteArray := prog_13_method_69_code
def yJ9_min_7cf53 : MethodName := ⟨RJ9, "min", "(II)I"⟩
def RJ0 : String := "java/lang/String"
def TJ0 : u_T := fun k => match k with
  | _ => ("", "", "", false)
def tyJ0 : Nat → FieldType := fun k => match k with
  | _ => .int
abbrev wsJ00 : List Cond := u_ws RJ0 TJ0 0
theorem nmJ0 : ∀ a, a < 0 → ∀ b, b < 0 → a ≠ b → (TJ0 a).2.1 ≠ (TJ0 b).2.1 := by decide +kernel
theorem tyJ0_ok : ∀ k, k < 0 → parseFieldDescriptor (TJ0 k).2.2.1 = some (tyJ0 k) := by decide +kernel
abbrev cJ0_length_8abf5 : ByteArray := prog_14_method_54_code
def yJ0_length_8abf5 : MethodName := ⟨RJ0, "length", "()I"⟩
abbrev cJ0_charAt_5068e : ByteArray := prog_14_method_56_code
def yJ0_charAt_5068e : MethodName := ⟨RJ0, "charAt", "(I)C"⟩
abbrev cJ0_coder_7d493 : ByteArray := prog_14_method_152_code
def yJ0_coder_7d493 : MethodName := ⟨RJ0, "coder", "()B"⟩
abbrev cJ0_isLatin1_aae02 : ByteArray := prog_14_method_154_code
def yJ0_isLatin1_aae02 : MethodName := ⟨RJ0, "isLatin1", "()Z"⟩
abbrev cJ0_checkIndex_df160 : ByteArray := prog_14_method_155_code
def yJ0_checkIndex_df160 : MethodName := ⟨RJ0, "checkIndex", "(II)V"⟩
def RJ1 : String := "java/lang/StringLatin1"
def TJ1 : u_T := fun k => match k with
  | _ => ("", "", "", false)
def tyJ1 : Nat → FieldType := fun k => match k with
  | _ => .int
abbrev wsJ10 : List Cond := u_ws RJ1 TJ1 0
theorem nmJ1 : ∀ a, a < 0 → ∀ b, b < 0 → a ≠ b → (TJ1 a).2.1 ≠ (TJ1 b).2.1 := by decide +kernel
theorem tyJ1_ok : ∀ k, k < 0 → parseFieldDescriptor (TJ1 k).2.2.1 = some (tyJ1 k) := by decide +kernel
abbrev cJ1_charAt_3b067 : ByteArray := prog_15_method_2_code
def yJ1_charAt_3b067 : MethodName := ⟨RJ1, "charAt", "([BI)C"⟩
def RJ2 : String := "java/lang/StringUTF16"
def TJ2 : u_T := fun k => match k with
  | _ => ("", "", "", false)
def tyJ2 : Nat → FieldType := fun k => match k with
  | _ => .int
abbrev wsJ20 : List Cond := u_ws RJ2 TJ2 0
theorem nmJ2 : ∀ a, a < 0 → ∀ b, b < 0 → a ≠ b → (TJ2 a).2.1 ≠ (TJ2 b).2.1 := by decide +kernel
theorem tyJ2_ok : ∀ k, k < 0 → parseFieldDescriptor (TJ2 k).2.2.1 = some (tyJ2 k) := by decide +kernel
abbrev cJ2_getChar_3b067 : ByteArray := prog_16_method_5_code
def yJ2_getChar_3b067 : MethodName := ⟨RJ2, "getChar", "([BI)C"⟩
abbrev cJ2_length_9d52b : ByteArray := prog_16_method_6_code
def yJ2_length_9d52b : MethodName := ⟨RJ2, "length", "([B)I"⟩
abbrev cJ2_charAt_3b067 : ByteArray := prog_16_method_83_code
def yJ2_charAt_3b067 : MethodName := ⟨RJ2, "charAt", "([BI)C"⟩
abbrev cJ2_checkIndex_2214a : ByteArray := prog_16_method_91_code
def yJ2_checkIndex_2214a : MethodName := ⟨RJ2, "checkIndex", "(I[B)V"⟩
def RJ10 : String := "java/lang/System"
def TJ10 : u_T := fun k => match k with
  | _ => ("", "", "", false)
def tyJ10 : Nat → FieldType := fun k => match k with
  | _ => .int
abbrev wsJ100 : List Cond := u_ws RJ10 TJ10 0
theorem nmJ10 : ∀ a, a < 0 → ∀ b, b < 0 → a ≠ b → (TJ10 a).2.1 ≠ (TJ10 b).2.1 := by decide +kernel
theorem tyJ10_ok : ∀ k, k < 0 → parseFieldDescriptor (TJ10 k).2.2.1 = some (tyJ10 k) := by decide +kernel
def RJ3 : String := "jdk/internal/util/Preconditions"
def TJ3 : u_T := fun k => match k with
  | _ => ("", "", "", false)
def tyJ3 : Nat → FieldType := fun k => match k with
  | _ => .int
abbrev wsJ30 : List Cond := u_ws RJ3 TJ3 0
theorem nmJ3 : ∀ a, a < 0 → ∀ b, b < 0 → a ≠ b → (TJ3 a).2.1 ≠ (TJ3 b).2.1 := by decide +kernel
theorem tyJ3_ok : ∀ k, k < 0 → parseFieldDescriptor (TJ3 k).2.2.1 = some (tyJ3 k) := by decide +kernel
abbrev cJ3_checkIndex_8e157 : ByteArray := prog_18_method_11_code
def yJ3_checkIndex_8e157 : MethodName := ⟨RJ3, "checkIndex", "(IILjava/util/function/BiFunction;)I"⟩
def RL : String := "BeardHireLaw"
abbrev cL_law : ByteArray := code
def yL_law : MethodName := ⟨RL, "law", "([I)Z"⟩
abbrev vwCl : List vw_C := [(RX0, TX0, 0), (RX1, TX1, 0), (RX2, TX2, 0), (RX3, TX3, 0), (RX4, TX4, 0), (RX5, TX5, 3), (RX6, TX6, 8), (RX7, TX7, 13), (RX8, TX8, 0), (RX9, TX9, 7), (RX10, TX10, 16)]
end
section
/-- the words that every method of the claim has: the good ones of the tables -/
def zU : List Cond := lw_tbl.filter goodWord
theorem z_mem {w : Cond} (h : w ∈ lw_tbl) (hg : goodWord w = true) : w ∈ zU := List.mem_filter.mpr ⟨h, hg⟩
theorem z_in {w : Cond} (h : w ∈ zU) : w ∈ lw_tbl := (List.mem_filter.mp h).1
theorem z_ok {w : Cond} (h : w ∈ zU) : (w.onTables && w.keeps) = true ∨ ∃ ty, w = .arrayClass ty := good_of_word (List.mem_filter.mp h).2
theorem z_t {w : Cond} (i : Nat) (h : tables_1[i]? = some w) (hg : goodWord w = true) : w ∈ zU := z_mem (List.mem_append_right _ (List.mem_of_getElem? h)) hg
theorem z_s {w : Cond} (i : Nat) (h : (k2_sels lw_privs)[i]? = some w) (hg : goodWord w = true) : w ∈ zU := z_mem (List.mem_append_left _ (List.mem_of_getElem? h)) hg
theorem z_goodIn {x y : Cond} (hy : y ∈ zU) : GoodIn (x :: zU) (y :: zU) := by
  intro w hw
  have h : w ∈ zU := by
    rcases List.mem_cons.mp hw with e | e
    · rw [e]; exact hy
    · exact e
  exact ⟨List.mem_cons_of_mem _ h, z_ok h⟩
theorem z_goodU {y : Cond} (hy : y ∈ zU) : GoodIn zU (y :: zU) := by
  intro w hw
  have h : w ∈ zU := by
    rcases List.mem_cons.mp hw with e | e
    · rw [e]; exact hy
    · exact e
  exact ⟨h, z_ok h⟩
theorem u0 : Cond.initialized RL ∈ zU := z_t 0 (by decide +kernel) (by decide +kernel)
theorem u1 : Cond.initialized RX9 ∈ zU := z_t 1 (by decide +kernel) (by decide +kernel)
theorem u2 : Cond.initialized RX2 ∈ zU := z_t 2 (by decide +kernel) (by decide +kernel)
theorem u3 : Cond.initialized RX0 ∈ zU := z_t 3 (by decide +kernel) (by decide +kernel)
theorem u4 : Cond.initialized RX8 ∈ zU := z_t 4 (by decide +kernel) (by decide +kernel)
theorem u5 : Cond.initialized RX3 ∈ zU := z_t 5 (by decide +kernel) (by decide +kernel)
theorem u6 : Cond.initialized RX1 ∈ zU := z_t 6 (by decide +kernel) (by decide +kernel)
theorem u7 : Cond.initialized RX4 ∈ zU := z_t 7 (by decide +kernel) (by decide +kernel)
theorem u8 : Cond.initialized RX7 ∈ zU := z_t 8 (by decide +kernel) (by decide +kernel)
theorem u9 : Cond.initialized RX6 ∈ zU := z_t 9 (by decide +kernel) (by decide +kernel)
theorem u10 : Cond.initialized RX5 ∈ zU := z_t 10 (by decide +kernel) (by decide +kernel)
theorem u11 : Cond.initialized RX10 ∈ zU := z_t 11 (by decide +kernel) (by decide +kernel)
theorem u12 : Cond.initialized RJ9 ∈ zU := z_t 12 (by decide +kernel) (by decide +kernel)
theorem u13 : Cond.initialized RJ10 ∈ zU := z_t 13 (by decide +kernel) (by decide +kernel)
theorem u14 : Cond.initialized RJ0 ∈ zU := z_t 14 (by decide +kernel) (by decide +kernel)
theorem u15 : Cond.initialized RJ1 ∈ zU := z_t 15 (by decide +kernel) (by decide +kernel)
theorem u16 : Cond.initialized RJ3 ∈ zU := z_t 16 (by decide +kernel) (by decide +kernel)
theorem u17 : Cond.initialized RJ2 ∈ zU := z_t 17 (by decide +kernel) (by decide +kernel)
theorem u18 : Cond.classLink RL 7 RX9 ∈ zU := z_t 18 (by decide +kernel) (by decide +kernel)
theorem u19 : Cond.instantiable RX9 7 ∈ zU := z_t 19 (by decide +kernel) (by decide +kernel)
theorem u20 : Cond.methodLink RL 9 yX9_init ∈ zU := z_t 20 (by decide +kernel) (by decide +kernel)
theorem u21 : Cond.instanceMethod yX9_init ∈ zU := z_t 21 (by decide +kernel) (by decide +kernel)
theorem u22 : Cond.code yX9_init cX9_init 3 none ∈ zU := z_t 22 (by decide +kernel) (by decide +kernel)
theorem u23 : Cond.methodLink RX9 1 objectInit ∈ zU := z_t 23 (by decide +kernel) (by decide +kernel)
theorem u24 : Cond.instanceMethod objectInit ∈ zU := z_t 24 (by decide +kernel) (by decide +kernel)
theorem u25 : Cond.code objectInit ⟨#[0xb1]⟩ 1 none ∈ zU := z_t 25 (by decide +kernel) (by decide +kernel)
theorem u26 : Cond.classLink RX9 7 RX2 ∈ zU := z_t 26 (by decide +kernel) (by decide +kernel)
theorem u28 : Cond.instantiable RX2 0 ∈ zU := z_t 28 (by decide +kernel) (by decide +kernel)
theorem u30 : Cond.instanceMethod yX2_init ∈ zU := z_t 30 (by decide +kernel) (by decide +kernel)
theorem u31 : Cond.code yX2_init cX2_init 1 none ∈ zU := z_t 31 (by decide +kernel) (by decide +kernel)
theorem u32 : Cond.methodLink RX2 1 objectInit ∈ zU := z_t 32 (by decide +kernel) (by decide +kernel)
theorem u33 : Cond.superclass RX2 "java/lang/Object" ∈ zU := z_t 33 (by decide +kernel) (by decide +kernel)
theorem u34 : Cond.classLink RX9 10 RX0 ∈ zU := z_t 34 (by decide +kernel) (by decide +kernel)
theorem u35 : Cond.instantiable RX0 0 ∈ zU := z_t 35 (by decide +kernel) (by decide +kernel)
theorem u37 : Cond.instanceMethod yX0_init ∈ zU := z_t 37 (by decide +kernel) (by decide +kernel)
theorem u38 : Cond.code yX0_init cX0_init 1 none ∈ zU := z_t 38 (by decide +kernel) (by decide +kernel)
theorem u40 : Cond.superclass RX0 RX2 ∈ zU := z_t 40 (by decide +kernel) (by decide +kernel)
theorem u41 : Cond.classLink RX9 13 RX8 ∈ zU := z_t 41 (by decide +kernel) (by decide +kernel)
theorem u42 : Cond.instantiable RX8 0 ∈ zU := z_t 42 (by decide +kernel) (by decide +kernel)
theorem u44 : Cond.instanceMethod yX8_init ∈ zU := z_t 44 (by decide +kernel) (by decide +kernel)
theorem u45 : Cond.code yX8_init cX8_init 1 none ∈ zU := z_t 45 (by decide +kernel) (by decide +kernel)
theorem u47 : Cond.superclass RX8 RX2 ∈ zU := z_t 47 (by decide +kernel) (by decide +kernel)
theorem u48 : Cond.classLink RX9 16 RX3 ∈ zU := z_t 48 (by decide +kernel) (by decide +kernel)
theorem u49 : Cond.instantiable RX3 0 ∈ zU := z_t 49 (by decide +kernel) (by decide +kernel)
theorem u51 : Cond.instanceMethod yX3_init ∈ zU := z_t 51 (by decide +kernel) (by decide +kernel)
theorem u52 : Cond.code yX3_init cX3_init 1 none ∈ zU := z_t 52 (by decide +kernel) (by decide +kernel)
theorem u54 : Cond.superclass RX3 RX2 ∈ zU := z_t 54 (by decide +kernel) (by decide +kernel)
theorem u55 : Cond.classLink RX9 19 RX1 ∈ zU := z_t 55 (by decide +kernel) (by decide +kernel)
theorem u56 : Cond.instantiable RX1 0 ∈ zU := z_t 56 (by decide +kernel) (by decide +kernel)
theorem u58 : Cond.instanceMethod yX1_init ∈ zU := z_t 58 (by decide +kernel) (by decide +kernel)
theorem u59 : Cond.code yX1_init cX1_init 1 none ∈ zU := z_t 59 (by decide +kernel) (by decide +kernel)
theorem u61 : Cond.superclass RX1 RX0 ∈ zU := z_t 61 (by decide +kernel) (by decide +kernel)
theorem u62 : Cond.classLink RX9 22 RX4 ∈ zU := z_t 62 (by decide +kernel) (by decide +kernel)
theorem u63 : Cond.instantiable RX4 0 ∈ zU := z_t 63 (by decide +kernel) (by decide +kernel)
theorem u65 : Cond.instanceMethod yX4_init ∈ zU := z_t 65 (by decide +kernel) (by decide +kernel)
theorem u66 : Cond.code yX4_init cX4_init 1 none ∈ zU := z_t 66 (by decide +kernel) (by decide +kernel)
theorem u68 : Cond.superclass RX4 RX8 ∈ zU := z_t 68 (by decide +kernel) (by decide +kernel)
theorem u69 : Cond.classLink RX9 25 RX7 ∈ zU := z_t 69 (by decide +kernel) (by decide +kernel)
theorem u70 : Cond.instantiable RX7 13 ∈ zU := z_t 70 (by decide +kernel) (by decide +kernel)
theorem u71 : Cond.methodLink RX9 27 yX7_init ∈ zU := z_t 71 (by decide +kernel) (by decide +kernel)
theorem u72 : Cond.instanceMethod yX7_init ∈ zU := z_t 72 (by decide +kernel) (by decide +kernel)
theorem u73 : Cond.code yX7_init cX7_init 3 none ∈ zU := z_t 73 (by decide +kernel) (by decide +kernel)
theorem u74 : Cond.methodLink RX7 3 objectInit ∈ zU := z_t 74 (by decide +kernel) (by decide +kernel)
theorem u75 : Cond.fieldLink RX7 39 "BeardHire$Trade" "manners" "[LBeardHire$Kind;" ∈ zU := z_t 75 (by decide +kernel) (by decide +kernel)
theorem u76 : Cond.fieldLink RX7 43 "BeardHire$Trade" "night" "I" ∈ zU := z_t 76 (by decide +kernel) (by decide +kernel)
theorem u77 : Cond.fieldLink RX9 90 "BeardHire$Trade" "night" "I" ∈ zU := z_t 77 (by decide +kernel) (by decide +kernel)
theorem u78 : Cond.fieldLink RX7 47 "BeardHire$Trade" "beards" "I" ∈ zU := z_t 78 (by decide +kernel) (by decide +kernel)
theorem u79 : Cond.fieldLink RX6 122 "BeardHire$Trade" "beards" "I" ∈ zU := z_t 79 (by decide +kernel) (by decide +kernel)
theorem u80 : Cond.fieldLink RX9 183 "BeardHire$Trade" "beards" "I" ∈ zU := z_t 80 (by decide +kernel) (by decide +kernel)
theorem u81 : Cond.fieldLink RX7 50 "BeardHire$Trade" "wearers" "I" ∈ zU := z_t 81 (by decide +kernel) (by decide +kernel)
theorem u82 : Cond.fieldLink RX6 113 "BeardHire$Trade" "wearers" "I" ∈ zU := z_t 82 (by decide +kernel) (by decide +kernel)
theorem u83 : Cond.fieldLink RX9 225 "BeardHire$Trade" "wearers" "I" ∈ zU := z_t 83 (by decide +kernel) (by decide +kernel)
theorem u84 : Cond.fieldLink RX7 9 "BeardHire$Trade" "kinds" "[I" ∈ zU := z_t 84 (by decide +kernel) (by decide +kernel)
theorem u85 : Cond.fieldLink RX9 114 "BeardHire$Trade" "kinds" "[I" ∈ zU := z_t 85 (by decide +kernel) (by decide +kernel)
theorem u86 : Cond.fieldLink RX7 15 "BeardHire$Trade" "fames" "[I" ∈ zU := z_t 86 (by decide +kernel) (by decide +kernel)
theorem u87 : Cond.fieldLink RX6 83 "BeardHire$Trade" "fames" "[I" ∈ zU := z_t 87 (by decide +kernel) (by decide +kernel)
theorem u88 : Cond.fieldLink RX9 117 "BeardHire$Trade" "fames" "[I" ∈ zU := z_t 88 (by decide +kernel) (by decide +kernel)
theorem u89 : Cond.fieldLink RX7 18 "BeardHire$Trade" "hoards" "[I" ∈ zU := z_t 89 (by decide +kernel) (by decide +kernel)
theorem u90 : Cond.fieldLink RX6 92 "BeardHire$Trade" "hoards" "[I" ∈ zU := z_t 90 (by decide +kernel) (by decide +kernel)
theorem u91 : Cond.fieldLink RX9 120 "BeardHire$Trade" "hoards" "[I" ∈ zU := z_t 91 (by decide +kernel) (by decide +kernel)
theorem u92 : Cond.fieldLink RX7 21 "BeardHire$Trade" "wornBy" "[I" ∈ zU := z_t 92 (by decide +kernel) (by decide +kernel)
theorem u93 : Cond.fieldLink RX9 123 "BeardHire$Trade" "wornBy" "[I" ∈ zU := z_t 93 (by decide +kernel) (by decide +kernel)
theorem u94 : Cond.fieldLink RX6 125 "BeardHire$Trade" "wornBy" "[I" ∈ zU := z_t 94 (by decide +kernel) (by decide +kernel)
theorem u95 : Cond.fieldLink RX7 24 "BeardHire$Trade" "purses" "[I" ∈ zU := z_t 95 (by decide +kernel) (by decide +kernel)
theorem u96 : Cond.fieldLink RX6 98 "BeardHire$Trade" "purses" "[I" ∈ zU := z_t 96 (by decide +kernel) (by decide +kernel)
theorem u97 : Cond.fieldLink RX9 149 "BeardHire$Trade" "purses" "[I" ∈ zU := z_t 97 (by decide +kernel) (by decide +kernel)
theorem u98 : Cond.fieldLink RX7 27 "BeardHire$Trade" "rounds" "[I" ∈ zU := z_t 98 (by decide +kernel) (by decide +kernel)
theorem u99 : Cond.fieldLink RX6 103 "BeardHire$Trade" "rounds" "[I" ∈ zU := z_t 99 (by decide +kernel) (by decide +kernel)
theorem u100 : Cond.fieldLink RX9 152 "BeardHire$Trade" "rounds" "[I" ∈ zU := z_t 100 (by decide +kernel) (by decide +kernel)
theorem u101 : Cond.fieldLink RX7 30 "BeardHire$Trade" "wears" "[I" ∈ zU := z_t 101 (by decide +kernel) (by decide +kernel)
theorem u102 : Cond.fieldLink RX6 116 "BeardHire$Trade" "wears" "[I" ∈ zU := z_t 102 (by decide +kernel) (by decide +kernel)
theorem u103 : Cond.fieldLink RX9 155 "BeardHire$Trade" "wears" "[I" ∈ zU := z_t 103 (by decide +kernel) (by decide +kernel)
theorem u104 : Cond.fieldLink RX7 33 "BeardHire$Trade" "moods" "[I" ∈ zU := z_t 104 (by decide +kernel) (by decide +kernel)
theorem u105 : Cond.fieldLink RX9 78 "BeardHire$Trade" "moods" "[I" ∈ zU := z_t 105 (by decide +kernel) (by decide +kernel)
theorem u106 : Cond.fieldLink RX6 110 "BeardHire$Trade" "moods" "[I" ∈ zU := z_t 106 (by decide +kernel) (by decide +kernel)
theorem u107 : Cond.fieldLink RX7 36 "BeardHire$Trade" "remembered" "[I" ∈ zU := z_t 107 (by decide +kernel) (by decide +kernel)
theorem u108 : Cond.fieldLink RX9 84 "BeardHire$Trade" "remembered" "[I" ∈ zU := z_t 108 (by decide +kernel) (by decide +kernel)
theorem u109 : Cond.laysFinal "BeardHire$Trade" "BeardHire$Trade" "manners" "[LBeardHire$Kind;" ∈ zU := z_t 109 (by decide +kernel) (by decide +kernel)
theorem u111 : Cond.lays "BeardHire$Trade" "BeardHire$Trade" "night" "I" ∈ zU := z_t 111 (by decide +kernel) (by decide +kernel)
theorem u113 : Cond.lays "BeardHire$Trade" "BeardHire$Trade" "beards" "I" ∈ zU := z_t 113 (by decide +kernel) (by decide +kernel)
theorem u115 : Cond.lays "BeardHire$Trade" "BeardHire$Trade" "wearers" "I" ∈ zU := z_t 115 (by decide +kernel) (by decide +kernel)
theorem u117 : Cond.laysFinal "BeardHire$Trade" "BeardHire$Trade" "kinds" "[I" ∈ zU := z_t 117 (by decide +kernel) (by decide +kernel)
theorem u119 : Cond.laysFinal "BeardHire$Trade" "BeardHire$Trade" "fames" "[I" ∈ zU := z_t 119 (by decide +kernel) (by decide +kernel)
theorem u121 : Cond.laysFinal "BeardHire$Trade" "BeardHire$Trade" "hoards" "[I" ∈ zU := z_t 121 (by decide +kernel) (by decide +kernel)
theorem u123 : Cond.laysFinal "BeardHire$Trade" "BeardHire$Trade" "wornBy" "[I" ∈ zU := z_t 123 (by decide +kernel) (by decide +kernel)
theorem u125 : Cond.laysFinal "BeardHire$Trade" "BeardHire$Trade" "purses" "[I" ∈ zU := z_t 125 (by decide +kernel) (by decide +kernel)
theorem u127 : Cond.laysFinal "BeardHire$Trade" "BeardHire$Trade" "rounds" "[I" ∈ zU := z_t 127 (by decide +kernel) (by decide +kernel)
theorem u129 : Cond.laysFinal "BeardHire$Trade" "BeardHire$Trade" "wears" "[I" ∈ zU := z_t 129 (by decide +kernel) (by decide +kernel)
theorem u131 : Cond.laysFinal "BeardHire$Trade" "BeardHire$Trade" "moods" "[I" ∈ zU := z_t 131 (by decide +kernel) (by decide +kernel)
theorem u133 : Cond.laysFinal "BeardHire$Trade" "BeardHire$Trade" "remembered" "[I" ∈ zU := z_t 133 (by decide +kernel) (by decide +kernel)
theorem u135 : Cond.superclass RX7 "java/lang/Object" ∈ zU := z_t 135 (by decide +kernel) (by decide +kernel)
theorem u136 : Cond.arrayClass .int ∈ zU := z_t 136 (by decide +kernel) (by decide +kernel)
theorem u137 : Cond.classLink RX9 46 RX6 ∈ zU := z_t 137 (by decide +kernel) (by decide +kernel)
theorem u138 : Cond.instantiable RX6 8 ∈ zU := z_t 138 (by decide +kernel) (by decide +kernel)
theorem u139 : Cond.methodLink RX9 48 yX6_init ∈ zU := z_t 139 (by decide +kernel) (by decide +kernel)
theorem u140 : Cond.instanceMethod yX6_init ∈ zU := z_t 140 (by decide +kernel) (by decide +kernel)
theorem u141 : Cond.code yX6_init cX6_init 3 none ∈ zU := z_t 141 (by decide +kernel) (by decide +kernel)
theorem u142 : Cond.methodLink RX6 3 objectInit ∈ zU := z_t 142 (by decide +kernel) (by decide +kernel)
theorem u143 : Cond.fieldLink RX6 15 "BeardHire$Text" "manners" "[LBeardHire$Kind;" ∈ zU := z_t 143 (by decide +kernel) (by decide +kernel)
theorem u144 : Cond.fieldLink RX6 9 "BeardHire$Text" "tape" "[I" ∈ zU := z_t 144 (by decide +kernel) (by decide +kernel)
theorem u145 : Cond.fieldLink RX6 23 "BeardHire$Text" "length" "I" ∈ zU := z_t 145 (by decide +kernel) (by decide +kernel)
theorem u146 : Cond.fieldLink RX9 186 "BeardHire$Text" "length" "I" ∈ zU := z_t 146 (by decide +kernel) (by decide +kernel)
theorem u147 : Cond.fieldLink RX6 19 "BeardHire$Text" "draft" "LBeardHire$Trade;" ∈ zU := z_t 147 (by decide +kernel) (by decide +kernel)
theorem u148 : Cond.fieldLink RX6 37 "BeardHire$Text" "token" "I" ∈ zU := z_t 148 (by decide +kernel) (by decide +kernel)
theorem u149 : Cond.fieldLink RX6 40 "BeardHire$Text" "first" "I" ∈ zU := z_t 149 (by decide +kernel) (by decide +kernel)
theorem u150 : Cond.fieldLink RX6 27 "BeardHire$Text" "next" "I" ∈ zU := z_t 150 (by decide +kernel) (by decide +kernel)
theorem u151 : Cond.fieldLink RX6 119 "BeardHire$Text" "value" "I" ∈ zU := z_t 151 (by decide +kernel) (by decide +kernel)
theorem u152 : Cond.laysFinal "BeardHire$Text" "BeardHire$Text" "manners" "[LBeardHire$Kind;" ∈ zU := z_t 152 (by decide +kernel) (by decide +kernel)
theorem u154 : Cond.laysFinal "BeardHire$Text" "BeardHire$Text" "tape" "[I" ∈ zU := z_t 154 (by decide +kernel) (by decide +kernel)
theorem u156 : Cond.lays "BeardHire$Text" "BeardHire$Text" "length" "I" ∈ zU := z_t 156 (by decide +kernel) (by decide +kernel)
theorem u158 : Cond.laysFinal "BeardHire$Text" "BeardHire$Text" "draft" "LBeardHire$Trade;" ∈ zU := z_t 158 (by decide +kernel) (by decide +kernel)
theorem u160 : Cond.lays "BeardHire$Text" "BeardHire$Text" "token" "I" ∈ zU := z_t 160 (by decide +kernel) (by decide +kernel)
theorem u162 : Cond.lays "BeardHire$Text" "BeardHire$Text" "first" "I" ∈ zU := z_t 162 (by decide +kernel) (by decide +kernel)
theorem u164 : Cond.lays "BeardHire$Text" "BeardHire$Text" "next" "I" ∈ zU := z_t 164 (by decide +kernel) (by decide +kernel)
theorem u166 : Cond.lays "BeardHire$Text" "BeardHire$Text" "value" "I" ∈ zU := z_t 166 (by decide +kernel) (by decide +kernel)
theorem u168 : Cond.superclass RX6 "java/lang/Object" ∈ zU := z_t 168 (by decide +kernel) (by decide +kernel)
theorem u169 : Cond.classLink RX9 55 RX5 ∈ zU := z_t 169 (by decide +kernel) (by decide +kernel)
theorem u171 : Cond.instantiable RX5 3 ∈ zU := z_t 171 (by decide +kernel) (by decide +kernel)
theorem u173 : Cond.instanceMethod yX5_init ∈ zU := z_t 173 (by decide +kernel) (by decide +kernel)
theorem u174 : Cond.code yX5_init cX5_init 1 none ∈ zU := z_t 174 (by decide +kernel) (by decide +kernel)
theorem u175 : Cond.methodLink RX5 3 objectInit ∈ zU := z_t 175 (by decide +kernel) (by decide +kernel)
theorem u176 : Cond.fieldLink RX5 9 "BeardHire$Sheet" "numbers" "[J" ∈ zU := z_t 176 (by decide +kernel) (by decide +kernel)
theorem u177 : Cond.fieldLink RX9 205 "BeardHire$Sheet" "numbers" "[J" ∈ zU := z_t 177 (by decide +kernel) (by decide +kernel)
theorem u178 : Cond.fieldLink RX5 15 "BeardHire$Sheet" "bits" "I" ∈ zU := z_t 178 (by decide +kernel) (by decide +kernel)
theorem u179 : Cond.fieldLink RX9 213 "BeardHire$Sheet" "bits" "I" ∈ zU := z_t 179 (by decide +kernel) (by decide +kernel)
theorem u180 : Cond.fieldLink RX5 19 "BeardHire$Sheet" "length" "I" ∈ zU := z_t 180 (by decide +kernel) (by decide +kernel)
theorem u181 : Cond.fieldLink RX9 201 "BeardHire$Sheet" "length" "I" ∈ zU := z_t 181 (by decide +kernel) (by decide +kernel)
theorem u182 : Cond.laysFinal "BeardHire$Sheet" "BeardHire$Sheet" "numbers" "[J" ∈ zU := z_t 182 (by decide +kernel) (by decide +kernel)
theorem u184 : Cond.lays "BeardHire$Sheet" "BeardHire$Sheet" "bits" "I" ∈ zU := z_t 184 (by decide +kernel) (by decide +kernel)
theorem u186 : Cond.lays "BeardHire$Sheet" "BeardHire$Sheet" "length" "I" ∈ zU := z_t 186 (by decide +kernel) (by decide +kernel)
theorem u188 : Cond.superclass RX5 "java/lang/Object" ∈ zU := z_t 188 (by decide +kernel) (by decide +kernel)
theorem u189 : Cond.arrayClass .long ∈ zU := z_t 189 (by decide +kernel) (by decide +kernel)
theorem u190 : Cond.fieldLink RX9 30 "BeardHire" "live" "LBeardHire$Trade;" ∈ zU := z_t 190 (by decide +kernel) (by decide +kernel)
theorem u191 : Cond.fieldLink RX9 36 "BeardHire" "trial" "LBeardHire$Trade;" ∈ zU := z_t 191 (by decide +kernel) (by decide +kernel)
theorem u192 : Cond.fieldLink RX9 39 "BeardHire" "kept" "LBeardHire$Trade;" ∈ zU := z_t 192 (by decide +kernel) (by decide +kernel)
theorem u193 : Cond.fieldLink RX9 42 "BeardHire" "isKept" "Z" ∈ zU := z_t 193 (by decide +kernel) (by decide +kernel)
theorem u194 : Cond.fieldLink RX9 51 "BeardHire" "text" "LBeardHire$Text;" ∈ zU := z_t 194 (by decide +kernel) (by decide +kernel)
theorem u195 : Cond.fieldLink RX9 57 "BeardHire" "sheets" "[LBeardHire$Sheet;" ∈ zU := z_t 195 (by decide +kernel) (by decide +kernel)
theorem u196 : Cond.fieldLink RX9 62 "BeardHire" "findings" "[I" ∈ zU := z_t 196 (by decide +kernel) (by decide +kernel)
theorem u197 : Cond.laysFinal "BeardHire" "BeardHire" "live" "LBeardHire$Trade;" ∈ zU := z_t 197 (by decide +kernel) (by decide +kernel)
theorem u199 : Cond.laysFinal "BeardHire" "BeardHire" "trial" "LBeardHire$Trade;" ∈ zU := z_t 199 (by decide +kernel) (by decide +kernel)
theorem u201 : Cond.laysFinal "BeardHire" "BeardHire" "kept" "LBeardHire$Trade;" ∈ zU := z_t 201 (by decide +kernel) (by decide +kernel)
theorem u203 : Cond.lays "BeardHire" "BeardHire" "isKept" "Z" ∈ zU := z_t 203 (by decide +kernel) (by decide +kernel)
theorem u205 : Cond.laysFinal "BeardHire" "BeardHire" "text" "LBeardHire$Text;" ∈ zU := z_t 205 (by decide +kernel) (by decide +kernel)
theorem u207 : Cond.laysFinal "BeardHire" "BeardHire" "sheets" "[LBeardHire$Sheet;" ∈ zU := z_t 207 (by decide +kernel) (by decide +kernel)
theorem u209 : Cond.laysFinal "BeardHire" "BeardHire" "findings" "[I" ∈ zU := z_t 209 (by decide +kernel) (by decide +kernel)
theorem u211 : Cond.superclass RX9 "java/lang/Object" ∈ zU := z_t 211 (by decide +kernel) (by decide +kernel)
theorem u212 : Cond.methodLink RL 13 yX9_mood ∈ zU := z_t 212 (by decide +kernel) (by decide +kernel)
theorem u213 : Cond.instanceMethod yX9_mood ∈ zU := z_t 213 (by decide +kernel) (by decide +kernel)
theorem u214 : Cond.selects RX9 yX9_mood yX9_mood ∈ zU := z_t 214 (by decide +kernel) (by decide +kernel)
theorem u215 : Cond.code yX9_mood cX9_mood 4 (some .int) ∈ zU := z_t 215 (by decide +kernel) (by decide +kernel)
theorem u216 : Cond.methodLink RX9 66 yX9_isHouse ∈ zU := z_t 216 (by decide +kernel) (by decide +kernel)
theorem u217 : Cond.static yX9_isHouse ∈ zU := z_t 217 (by decide +kernel) (by decide +kernel)
theorem u218 : Cond.code yX9_isHouse cX9_isHouse 1 (some .boolean) ∈ zU := z_t 218 (by decide +kernel) (by decide +kernel)
theorem u219 : Cond.methodLink RX9 70 yX9_isWithin ∈ zU := z_t 219 (by decide +kernel) (by decide +kernel)
theorem u220 : Cond.static yX9_isWithin ∈ zU := z_t 220 (by decide +kernel) (by decide +kernel)
theorem u221 : Cond.code yX9_isWithin cX9_isWithin 3 (some .boolean) ∈ zU := z_t 221 (by decide +kernel) (by decide +kernel)
theorem u222 : Cond.methodLink RX9 74 yX9_finding ∈ zU := z_t 222 (by decide +kernel) (by decide +kernel)
theorem u224 : Cond.instanceMethod yX9_finding ∈ zU := z_t 224 (by decide +kernel) (by decide +kernel)
theorem u225 : Cond.code yX9_finding cX9_finding 2 (some .int) ∈ zU := z_t 225 (by decide +kernel) (by decide +kernel)
theorem u226 : Cond.constant RX9 237 (-1000000001) ∈ zU := z_t 226 (by decide +kernel) (by decide +kernel)
theorem u227 : Cond.methodLink RL 18 yX9_recall ∈ zU := z_t 227 (by decide +kernel) (by decide +kernel)
theorem u228 : Cond.instanceMethod yX9_recall ∈ zU := z_t 228 (by decide +kernel) (by decide +kernel)
theorem u229 : Cond.selects RX9 yX9_recall yX9_recall ∈ zU := z_t 229 (by decide +kernel) (by decide +kernel)
theorem u230 : Cond.code yX9_recall cX9_recall 4 (some .int) ∈ zU := z_t 230 (by decide +kernel) (by decide +kernel)
theorem u231 : Cond.methodLink RX9 81 yX9_isBeard ∈ zU := z_t 231 (by decide +kernel) (by decide +kernel)
theorem u233 : Cond.instanceMethod yX9_isBeard ∈ zU := z_t 233 (by decide +kernel) (by decide +kernel)
theorem u234 : Cond.code yX9_isBeard cX9_isBeard 2 (some .boolean) ∈ zU := z_t 234 (by decide +kernel) (by decide +kernel)
theorem u235 : Cond.methodLink RL 22 yX9_houseOf ∈ zU := z_t 235 (by decide +kernel) (by decide +kernel)
theorem u236 : Cond.instanceMethod yX9_houseOf ∈ zU := z_t 236 (by decide +kernel) (by decide +kernel)
theorem u237 : Cond.selects RX9 yX9_houseOf yX9_houseOf ∈ zU := z_t 237 (by decide +kernel) (by decide +kernel)
theorem u238 : Cond.code yX9_houseOf cX9_houseOf 3 (some .int) ∈ zU := z_t 238 (by decide +kernel) (by decide +kernel)
theorem u239 : Cond.methodLink RX9 87 yX7_guestsAt ∈ zU := z_t 239 (by decide +kernel) (by decide +kernel)
theorem u240 : Cond.instanceMethod yX7_guestsAt ∈ zU := z_t 240 (by decide +kernel) (by decide +kernel)
theorem u241 : Cond.selects RX7 yX7_guestsAt yX7_guestsAt ∈ zU := z_t 241 (by decide +kernel) (by decide +kernel)
theorem u242 : Cond.code yX7_guestsAt cX7_guestsAt 4 (some .int) ∈ zU := z_t 242 (by decide +kernel) (by decide +kernel)
theorem u243 : Cond.methodLink RX7 94 yX7_houseTonight ∈ zU := z_t 243 (by decide +kernel) (by decide +kernel)
theorem u244 : Cond.instanceMethod yX7_houseTonight ∈ zU := z_t 244 (by decide +kernel) (by decide +kernel)
theorem u245 : Cond.selects RX7 yX7_houseTonight yX7_houseTonight ∈ zU := z_t 245 (by decide +kernel) (by decide +kernel)
theorem u246 : Cond.code yX7_houseTonight cX7_houseTonight 2 (some .int) ∈ zU := z_t 246 (by decide +kernel) (by decide +kernel)
theorem u247 : Cond.methodLink RL 26 yX9_now ∈ zU := z_t 247 (by decide +kernel) (by decide +kernel)
theorem u248 : Cond.instanceMethod yX9_now ∈ zU := z_t 248 (by decide +kernel) (by decide +kernel)
theorem u249 : Cond.selects RX9 yX9_now yX9_now ∈ zU := z_t 249 (by decide +kernel) (by decide +kernel)
theorem u250 : Cond.code yX9_now cX9_now 2 (some .int) ∈ zU := z_t 250 (by decide +kernel) (by decide +kernel)
theorem u251 : Cond.methodLink RX9 94 yX7_isMonday ∈ zU := z_t 251 (by decide +kernel) (by decide +kernel)
theorem u252 : Cond.instanceMethod yX7_isMonday ∈ zU := z_t 252 (by decide +kernel) (by decide +kernel)
theorem u253 : Cond.selects RX7 yX7_isMonday yX7_isMonday ∈ zU := z_t 253 (by decide +kernel) (by decide +kernel)
theorem u254 : Cond.code yX7_isMonday cX7_isMonday 1 (some .boolean) ∈ zU := z_t 254 (by decide +kernel) (by decide +kernel)
theorem u255 : Cond.methodLink RX9 98 yX7_beardsInShop ∈ zU := z_t 255 (by decide +kernel) (by decide +kernel)
theorem u256 : Cond.instanceMethod yX7_beardsInShop ∈ zU := z_t 256 (by decide +kernel) (by decide +kernel)
theorem u257 : Cond.selects RX7 yX7_beardsInShop yX7_beardsInShop ∈ zU := z_t 257 (by decide +kernel) (by decide +kernel)
theorem u258 : Cond.code yX7_beardsInShop cX7_beardsInShop 3 (some .int) ∈ zU := z_t 258 (by decide +kernel) (by decide +kernel)
theorem u259 : Cond.methodLink RX9 102 yX7_wearersInBeards ∈ zU := z_t 259 (by decide +kernel) (by decide +kernel)
theorem u260 : Cond.instanceMethod yX7_wearersInBeards ∈ zU := z_t 260 (by decide +kernel) (by decide +kernel)
theorem u261 : Cond.selects RX7 yX7_wearersInBeards yX7_wearersInBeards ∈ zU := z_t 261 (by decide +kernel) (by decide +kernel)
theorem u262 : Cond.code yX7_wearersInBeards cX7_wearersInBeards 3 (some .int) ∈ zU := z_t 262 (by decide +kernel) (by decide +kernel)
theorem u263 : Cond.methodLink RX9 105 yX7_allPurses ∈ zU := z_t 263 (by decide +kernel) (by decide +kernel)
theorem u264 : Cond.instanceMethod yX7_allPurses ∈ zU := z_t 264 (by decide +kernel) (by decide +kernel)
theorem u265 : Cond.selects RX7 yX7_allPurses yX7_allPurses ∈ zU := z_t 265 (by decide +kernel) (by decide +kernel)
theorem u266 : Cond.code yX7_allPurses cX7_allPurses 3 (some .int) ∈ zU := z_t 266 (by decide +kernel) (by decide +kernel)
theorem u267 : Cond.methodLink RL 31 yX9_beard ∈ zU := z_t 267 (by decide +kernel) (by decide +kernel)
theorem u268 : Cond.instanceMethod yX9_beard ∈ zU := z_t 268 (by decide +kernel) (by decide +kernel)
theorem u269 : Cond.selects RX9 yX9_beard yX9_beard ∈ zU := z_t 269 (by decide +kernel) (by decide +kernel)
theorem u270 : Cond.code yX9_beard cX9_beard 3 (some .int) ∈ zU := z_t 270 (by decide +kernel) (by decide +kernel)
theorem u271 : Cond.methodLink RX9 108 yX9_isKind ∈ zU := z_t 271 (by decide +kernel) (by decide +kernel)
theorem u272 : Cond.static yX9_isKind ∈ zU := z_t 272 (by decide +kernel) (by decide +kernel)
theorem u273 : Cond.code yX9_isKind cX9_isKind 1 (some .boolean) ∈ zU := z_t 273 (by decide +kernel) (by decide +kernel)
theorem u274 : Cond.methodLink RX9 111 yX7_addBeard ∈ zU := z_t 274 (by decide +kernel) (by decide +kernel)
theorem u275 : Cond.instanceMethod yX7_addBeard ∈ zU := z_t 275 (by decide +kernel) (by decide +kernel)
theorem u276 : Cond.selects RX7 yX7_addBeard yX7_addBeard ∈ zU := z_t 276 (by decide +kernel) (by decide +kernel)
theorem u277 : Cond.code yX7_addBeard cX7_addBeard 3 (some .int) ∈ zU := z_t 277 (by decide +kernel) (by decide +kernel)
theorem u278 : Cond.methodLink RL 35 yX9_of ∈ zU := z_t 278 (by decide +kernel) (by decide +kernel)
theorem u279 : Cond.instanceMethod yX9_of ∈ zU := z_t 279 (by decide +kernel) (by decide +kernel)
theorem u280 : Cond.selects RX9 yX9_of yX9_of ∈ zU := z_t 280 (by decide +kernel) (by decide +kernel)
theorem u281 : Cond.code yX9_of cX9_of 3 (some .int) ∈ zU := z_t 281 (by decide +kernel) (by decide +kernel)
theorem u282 : Cond.methodLink RX9 126 yX7_costOf ∈ zU := z_t 282 (by decide +kernel) (by decide +kernel)
theorem u283 : Cond.instanceMethod yX7_costOf ∈ zU := z_t 283 (by decide +kernel) (by decide +kernel)
theorem u284 : Cond.selects RX7 yX7_costOf yX7_costOf ∈ zU := z_t 284 (by decide +kernel) (by decide +kernel)
theorem u285 : Cond.code yX7_costOf cX7_costOf 2 (some .int) ∈ zU := z_t 285 (by decide +kernel) (by decide +kernel)
theorem u286 : Cond.methodLink RX7 59 yX2_costs ∈ zU := z_t 286 (by decide +kernel) (by decide +kernel)
theorem u287 : Cond.instanceMethod yX2_costs ∈ zU := z_t 287 (by decide +kernel) (by decide +kernel)
theorem u288 : Cond.selects RX2 yX2_costs yX2_costs ∈ zU := z_t 288 (by decide +kernel) (by decide +kernel)
theorem u289 : Cond.sameMethod "BeardHire$Kind" "BeardHire$Kind" "costs" "(II)I" ∈ zU := z_t 289 (by decide +kernel) (by decide +kernel)
theorem u290 : Cond.selects RX0 yX2_costs yX0_costs ∈ zU := z_t 290 (by decide +kernel) (by decide +kernel)
theorem u291 : Cond.instanceMethod yX0_costs ∈ zU := z_t 291 (by decide +kernel) (by decide +kernel)
theorem u292 : Cond.code yX0_costs cX0_costs 3 (some .int) ∈ zU := z_t 292 (by decide +kernel) (by decide +kernel)
theorem u293 : Cond.methodLink RX0 9 yX2_costs ∈ zU := z_t 293 (by decide +kernel) (by decide +kernel)
theorem u294 : Cond.selects RX1 yX2_costs yX1_costs ∈ zU := z_t 294 (by decide +kernel) (by decide +kernel)
theorem u295 : Cond.instanceMethod yX1_costs ∈ zU := z_t 295 (by decide +kernel) (by decide +kernel)
theorem u296 : Cond.code yX1_costs cX1_costs 3 (some .int) ∈ zU := z_t 296 (by decide +kernel) (by decide +kernel)
theorem u297 : Cond.methodLink RX1 9 yX0_costs ∈ zU := z_t 297 (by decide +kernel) (by decide +kernel)
theorem u298 : Cond.selects RX3 yX2_costs yX3_costs ∈ zU := z_t 298 (by decide +kernel) (by decide +kernel)
theorem u299 : Cond.instanceMethod yX3_costs ∈ zU := z_t 299 (by decide +kernel) (by decide +kernel)
theorem u300 : Cond.code yX3_costs cX3_costs 3 (some .int) ∈ zU := z_t 300 (by decide +kernel) (by decide +kernel)
theorem u301 : Cond.selects RX4 yX2_costs yX4_costs ∈ zU := z_t 301 (by decide +kernel) (by decide +kernel)
theorem u302 : Cond.instanceMethod yX4_costs ∈ zU := z_t 302 (by decide +kernel) (by decide +kernel)
theorem u303 : Cond.code yX4_costs cX4_costs 3 (some .int) ∈ zU := z_t 303 (by decide +kernel) (by decide +kernel)
theorem u304 : Cond.methodLink RX4 9 yX8_costs ∈ zU := z_t 304 (by decide +kernel) (by decide +kernel)
theorem u305 : Cond.instanceMethod yX8_costs ∈ zU := z_t 305 (by decide +kernel) (by decide +kernel)
theorem u306 : Cond.code yX8_costs cX8_costs 3 (some .int) ∈ zU := z_t 306 (by decide +kernel) (by decide +kernel)
theorem u307 : Cond.selects RX8 yX2_costs yX8_costs ∈ zU := z_t 307 (by decide +kernel) (by decide +kernel)
theorem u308 : Cond.code yX2_costs cX2_costs 3 (some .int) ∈ zU := z_t 308 (by decide +kernel) (by decide +kernel)
theorem u309 : Cond.methodLink RX9 129 yX7_gainOf ∈ zU := z_t 309 (by decide +kernel) (by decide +kernel)
theorem u310 : Cond.instanceMethod yX7_gainOf ∈ zU := z_t 310 (by decide +kernel) (by decide +kernel)
theorem u311 : Cond.selects RX7 yX7_gainOf yX7_gainOf ∈ zU := z_t 311 (by decide +kernel) (by decide +kernel)
theorem u312 : Cond.code yX7_gainOf cX7_gainOf 2 (some .int) ∈ zU := z_t 312 (by decide +kernel) (by decide +kernel)
theorem u313 : Cond.methodLink RX7 73 yX7_isMonday ∈ zU := z_t 313 (by decide +kernel) (by decide +kernel)
theorem u314 : Cond.methodLink RX7 77 yX2_gains ∈ zU := z_t 314 (by decide +kernel) (by decide +kernel)
theorem u315 : Cond.instanceMethod yX2_gains ∈ zU := z_t 315 (by decide +kernel) (by decide +kernel)
theorem u316 : Cond.selects RX2 yX2_gains yX2_gains ∈ zU := z_t 316 (by decide +kernel) (by decide +kernel)
theorem u317 : Cond.sameMethod "BeardHire$Kind" "BeardHire$Kind" "gains" "(Z)I" ∈ zU := z_t 317 (by decide +kernel) (by decide +kernel)
theorem u318 : Cond.selects RX0 yX2_gains yX0_gains ∈ zU := z_t 318 (by decide +kernel) (by decide +kernel)
theorem u319 : Cond.instanceMethod yX0_gains ∈ zU := z_t 319 (by decide +kernel) (by decide +kernel)
theorem u320 : Cond.code yX0_gains cX0_gains 2 (some .int) ∈ zU := z_t 320 (by decide +kernel) (by decide +kernel)
theorem u321 : Cond.methodLink RX0 21 yX2_gains ∈ zU := z_t 321 (by decide +kernel) (by decide +kernel)
theorem u322 : Cond.selects RX1 yX2_gains yX1_gains ∈ zU := z_t 322 (by decide +kernel) (by decide +kernel)
theorem u323 : Cond.instanceMethod yX1_gains ∈ zU := z_t 323 (by decide +kernel) (by decide +kernel)
theorem u324 : Cond.code yX1_gains cX1_gains 2 (some .int) ∈ zU := z_t 324 (by decide +kernel) (by decide +kernel)
theorem u325 : Cond.methodLink RX1 21 yX0_gains ∈ zU := z_t 325 (by decide +kernel) (by decide +kernel)
theorem u326 : Cond.selects RX3 yX2_gains yX3_gains ∈ zU := z_t 326 (by decide +kernel) (by decide +kernel)
theorem u327 : Cond.instanceMethod yX3_gains ∈ zU := z_t 327 (by decide +kernel) (by decide +kernel)
theorem u328 : Cond.code yX3_gains cX3_gains 2 (some .int) ∈ zU := z_t 328 (by decide +kernel) (by decide +kernel)
theorem u329 : Cond.selects RX4 yX2_gains yX4_gains ∈ zU := z_t 329 (by decide +kernel) (by decide +kernel)
theorem u330 : Cond.instanceMethod yX4_gains ∈ zU := z_t 330 (by decide +kernel) (by decide +kernel)
theorem u331 : Cond.code yX4_gains cX4_gains 2 (some .int) ∈ zU := z_t 331 (by decide +kernel) (by decide +kernel)
theorem u332 : Cond.methodLink RX4 17 ⟨"BeardHire$White", "gains", "(Z)I"⟩ ∈ zU := z_t 332 (by decide +kernel) (by decide +kernel)
theorem u333 : Cond.sameMethod "BeardHire$White" "BeardHire$Kind" "gains" "(Z)I" ∈ zU := z_t 333 (by decide +kernel) (by decide +kernel)
theorem u335 : Cond.selects RX8 yX2_gains yX2_gains ∈ zU := z_t 335 (by decide +kernel) (by decide +kernel)
theorem u336 : Cond.code yX2_gains cX2_gains 2 (some .int) ∈ zU := z_t 336 (by decide +kernel) (by decide +kernel)
theorem u337 : Cond.methodLink RL 39 yX9_can ∈ zU := z_t 337 (by decide +kernel) (by decide +kernel)
theorem u338 : Cond.instanceMethod yX9_can ∈ zU := z_t 338 (by decide +kernel) (by decide +kernel)
theorem u339 : Cond.selects RX9 yX9_can yX9_can ∈ zU := z_t 339 (by decide +kernel) (by decide +kernel)
theorem u340 : Cond.code yX9_can cX9_can 4 (some .int) ∈ zU := z_t 340 (by decide +kernel) (by decide +kernel)
theorem u341 : Cond.methodLink RX9 132 yX7_meetingAt ∈ zU := z_t 341 (by decide +kernel) (by decide +kernel)
theorem u342 : Cond.instanceMethod yX7_meetingAt ∈ zU := z_t 342 (by decide +kernel) (by decide +kernel)
theorem u343 : Cond.selects RX7 yX7_meetingAt yX7_meetingAt ∈ zU := z_t 343 (by decide +kernel) (by decide +kernel)
theorem u344 : Cond.code yX7_meetingAt cX7_meetingAt 3 (some .int) ∈ zU := z_t 344 (by decide +kernel) (by decide +kernel)
theorem u345 : Cond.methodLink RX7 65 yX2_meets ∈ zU := z_t 345 (by decide +kernel) (by decide +kernel)
theorem u346 : Cond.instanceMethod yX2_meets ∈ zU := z_t 346 (by decide +kernel) (by decide +kernel)
theorem u347 : Cond.selects RX2 yX2_meets yX2_meets ∈ zU := z_t 347 (by decide +kernel) (by decide +kernel)
theorem u348 : Cond.sameMethod "BeardHire$Kind" "BeardHire$Kind" "meets" "(IZI)I" ∈ zU := z_t 348 (by decide +kernel) (by decide +kernel)
theorem u349 : Cond.selects RX0 yX2_meets yX0_meets ∈ zU := z_t 349 (by decide +kernel) (by decide +kernel)
theorem u350 : Cond.instanceMethod yX0_meets ∈ zU := z_t 350 (by decide +kernel) (by decide +kernel)
theorem u351 : Cond.code yX0_meets cX0_meets 5 (some .int) ∈ zU := z_t 351 (by decide +kernel) (by decide +kernel)
theorem u352 : Cond.methodLink RX0 13 yX2_meets ∈ zU := z_t 352 (by decide +kernel) (by decide +kernel)
theorem u353 : Cond.selects RX1 yX2_meets yX1_meets ∈ zU := z_t 353 (by decide +kernel) (by decide +kernel)
theorem u354 : Cond.instanceMethod yX1_meets ∈ zU := z_t 354 (by decide +kernel) (by decide +kernel)
theorem u355 : Cond.code yX1_meets cX1_meets 5 (some .int) ∈ zU := z_t 355 (by decide +kernel) (by decide +kernel)
theorem u356 : Cond.methodLink RX1 13 yX0_meets ∈ zU := z_t 356 (by decide +kernel) (by decide +kernel)
theorem u357 : Cond.selects RX3 yX2_meets yX3_meets ∈ zU := z_t 357 (by decide +kernel) (by decide +kernel)
theorem u358 : Cond.instanceMethod yX3_meets ∈ zU := z_t 358 (by decide +kernel) (by decide +kernel)
theorem u359 : Cond.code yX3_meets cX3_meets 4 (some .int) ∈ zU := z_t 359 (by decide +kernel) (by decide +kernel)
theorem u360 : Cond.methodLink RX3 9 yX2_meets ∈ zU := z_t 360 (by decide +kernel) (by decide +kernel)
theorem u361 : Cond.selects RX4 yX2_meets yX4_meets ∈ zU := z_t 361 (by decide +kernel) (by decide +kernel)
theorem u362 : Cond.instanceMethod yX4_meets ∈ zU := z_t 362 (by decide +kernel) (by decide +kernel)
theorem u363 : Cond.code yX4_meets cX4_meets 4 (some .int) ∈ zU := z_t 363 (by decide +kernel) (by decide +kernel)
theorem u364 : Cond.methodLink RX4 13 yX8_meets ∈ zU := z_t 364 (by decide +kernel) (by decide +kernel)
theorem u365 : Cond.instanceMethod yX8_meets ∈ zU := z_t 365 (by decide +kernel) (by decide +kernel)
theorem u366 : Cond.code yX8_meets cX8_meets 5 (some .int) ∈ zU := z_t 366 (by decide +kernel) (by decide +kernel)
theorem u367 : Cond.methodLink RX8 9 yX2_meets ∈ zU := z_t 367 (by decide +kernel) (by decide +kernel)
theorem u368 : Cond.selects RX8 yX2_meets yX8_meets ∈ zU := z_t 368 (by decide +kernel) (by decide +kernel)
theorem u369 : Cond.code yX2_meets cX2_meets 4 (some .int) ∈ zU := z_t 369 (by decide +kernel) (by decide +kernel)
theorem u370 : Cond.methodLink RX9 136 yX7_leavingOf ∈ zU := z_t 370 (by decide +kernel) (by decide +kernel)
theorem u371 : Cond.instanceMethod yX7_leavingOf ∈ zU := z_t 371 (by decide +kernel) (by decide +kernel)
theorem u372 : Cond.selects RX7 yX7_leavingOf yX7_leavingOf ∈ zU := z_t 372 (by decide +kernel) (by decide +kernel)
theorem u373 : Cond.code yX7_leavingOf cX7_leavingOf 2 (some .int) ∈ zU := z_t 373 (by decide +kernel) (by decide +kernel)
theorem u374 : Cond.methodLink RX7 69 yX2_leaves ∈ zU := z_t 374 (by decide +kernel) (by decide +kernel)
theorem u375 : Cond.instanceMethod yX2_leaves ∈ zU := z_t 375 (by decide +kernel) (by decide +kernel)
theorem u376 : Cond.selects RX2 yX2_leaves yX2_leaves ∈ zU := z_t 376 (by decide +kernel) (by decide +kernel)
theorem u377 : Cond.sameMethod "BeardHire$Kind" "BeardHire$Kind" "leaves" "(I)I" ∈ zU := z_t 377 (by decide +kernel) (by decide +kernel)
theorem u378 : Cond.selects RX0 yX2_leaves yX0_leaves ∈ zU := z_t 378 (by decide +kernel) (by decide +kernel)
theorem u379 : Cond.instanceMethod yX0_leaves ∈ zU := z_t 379 (by decide +kernel) (by decide +kernel)
theorem u380 : Cond.code yX0_leaves cX0_leaves 2 (some .int) ∈ zU := z_t 380 (by decide +kernel) (by decide +kernel)
theorem u381 : Cond.methodLink RX0 17 yX2_leaves ∈ zU := z_t 381 (by decide +kernel) (by decide +kernel)
theorem u382 : Cond.selects RX1 yX2_leaves yX1_leaves ∈ zU := z_t 382 (by decide +kernel) (by decide +kernel)
theorem u383 : Cond.instanceMethod yX1_leaves ∈ zU := z_t 383 (by decide +kernel) (by decide +kernel)
theorem u384 : Cond.code yX1_leaves cX1_leaves 2 (some .int) ∈ zU := z_t 384 (by decide +kernel) (by decide +kernel)
theorem u385 : Cond.methodLink RX1 17 yX0_leaves ∈ zU := z_t 385 (by decide +kernel) (by decide +kernel)
theorem u386 : Cond.selects RX3 yX2_leaves yX3_leaves ∈ zU := z_t 386 (by decide +kernel) (by decide +kernel)
theorem u387 : Cond.instanceMethod yX3_leaves ∈ zU := z_t 387 (by decide +kernel) (by decide +kernel)
theorem u388 : Cond.code yX3_leaves cX3_leaves 2 (some .int) ∈ zU := z_t 388 (by decide +kernel) (by decide +kernel)
theorem u389 : Cond.selects RX4 yX2_leaves yX8_leaves ∈ zU := z_t 389 (by decide +kernel) (by decide +kernel)
theorem u390 : Cond.instanceMethod yX8_leaves ∈ zU := z_t 390 (by decide +kernel) (by decide +kernel)
theorem u391 : Cond.code yX8_leaves cX8_leaves 2 (some .int) ∈ zU := z_t 391 (by decide +kernel) (by decide +kernel)
theorem u392 : Cond.methodLink RX8 13 yX2_leaves ∈ zU := z_t 392 (by decide +kernel) (by decide +kernel)
theorem u393 : Cond.selects RX8 yX2_leaves yX8_leaves ∈ zU := z_t 393 (by decide +kernel) (by decide +kernel)
theorem u394 : Cond.code yX2_leaves cX2_leaves 2 (some .int) ∈ zU := z_t 394 (by decide +kernel) (by decide +kernel)
theorem u395 : Cond.methodLink RL 44 yX9_set ∈ zU := z_t 395 (by decide +kernel) (by decide +kernel)
theorem u396 : Cond.instanceMethod yX9_set ∈ zU := z_t 396 (by decide +kernel) (by decide +kernel)
theorem u397 : Cond.selects RX9 yX9_set yX9_set ∈ zU := z_t 397 (by decide +kernel) (by decide +kernel)
theorem u398 : Cond.code yX9_set cX9_set 5 (some .int) ∈ zU := z_t 398 (by decide +kernel) (by decide +kernel)
theorem u399 : Cond.methodLink RL 48 yX9_turn ∈ zU := z_t 399 (by decide +kernel) (by decide +kernel)
theorem u400 : Cond.instanceMethod yX9_turn ∈ zU := z_t 400 (by decide +kernel) (by decide +kernel)
theorem u401 : Cond.selects RX9 yX9_turn yX9_turn ∈ zU := z_t 401 (by decide +kernel) (by decide +kernel)
theorem u402 : Cond.code yX9_turn cX9_turn 4 (some .int) ∈ zU := z_t 402 (by decide +kernel) (by decide +kernel)
theorem u403 : Cond.methodLink RL 52 yX9_as ∈ zU := z_t 403 (by decide +kernel) (by decide +kernel)
theorem u404 : Cond.instanceMethod yX9_as ∈ zU := z_t 404 (by decide +kernel) (by decide +kernel)
theorem u405 : Cond.selects RX9 yX9_as yX9_as ∈ zU := z_t 405 (by decide +kernel) (by decide +kernel)
theorem u406 : Cond.code yX9_as cX9_as 3 (some .int) ∈ zU := z_t 406 (by decide +kernel) (by decide +kernel)
theorem u407 : Cond.methodLink RX9 139 yX9_isUnder ∈ zU := z_t 407 (by decide +kernel) (by decide +kernel)
theorem u408 : Cond.static yX9_isUnder ∈ zU := z_t 408 (by decide +kernel) (by decide +kernel)
theorem u409 : Cond.code yX9_isUnder cX9_isUnder 4 (some .boolean) ∈ zU := z_t 409 (by decide +kernel) (by decide +kernel)
theorem u410 : Cond.fieldLink RX9 238 "BeardHire" "ABOVE" "[I" ∈ zU := z_t 410 (by decide +kernel) (by decide +kernel)
theorem u412 : Cond.methodLink RL 56 yX9_wearer ∈ zU := z_t 412 (by decide +kernel) (by decide +kernel)
theorem u413 : Cond.instanceMethod yX9_wearer ∈ zU := z_t 413 (by decide +kernel) (by decide +kernel)
theorem u414 : Cond.selects RX9 yX9_wearer yX9_wearer ∈ zU := z_t 414 (by decide +kernel) (by decide +kernel)
theorem u415 : Cond.code yX9_wearer cX9_wearer 3 (some .int) ∈ zU := z_t 415 (by decide +kernel) (by decide +kernel)
theorem u416 : Cond.methodLink RX9 143 yX7_addWearer ∈ zU := z_t 416 (by decide +kernel) (by decide +kernel)
theorem u417 : Cond.instanceMethod yX7_addWearer ∈ zU := z_t 417 (by decide +kernel) (by decide +kernel)
theorem u418 : Cond.selects RX7 yX7_addWearer yX7_addWearer ∈ zU := z_t 418 (by decide +kernel) (by decide +kernel)
theorem u419 : Cond.code yX7_addWearer cX7_addWearer 3 (some .int) ∈ zU := z_t 419 (by decide +kernel) (by decide +kernel)
theorem u420 : Cond.methodLink RL 60 yX9_wearerOf ∈ zU := z_t 420 (by decide +kernel) (by decide +kernel)
theorem u421 : Cond.instanceMethod yX9_wearerOf ∈ zU := z_t 421 (by decide +kernel) (by decide +kernel)
theorem u422 : Cond.selects RX9 yX9_wearerOf yX9_wearerOf ∈ zU := z_t 422 (by decide +kernel) (by decide +kernel)
theorem u423 : Cond.code yX9_wearerOf cX9_wearerOf 3 (some .int) ∈ zU := z_t 423 (by decide +kernel) (by decide +kernel)
theorem u424 : Cond.methodLink RX9 146 yX9_isWearer ∈ zU := z_t 424 (by decide +kernel) (by decide +kernel)
theorem u426 : Cond.instanceMethod yX9_isWearer ∈ zU := z_t 426 (by decide +kernel) (by decide +kernel)
theorem u427 : Cond.code yX9_isWearer cX9_isWearer 2 (some .boolean) ∈ zU := z_t 427 (by decide +kernel) (by decide +kernel)
theorem u428 : Cond.methodLink RX9 158 yX7_houseTonight ∈ zU := z_t 428 (by decide +kernel) (by decide +kernel)
theorem u429 : Cond.methodLink RL 64 yX9_give ∈ zU := z_t 429 (by decide +kernel) (by decide +kernel)
theorem u430 : Cond.instanceMethod yX9_give ∈ zU := z_t 430 (by decide +kernel) (by decide +kernel)
theorem u431 : Cond.selects RX9 yX9_give yX9_give ∈ zU := z_t 431 (by decide +kernel) (by decide +kernel)
theorem u432 : Cond.code yX9_give cX9_give 5 (some .int) ∈ zU := z_t 432 (by decide +kernel) (by decide +kernel)
theorem u433 : Cond.methodLink RL 68 yX9_hire ∈ zU := z_t 433 (by decide +kernel) (by decide +kernel)
theorem u434 : Cond.instanceMethod yX9_hire ∈ zU := z_t 434 (by decide +kernel) (by decide +kernel)
theorem u435 : Cond.selects RX9 yX9_hire yX9_hire ∈ zU := z_t 435 (by decide +kernel) (by decide +kernel)
theorem u436 : Cond.code yX9_hire cX9_hire 3 (some .int) ∈ zU := z_t 436 (by decide +kernel) (by decide +kernel)
theorem u437 : Cond.methodLink RX9 161 yX7_putOn ∈ zU := z_t 437 (by decide +kernel) (by decide +kernel)
theorem u438 : Cond.instanceMethod yX7_putOn ∈ zU := z_t 438 (by decide +kernel) (by decide +kernel)
theorem u439 : Cond.selects RX7 yX7_putOn yX7_putOn ∈ zU := z_t 439 (by decide +kernel) (by decide +kernel)
theorem u440 : Cond.code yX7_putOn cX7_putOn 3 none ∈ zU := z_t 440 (by decide +kernel) (by decide +kernel)
theorem u441 : Cond.methodLink RL 72 yX9_back ∈ zU := z_t 441 (by decide +kernel) (by decide +kernel)
theorem u442 : Cond.instanceMethod yX9_back ∈ zU := z_t 442 (by decide +kernel) (by decide +kernel)
theorem u443 : Cond.selects RX9 yX9_back yX9_back ∈ zU := z_t 443 (by decide +kernel) (by decide +kernel)
theorem u444 : Cond.code yX9_back cX9_back 3 (some .int) ∈ zU := z_t 444 (by decide +kernel) (by decide +kernel)
theorem u445 : Cond.methodLink RX9 165 yX7_takeOff ∈ zU := z_t 445 (by decide +kernel) (by decide +kernel)
theorem u446 : Cond.instanceMethod yX7_takeOff ∈ zU := z_t 446 (by decide +kernel) (by decide +kernel)
theorem u447 : Cond.selects RX7 yX7_takeOff yX7_takeOff ∈ zU := z_t 447 (by decide +kernel) (by decide +kernel)
theorem u448 : Cond.code yX7_takeOff cX7_takeOff 3 none ∈ zU := z_t 448 (by decide +kernel) (by decide +kernel)
theorem u449 : Cond.methodLink RL 76 yX9_nights ∈ zU := z_t 449 (by decide +kernel) (by decide +kernel)
theorem u450 : Cond.instanceMethod yX9_nights ∈ zU := z_t 450 (by decide +kernel) (by decide +kernel)
theorem u451 : Cond.selects RX9 yX9_nights yX9_nights ∈ zU := z_t 451 (by decide +kernel) (by decide +kernel)
theorem u452 : Cond.code yX9_nights cX9_nights 2 (some .int) ∈ zU := z_t 452 (by decide +kernel) (by decide +kernel)
theorem u453 : Cond.constant RX9 168 (99999) ∈ zU := z_t 453 (by decide +kernel) (by decide +kernel)
theorem u454 : Cond.methodLink RX9 169 yX7_passNights ∈ zU := z_t 454 (by decide +kernel) (by decide +kernel)
theorem u455 : Cond.instanceMethod yX7_passNights ∈ zU := z_t 455 (by decide +kernel) (by decide +kernel)
theorem u456 : Cond.selects RX7 yX7_passNights yX7_passNights ∈ zU := z_t 456 (by decide +kernel) (by decide +kernel)
theorem u457 : Cond.code yX7_passNights cX7_passNights 3 none ∈ zU := z_t 457 (by decide +kernel) (by decide +kernel)
theorem u458 : Cond.methodLink RX7 81 yX7_passNight ∈ zU := z_t 458 (by decide +kernel) (by decide +kernel)
theorem u459 : Cond.instanceMethod yX7_passNight ∈ zU := z_t 459 (by decide +kernel) (by decide +kernel)
theorem u460 : Cond.selects RX7 yX7_passNight yX7_passNight ∈ zU := z_t 460 (by decide +kernel) (by decide +kernel)
theorem u461 : Cond.code yX7_passNight cX7_passNight 2 none ∈ zU := z_t 461 (by decide +kernel) (by decide +kernel)
theorem u462 : Cond.methodLink RX7 84 yX7_spendNight ∈ zU := z_t 462 (by decide +kernel) (by decide +kernel)
theorem u464 : Cond.instanceMethod yX7_spendNight ∈ zU := z_t 464 (by decide +kernel) (by decide +kernel)
theorem u465 : Cond.code yX7_spendNight cX7_spendNight 9 none ∈ zU := z_t 465 (by decide +kernel) (by decide +kernel)
theorem u466 : Cond.methodLink RX7 91 yX7_takeOff ∈ zU := z_t 466 (by decide +kernel) (by decide +kernel)
theorem u467 : Cond.methodLink RX7 97 yX7_held ∈ zU := z_t 467 (by decide +kernel) (by decide +kernel)
theorem u468 : Cond.static yX7_held ∈ zU := z_t 468 (by decide +kernel) (by decide +kernel)
theorem u469 : Cond.code yX7_held cX7_held 3 (some .int) ∈ zU := z_t 469 (by decide +kernel) (by decide +kernel)
theorem u470 : Cond.methodLink RX7 101 Lib.Math.min.name ∈ zU := z_t 470 (by decide +kernel) (by decide +kernel)
theorem u471 : Cond.static Lib.Math.min.name ∈ zU := z_t 471 (by decide +kernel) (by decide +kernel)
theorem u472 : Cond.code Lib.Math.min.name Lib.Math.min.code 2 (some .int) ∈ zU := z_t 472 (by decide +kernel) (by decide +kernel)
theorem u473 : Cond.methodLink RX7 106 Lib.Math.max.name ∈ zU := z_t 473 (by decide +kernel) (by decide +kernel)
theorem u474 : Cond.static Lib.Math.max.name ∈ zU := z_t 474 (by decide +kernel) (by decide +kernel)
theorem u475 : Cond.code Lib.Math.max.name Lib.Math.max.code 2 (some .int) ∈ zU := z_t 475 (by decide +kernel) (by decide +kernel)
theorem u476 : Cond.methodLink RX7 88 yX7_combOut ∈ zU := z_t 476 (by decide +kernel) (by decide +kernel)
theorem u478 : Cond.instanceMethod yX7_combOut ∈ zU := z_t 478 (by decide +kernel) (by decide +kernel)
theorem u479 : Cond.code yX7_combOut cX7_combOut 2 none ∈ zU := z_t 479 (by decide +kernel) (by decide +kernel)
theorem u480 : Cond.methodLink RL 80 yX9_on ∈ zU := z_t 480 (by decide +kernel) (by decide +kernel)
theorem u481 : Cond.instanceMethod yX9_on ∈ zU := z_t 481 (by decide +kernel) (by decide +kernel)
theorem u482 : Cond.selects RX9 yX9_on yX9_on ∈ zU := z_t 482 (by decide +kernel) (by decide +kernel)
theorem u483 : Cond.code yX9_on cX9_on 4 (some .int) ∈ zU := z_t 483 (by decide +kernel) (by decide +kernel)
theorem u484 : Cond.methodLink RX9 173 yX7_become ∈ zU := z_t 484 (by decide +kernel) (by decide +kernel)
theorem u485 : Cond.instanceMethod yX7_become ∈ zU := z_t 485 (by decide +kernel) (by decide +kernel)
theorem u486 : Cond.selects RX7 yX7_become yX7_become ∈ zU := z_t 486 (by decide +kernel) (by decide +kernel)
theorem u487 : Cond.code yX7_become cX7_become 2 none ∈ zU := z_t 487 (by decide +kernel) (by decide +kernel)
theorem u488 : Cond.methodLink RX7 53 arraycopyName ∈ zU := z_t 488 (by decide +kernel) (by decide +kernel)
theorem u489 : Cond.static arraycopyName ∈ zU := z_t 489 (by decide +kernel) (by decide +kernel)
theorem u490 : Cond.native arraycopyName ∈ zU := z_t 490 (by decide +kernel) (by decide +kernel)
theorem u491 : Cond.methodLink RX9 177 yX7_passNightsOfWearer ∈ zU := z_t 491 (by decide +kernel) (by decide +kernel)
theorem u492 : Cond.instanceMethod yX7_passNightsOfWearer ∈ zU := z_t 492 (by decide +kernel) (by decide +kernel)
theorem u493 : Cond.selects RX7 yX7_passNightsOfWearer yX7_passNightsOfWearer ∈ zU := z_t 493 (by decide +kernel) (by decide +kernel)
theorem u494 : Cond.code yX7_passNightsOfWearer cX7_passNightsOfWearer 4 none ∈ zU := z_t 494 (by decide +kernel) (by decide +kernel)
theorem u495 : Cond.methodLink RL 84 yX9_then ∈ zU := z_t 495 (by decide +kernel) (by decide +kernel)
theorem u496 : Cond.instanceMethod yX9_then ∈ zU := z_t 496 (by decide +kernel) (by decide +kernel)
theorem u497 : Cond.selects RX9 yX9_then yX9_then ∈ zU := z_t 497 (by decide +kernel) (by decide +kernel)
theorem u498 : Cond.code yX9_then cX9_then 4 (some .int) ∈ zU := z_t 498 (by decide +kernel) (by decide +kernel)
theorem u499 : Cond.methodLink RL 88 yX9_fond ∈ zU := z_t 499 (by decide +kernel) (by decide +kernel)
theorem u500 : Cond.instanceMethod yX9_fond ∈ zU := z_t 500 (by decide +kernel) (by decide +kernel)
theorem u501 : Cond.selects RX9 yX9_fond yX9_fond ∈ zU := z_t 501 (by decide +kernel) (by decide +kernel)
theorem u502 : Cond.code yX9_fond cX9_fond 3 (some .int) ∈ zU := z_t 502 (by decide +kernel) (by decide +kernel)
theorem u503 : Cond.methodLink RL 92 yX9_home ∈ zU := z_t 503 (by decide +kernel) (by decide +kernel)
theorem u504 : Cond.instanceMethod yX9_home ∈ zU := z_t 504 (by decide +kernel) (by decide +kernel)
theorem u505 : Cond.selects RX9 yX9_home yX9_home ∈ zU := z_t 505 (by decide +kernel) (by decide +kernel)
theorem u506 : Cond.code yX9_home cX9_home 3 (some .int) ∈ zU := z_t 506 (by decide +kernel) (by decide +kernel)
theorem u507 : Cond.methodLink RX9 180 yX7_passNight ∈ zU := z_t 507 (by decide +kernel) (by decide +kernel)
theorem u508 : Cond.methodLink RL 96 yX9_falls ∈ zU := z_t 508 (by decide +kernel) (by decide +kernel)
theorem u509 : Cond.instanceMethod yX9_falls ∈ zU := z_t 509 (by decide +kernel) (by decide +kernel)
theorem u510 : Cond.selects RX9 yX9_falls yX9_falls ∈ zU := z_t 510 (by decide +kernel) (by decide +kernel)
theorem u511 : Cond.code yX9_falls cX9_falls 4 (some .int) ∈ zU := z_t 511 (by decide +kernel) (by decide +kernel)
theorem u512 : Cond.methodLink RL 100 yX9_best ∈ zU := z_t 512 (by decide +kernel) (by decide +kernel)
theorem u513 : Cond.instanceMethod yX9_best ∈ zU := z_t 513 (by decide +kernel) (by decide +kernel)
theorem u514 : Cond.selects RX9 yX9_best yX9_best ∈ zU := z_t 514 (by decide +kernel) (by decide +kernel)
theorem u515 : Cond.code yX9_best cX9_best 6 (some .int) ∈ zU := z_t 515 (by decide +kernel) (by decide +kernel)
theorem u516 : Cond.methodLink RL 104 yX9_round ∈ zU := z_t 516 (by decide +kernel) (by decide +kernel)
theorem u517 : Cond.instanceMethod yX9_round ∈ zU := z_t 517 (by decide +kernel) (by decide +kernel)
theorem u518 : Cond.selects RX9 yX9_round yX9_round ∈ zU := z_t 518 (by decide +kernel) (by decide +kernel)
theorem u519 : Cond.code yX9_round cX9_round 6 (some .int) ∈ zU := z_t 519 (by decide +kernel) (by decide +kernel)
theorem u520 : Cond.methodLink RL 108 yX9_kind ∈ zU := z_t 520 (by decide +kernel) (by decide +kernel)
theorem u521 : Cond.instanceMethod yX9_kind ∈ zU := z_t 521 (by decide +kernel) (by decide +kernel)
theorem u522 : Cond.selects RX9 yX9_kind yX9_kind ∈ zU := z_t 522 (by decide +kernel) (by decide +kernel)
theorem u523 : Cond.code yX9_kind cX9_kind 7 (some .int) ∈ zU := z_t 523 (by decide +kernel) (by decide +kernel)
theorem u524 : Cond.methodLink RL 112 yX9_enough ∈ zU := z_t 524 (by decide +kernel) (by decide +kernel)
theorem u525 : Cond.instanceMethod yX9_enough ∈ zU := z_t 525 (by decide +kernel) (by decide +kernel)
theorem u526 : Cond.selects RX9 yX9_enough yX9_enough ∈ zU := z_t 526 (by decide +kernel) (by decide +kernel)
theorem u527 : Cond.code yX9_enough cX9_enough 4 (some .int) ∈ zU := z_t 527 (by decide +kernel) (by decide +kernel)
theorem u528 : Cond.methodLink RL 116 yX9_please ∈ zU := z_t 528 (by decide +kernel) (by decide +kernel)
theorem u529 : Cond.instanceMethod yX9_please ∈ zU := z_t 529 (by decide +kernel) (by decide +kernel)
theorem u530 : Cond.selects RX9 yX9_please yX9_please ∈ zU := z_t 530 (by decide +kernel) (by decide +kernel)
theorem u531 : Cond.code yX9_please cX9_please 6 (some .int) ∈ zU := z_t 531 (by decide +kernel) (by decide +kernel)
theorem u532 : Cond.methodLink RL 121 yX9_richest ∈ zU := z_t 532 (by decide +kernel) (by decide +kernel)
theorem u533 : Cond.instanceMethod yX9_richest ∈ zU := z_t 533 (by decide +kernel) (by decide +kernel)
theorem u534 : Cond.selects RX9 yX9_richest yX9_richest ∈ zU := z_t 534 (by decide +kernel) (by decide +kernel)
theorem u535 : Cond.code yX9_richest cX9_richest 5 (some .int) ∈ zU := z_t 535 (by decide +kernel) (by decide +kernel)
theorem u536 : Cond.methodLink RL 125 yX9_feed ∈ zU := z_t 536 (by decide +kernel) (by decide +kernel)
theorem u537 : Cond.instanceMethod yX9_feed ∈ zU := z_t 537 (by decide +kernel) (by decide +kernel)
theorem u538 : Cond.selects RX9 yX9_feed yX9_feed ∈ zU := z_t 538 (by decide +kernel) (by decide +kernel)
theorem u539 : Cond.code yX9_feed cX9_feed 4 (some .int) ∈ zU := z_t 539 (by decide +kernel) (by decide +kernel)
theorem u540 : Cond.methodLink RX9 189 yX6_append ∈ zU := z_t 540 (by decide +kernel) (by decide +kernel)
theorem u541 : Cond.instanceMethod yX6_append ∈ zU := z_t 541 (by decide +kernel) (by decide +kernel)
theorem u542 : Cond.selects RX6 yX6_append yX6_append ∈ zU := z_t 542 (by decide +kernel) (by decide +kernel)
theorem u543 : Cond.code yX6_append cX6_append 2 none ∈ zU := z_t 543 (by decide +kernel) (by decide +kernel)
theorem u544 : Cond.methodLink RL 129 yX9_wipe ∈ zU := z_t 544 (by decide +kernel) (by decide +kernel)
theorem u545 : Cond.instanceMethod yX9_wipe ∈ zU := z_t 545 (by decide +kernel) (by decide +kernel)
theorem u546 : Cond.selects RX9 yX9_wipe yX9_wipe ∈ zU := z_t 546 (by decide +kernel) (by decide +kernel)
theorem u547 : Cond.code yX9_wipe cX9_wipe 2 (some .int) ∈ zU := z_t 547 (by decide +kernel) (by decide +kernel)
theorem u548 : Cond.methodLink RL 134 yX9_shop ∈ zU := z_t 548 (by decide +kernel) (by decide +kernel)
theorem u549 : Cond.instanceMethod yX9_shop ∈ zU := z_t 549 (by decide +kernel) (by decide +kernel)
theorem u550 : Cond.selects RX9 yX9_shop yX9_shop ∈ zU := z_t 550 (by decide +kernel) (by decide +kernel)
theorem u551 : Cond.code yX9_shop cX9_shop 2 (some .int) ∈ zU := z_t 551 (by decide +kernel) (by decide +kernel)
theorem u552 : Cond.methodLink RX9 192 yX6_tellAll ∈ zU := z_t 552 (by decide +kernel) (by decide +kernel)
theorem u553 : Cond.instanceMethod yX6_tellAll ∈ zU := z_t 553 (by decide +kernel) (by decide +kernel)
theorem u554 : Cond.selects RX6 yX6_tellAll yX6_tellAll ∈ zU := z_t 554 (by decide +kernel) (by decide +kernel)
theorem u555 : Cond.code yX6_tellAll cX6_tellAll 2 (some .int) ∈ zU := z_t 555 (by decide +kernel) (by decide +kernel)
theorem u556 : Cond.methodLink RX6 30 yX6_advance ∈ zU := z_t 556 (by decide +kernel) (by decide +kernel)
theorem u558 : Cond.instanceMethod yX6_advance ∈ zU := z_t 558 (by decide +kernel) (by decide +kernel)
theorem u559 : Cond.code yX6_advance cX6_advance 1 none ∈ zU := z_t 559 (by decide +kernel) (by decide +kernel)
theorem u560 : Cond.methodLink RX6 140 yX6_isLetter ∈ zU := z_t 560 (by decide +kernel) (by decide +kernel)
theorem u561 : Cond.static yX6_isLetter ∈ zU := z_t 561 (by decide +kernel) (by decide +kernel)
theorem u562 : Cond.code yX6_isLetter cX6_isLetter 1 (some .boolean) ∈ zU := z_t 562 (by decide +kernel) (by decide +kernel)
theorem u563 : Cond.methodLink RX6 143 yX6_isDigit ∈ zU := z_t 563 (by decide +kernel) (by decide +kernel)
theorem u564 : Cond.static yX6_isDigit ∈ zU := z_t 564 (by decide +kernel) (by decide +kernel)
theorem u565 : Cond.code yX6_isDigit cX6_isDigit 1 (some .boolean) ∈ zU := z_t 565 (by decide +kernel) (by decide +kernel)
theorem u566 : Cond.methodLink RX6 146 Lib.Math.min.name ∈ zU := z_t 566 (by decide +kernel) (by decide +kernel)
theorem u567 : Cond.methodLink RX6 33 yX6_tellItem ∈ zU := z_t 567 (by decide +kernel) (by decide +kernel)
theorem u569 : Cond.instanceMethod yX6_tellItem ∈ zU := z_t 569 (by decide +kernel) (by decide +kernel)
theorem u570 : Cond.code yX6_tellItem cX6_tellItem 2 (some .boolean) ∈ zU := z_t 570 (by decide +kernel) (by decide +kernel)
theorem u571 : Cond.methodLink RX6 43 yX2_title ∈ zU := z_t 571 (by decide +kernel) (by decide +kernel)
theorem u572 : Cond.instanceMethod yX2_title ∈ zU := z_t 572 (by decide +kernel) (by decide +kernel)
theorem u573 : Cond.selects RX2 yX2_title yX2_title ∈ zU := z_t 573 (by decide +kernel) (by decide +kernel)
theorem u574 : Cond.sameMethod "BeardHire$Kind" "BeardHire$Kind" "title" "()Ljava/lang/String;" ∈ zU := z_t 574 (by decide +kernel) (by decide +kernel)
theorem u575 : Cond.selects RX0 yX2_title yX0_title ∈ zU := z_t 575 (by decide +kernel) (by decide +kernel)
theorem u576 : Cond.instanceMethod yX0_title ∈ zU := z_t 576 (by decide +kernel) (by decide +kernel)
theorem u577 : Cond.code yX0_title cX0_title 1 (some (.object "java/lang/String")) ∈ zU := z_t 577 (by decide +kernel) (by decide +kernel)
theorem u579 : Cond.selects RX1 yX2_title yX1_title ∈ zU := z_t 579 (by decide +kernel) (by decide +kernel)
theorem u580 : Cond.instanceMethod yX1_title ∈ zU := z_t 580 (by decide +kernel) (by decide +kernel)
theorem u581 : Cond.code yX1_title cX1_title 1 (some (.object "java/lang/String")) ∈ zU := z_t 581 (by decide +kernel) (by decide +kernel)
theorem u583 : Cond.selects RX3 yX2_title yX3_title ∈ zU := z_t 583 (by decide +kernel) (by decide +kernel)
theorem u584 : Cond.instanceMethod yX3_title ∈ zU := z_t 584 (by decide +kernel) (by decide +kernel)
theorem u585 : Cond.code yX3_title cX3_title 1 (some (.object "java/lang/String")) ∈ zU := z_t 585 (by decide +kernel) (by decide +kernel)
theorem u587 : Cond.selects RX4 yX2_title yX4_title ∈ zU := z_t 587 (by decide +kernel) (by decide +kernel)
theorem u588 : Cond.instanceMethod yX4_title ∈ zU := z_t 588 (by decide +kernel) (by decide +kernel)
theorem u589 : Cond.code yX4_title cX4_title 1 (some (.object "java/lang/String")) ∈ zU := z_t 589 (by decide +kernel) (by decide +kernel)
theorem u591 : Cond.selects RX8 yX2_title yX8_title ∈ zU := z_t 591 (by decide +kernel) (by decide +kernel)
theorem u592 : Cond.instanceMethod yX8_title ∈ zU := z_t 592 (by decide +kernel) (by decide +kernel)
theorem u593 : Cond.code yX8_title cX8_title 1 (some (.object "java/lang/String")) ∈ zU := z_t 593 (by decide +kernel) (by decide +kernel)
theorem u595 : Cond.code yX2_title cX2_title 1 (some (.object "java/lang/String")) ∈ zU := z_t 595 (by decide +kernel) (by decide +kernel)
theorem u597 : Cond.methodLink RX6 49 yX6_isWord ∈ zU := z_t 597 (by decide +kernel) (by decide +kernel)
theorem u599 : Cond.instanceMethod yX6_isWord ∈ zU := z_t 599 (by decide +kernel) (by decide +kernel)
theorem u600 : Cond.code yX6_isWord cX6_isWord 3 (some .boolean) ∈ zU := z_t 600 (by decide +kernel) (by decide +kernel)
theorem u601 : Cond.methodLink RX6 132 yJ0_length_8abf5 ∈ zU := z_t 601 (by decide +kernel) (by decide +kernel)
theorem u602 : Cond.instanceMethod yJ0_length_8abf5 ∈ zU := z_t 602 (by decide +kernel) (by decide +kernel)
theorem u603 : Cond.selects RJ0 yJ0_length_8abf5 yJ0_length_8abf5 ∈ zU := z_t 603 (by decide +kernel) (by decide +kernel)
theorem u604 : Cond.code yJ0_length_8abf5 cJ0_length_8abf5 1 (some .int) ∈ zU := z_t 604 (by decide +kernel) (by decide +kernel)
theorem u605 : Cond.methodLink RJ0 335 yJ0_coder_7d493 ∈ zU := z_t 605 (by decide +kernel) (by decide +kernel)
theorem u606 : Cond.instanceMethod yJ0_coder_7d493 ∈ zU := z_t 606 (by decide +kernel) (by decide +kernel)
theorem u607 : Cond.selects RJ0 yJ0_coder_7d493 yJ0_coder_7d493 ∈ zU := z_t 607 (by decide +kernel) (by decide +kernel)
theorem u608 : Cond.code yJ0_coder_7d493 cJ0_coder_7d493 1 (some .byte) ∈ zU := z_t 608 (by decide +kernel) (by decide +kernel)
theorem u609 : Cond.fieldLink RJ0 38 "java/lang/String" "COMPACT_STRINGS" "Z" ∈ zU := z_t 609 (by decide +kernel) (by decide +kernel)
theorem u611 : Cond.methodLink RX6 136 yJ0_charAt_5068e ∈ zU := z_t 611 (by decide +kernel) (by decide +kernel)
theorem u612 : Cond.instanceMethod yJ0_charAt_5068e ∈ zU := z_t 612 (by decide +kernel) (by decide +kernel)
theorem u613 : Cond.selects RJ0 yJ0_charAt_5068e yJ0_charAt_5068e ∈ zU := z_t 613 (by decide +kernel) (by decide +kernel)
theorem u614 : Cond.code yJ0_charAt_5068e cJ0_charAt_5068e 2 (some .char) ∈ zU := z_t 614 (by decide +kernel) (by decide +kernel)
theorem u615 : Cond.methodLink RJ0 492 yJ0_isLatin1_aae02 ∈ zU := z_t 615 (by decide +kernel) (by decide +kernel)
theorem u616 : Cond.instanceMethod yJ0_isLatin1_aae02 ∈ zU := z_t 616 (by decide +kernel) (by decide +kernel)
theorem u617 : Cond.selects RJ0 yJ0_isLatin1_aae02 yJ0_isLatin1_aae02 ∈ zU := z_t 617 (by decide +kernel) (by decide +kernel)
theorem u618 : Cond.code yJ0_isLatin1_aae02 cJ0_isLatin1_aae02 1 (some .boolean) ∈ zU := z_t 618 (by decide +kernel) (by decide +kernel)
theorem u619 : Cond.methodLink RJ0 495 yJ1_charAt_3b067 ∈ zU := z_t 619 (by decide +kernel) (by decide +kernel)
theorem u620 : Cond.static yJ1_charAt_3b067 ∈ zU := z_t 620 (by decide +kernel) (by decide +kernel)
theorem u621 : Cond.code yJ1_charAt_3b067 cJ1_charAt_3b067 2 (some .char) ∈ zU := z_t 621 (by decide +kernel) (by decide +kernel)
theorem u622 : Cond.methodLink RJ1 9 yJ0_checkIndex_df160 ∈ zU := z_t 622 (by decide +kernel) (by decide +kernel)
theorem u623 : Cond.static yJ0_checkIndex_df160 ∈ zU := z_t 623 (by decide +kernel) (by decide +kernel)
theorem u624 : Cond.code yJ0_checkIndex_df160 cJ0_checkIndex_df160 2 none ∈ zU := z_t 624 (by decide +kernel) (by decide +kernel)
theorem u625 : Cond.fieldLink RJ0 1053 "jdk/internal/util/Preconditions" "SIOOBE_FORMATTER" "Ljava/util/function/BiFunction;" ∈ zU := z_t 625 (by decide +kernel) (by decide +kernel)
theorem u627 : Cond.methodLink RJ0 1059 yJ3_checkIndex_8e157 ∈ zU := z_t 627 (by decide +kernel) (by decide +kernel)
theorem u628 : Cond.static yJ3_checkIndex_8e157 ∈ zU := z_t 628 (by decide +kernel) (by decide +kernel)
theorem u629 : Cond.code yJ3_checkIndex_8e157 cJ3_checkIndex_8e157 3 (some .int) ∈ zU := z_t 629 (by decide +kernel) (by decide +kernel)
theorem u630 : Cond.methodLink RJ0 498 yJ2_charAt_3b067 ∈ zU := z_t 630 (by decide +kernel) (by decide +kernel)
theorem u631 : Cond.static yJ2_charAt_3b067 ∈ zU := z_t 631 (by decide +kernel) (by decide +kernel)
theorem u632 : Cond.code yJ2_charAt_3b067 cJ2_charAt_3b067 2 (some .char) ∈ zU := z_t 632 (by decide +kernel) (by decide +kernel)
theorem u633 : Cond.methodLink RJ2 67 yJ2_checkIndex_2214a ∈ zU := z_t 633 (by decide +kernel) (by decide +kernel)
theorem u634 : Cond.static yJ2_checkIndex_2214a ∈ zU := z_t 634 (by decide +kernel) (by decide +kernel)
theorem u635 : Cond.code yJ2_checkIndex_2214a cJ2_checkIndex_2214a 2 none ∈ zU := z_t 635 (by decide +kernel) (by decide +kernel)
theorem u636 : Cond.methodLink RJ2 48 yJ2_length_9d52b ∈ zU := z_t 636 (by decide +kernel) (by decide +kernel)
theorem u637 : Cond.static yJ2_length_9d52b ∈ zU := z_t 637 (by decide +kernel) (by decide +kernel)
theorem u638 : Cond.code yJ2_length_9d52b cJ2_length_9d52b 1 (some .int) ∈ zU := z_t 638 (by decide +kernel) (by decide +kernel)
theorem u639 : Cond.methodLink RJ2 414 yJ0_checkIndex_df160 ∈ zU := z_t 639 (by decide +kernel) (by decide +kernel)
theorem u640 : Cond.methodLink RJ2 71 yJ2_getChar_3b067 ∈ zU := z_t 640 (by decide +kernel) (by decide +kernel)
theorem u641 : Cond.static yJ2_getChar_3b067 ∈ zU := z_t 641 (by decide +kernel) (by decide +kernel)
theorem u642 : Cond.code yJ2_getChar_3b067 cJ2_getChar_3b067 2 (some .char) ∈ zU := z_t 642 (by decide +kernel) (by decide +kernel)
theorem u643 : Cond.fieldLink RJ2 44 "java/lang/StringUTF16" "$assertionsDisabled" "Z" ∈ zU := z_t 643 (by decide +kernel) (by decide +kernel)
theorem u645 : Cond.fieldLink RJ2 59 "java/lang/StringUTF16" "HI_BYTE_SHIFT" "I" ∈ zU := z_t 645 (by decide +kernel) (by decide +kernel)
theorem u647 : Cond.fieldLink RJ2 63 "java/lang/StringUTF16" "LO_BYTE_SHIFT" "I" ∈ zU := z_t 647 (by decide +kernel) (by decide +kernel)
theorem u649 : Cond.methodLink RX6 53 yX6_tellBeard ∈ zU := z_t 649 (by decide +kernel) (by decide +kernel)
theorem u651 : Cond.instanceMethod yX6_tellBeard ∈ zU := z_t 651 (by decide +kernel) (by decide +kernel)
theorem u652 : Cond.code yX6_tellBeard cX6_tellBeard 3 (some .boolean) ∈ zU := z_t 652 (by decide +kernel) (by decide +kernel)
theorem u653 : Cond.methodLink RX6 72 yX7_addBeard ∈ zU := z_t 653 (by decide +kernel) (by decide +kernel)
theorem u655 : Cond.methodLink RX6 80 yX6_isNumber ∈ zU := z_t 655 (by decide +kernel) (by decide +kernel)
theorem u657 : Cond.instanceMethod yX6_isNumber ∈ zU := z_t 657 (by decide +kernel) (by decide +kernel)
theorem u658 : Cond.code yX6_isNumber cX6_isNumber 2 (some .boolean) ∈ zU := z_t 658 (by decide +kernel) (by decide +kernel)
theorem u659 : Cond.methodLink RX6 86 yX6_takeNumber ∈ zU := z_t 659 (by decide +kernel) (by decide +kernel)
theorem u661 : Cond.instanceMethod yX6_takeNumber ∈ zU := z_t 661 (by decide +kernel) (by decide +kernel)
theorem u662 : Cond.code yX6_takeNumber cX6_takeNumber 2 (some .int) ∈ zU := z_t 662 (by decide +kernel) (by decide +kernel)
theorem u665 : Cond.methodLink RX6 59 yX6_tellWearer ∈ zU := z_t 665 (by decide +kernel) (by decide +kernel)
theorem u667 : Cond.instanceMethod yX6_tellWearer ∈ zU := z_t 667 (by decide +kernel) (by decide +kernel)
theorem u668 : Cond.code yX6_tellWearer cX6_tellWearer 2 (some .boolean) ∈ zU := z_t 668 (by decide +kernel) (by decide +kernel)
theorem u669 : Cond.methodLink RX6 95 yX7_addWearer ∈ zU := z_t 669 (by decide +kernel) (by decide +kernel)
theorem u672 : Cond.methodLink RX6 64 yX6_tellHouse ∈ zU := z_t 672 (by decide +kernel) (by decide +kernel)
theorem u674 : Cond.instanceMethod yX6_tellHouse ∈ zU := z_t 674 (by decide +kernel) (by decide +kernel)
theorem u675 : Cond.code yX6_tellHouse cX6_tellHouse 4 (some .boolean) ∈ zU := z_t 675 (by decide +kernel) (by decide +kernel)
theorem u679 : Cond.methodLink RX6 69 yX6_tellHire ∈ zU := z_t 679 (by decide +kernel) (by decide +kernel)
theorem u681 : Cond.instanceMethod yX6_tellHire ∈ zU := z_t 681 (by decide +kernel) (by decide +kernel)
theorem u682 : Cond.code yX6_tellHire cX6_tellHire 2 (some .boolean) ∈ zU := z_t 682 (by decide +kernel) (by decide +kernel)
theorem u683 : Cond.methodLink RX6 128 yX7_putOn ∈ zU := z_t 683 (by decide +kernel) (by decide +kernel)
theorem u684 : Cond.arrayClass .byte ∈ zU := z_t 684 (by decide +kernel) (by decide +kernel)
theorem u685 : Cond.methodLink RL 138 yX9_sheet ∈ zU := z_t 685 (by decide +kernel) (by decide +kernel)
theorem u686 : Cond.instanceMethod yX9_sheet ∈ zU := z_t 686 (by decide +kernel) (by decide +kernel)
theorem u687 : Cond.selects RX9 yX9_sheet yX9_sheet ∈ zU := z_t 687 (by decide +kernel) (by decide +kernel)
theorem u688 : Cond.code yX9_sheet cX9_sheet 4 (some .int) ∈ zU := z_t 688 (by decide +kernel) (by decide +kernel)
theorem u689 : Cond.methodLink RX9 195 yX9_isSheet ∈ zU := z_t 689 (by decide +kernel) (by decide +kernel)
theorem u690 : Cond.static yX9_isSheet ∈ zU := z_t 690 (by decide +kernel) (by decide +kernel)
theorem u691 : Cond.code yX9_isSheet cX9_isSheet 1 (some .boolean) ∈ zU := z_t 691 (by decide +kernel) (by decide +kernel)
theorem u692 : Cond.methodLink RX9 198 yX5_layOut ∈ zU := z_t 692 (by decide +kernel) (by decide +kernel)
theorem u693 : Cond.instanceMethod yX5_layOut ∈ zU := z_t 693 (by decide +kernel) (by decide +kernel)
theorem u694 : Cond.selects RX5 yX5_layOut yX5_layOut ∈ zU := z_t 694 (by decide +kernel) (by decide +kernel)
theorem u695 : Cond.code yX5_layOut cX5_layOut 4 none ∈ zU := z_t 695 (by decide +kernel) (by decide +kernel)
theorem u696 : Cond.methodLink RL 144 yX9_write ∈ zU := z_t 696 (by decide +kernel) (by decide +kernel)
theorem u697 : Cond.instanceMethod yX9_write ∈ zU := z_t 697 (by decide +kernel) (by decide +kernel)
theorem u698 : Cond.selects RX9 yX9_write yX9_write ∈ zU := z_t 698 (by decide +kernel) (by decide +kernel)
theorem u699 : Cond.code yX9_write cX9_write 8 (some .long) ∈ zU := z_t 699 (by decide +kernel) (by decide +kernel)
theorem u700 : Cond.methodLink RX9 202 yX5_isMissing ∈ zU := z_t 700 (by decide +kernel) (by decide +kernel)
theorem u701 : Cond.instanceMethod yX5_isMissing ∈ zU := z_t 701 (by decide +kernel) (by decide +kernel)
theorem u702 : Cond.selects RX5 yX5_isMissing yX5_isMissing ∈ zU := z_t 702 (by decide +kernel) (by decide +kernel)
theorem u703 : Cond.code yX5_isMissing cX5_isMissing 1 (some .boolean) ∈ zU := z_t 703 (by decide +kernel) (by decide +kernel)
theorem u704 : Cond.methodLink RX9 209 yX5_put ∈ zU := z_t 704 (by decide +kernel) (by decide +kernel)
theorem u705 : Cond.instanceMethod yX5_put ∈ zU := z_t 705 (by decide +kernel) (by decide +kernel)
theorem u706 : Cond.selects RX5 yX5_put yX5_put ∈ zU := z_t 706 (by decide +kernel) (by decide +kernel)
theorem u707 : Cond.code yX5_put cX5_put 4 none ∈ zU := z_t 707 (by decide +kernel) (by decide +kernel)
theorem u708 : Cond.methodLink RL 149 yX9_copy ∈ zU := z_t 708 (by decide +kernel) (by decide +kernel)
theorem u709 : Cond.instanceMethod yX9_copy ∈ zU := z_t 709 (by decide +kernel) (by decide +kernel)
theorem u710 : Cond.selects RX9 yX9_copy yX9_copy ∈ zU := z_t 710 (by decide +kernel) (by decide +kernel)
theorem u711 : Cond.code yX9_copy cX9_copy 8 (some .int) ∈ zU := z_t 711 (by decide +kernel) (by decide +kernel)
theorem u712 : Cond.methodLink RX9 216 yX5_hasSpan ∈ zU := z_t 712 (by decide +kernel) (by decide +kernel)
theorem u713 : Cond.instanceMethod yX5_hasSpan ∈ zU := z_t 713 (by decide +kernel) (by decide +kernel)
theorem u714 : Cond.selects RX5 yX5_hasSpan yX5_hasSpan ∈ zU := z_t 714 (by decide +kernel) (by decide +kernel)
theorem u715 : Cond.code yX5_hasSpan cX5_hasSpan 3 (some .boolean) ∈ zU := z_t 715 (by decide +kernel) (by decide +kernel)
theorem u716 : Cond.methodLink RX9 219 arraycopyName ∈ zU := z_t 716 (by decide +kernel) (by decide +kernel)
theorem u717 : Cond.methodLink RL 154 yX9_lays ∈ zU := z_t 717 (by decide +kernel) (by decide +kernel)
theorem u718 : Cond.instanceMethod yX9_lays ∈ zU := z_t 718 (by decide +kernel) (by decide +kernel)
theorem u719 : Cond.selects RX9 yX9_lays yX9_lays ∈ zU := z_t 719 (by decide +kernel) (by decide +kernel)
theorem u720 : Cond.code yX9_lays cX9_lays 7 (some .int) ∈ zU := z_t 720 (by decide +kernel) (by decide +kernel)
theorem u721 : Cond.constantLong RX9 228 (9999) ∈ zU := z_t 721 (by decide +kernel) (by decide +kernel)
theorem u722 : Cond.methodLink RL 158 yX9_book ∈ zU := z_t 722 (by decide +kernel) (by decide +kernel)
theorem u723 : Cond.instanceMethod yX9_book ∈ zU := z_t 723 (by decide +kernel) (by decide +kernel)
theorem u724 : Cond.selects RX9 yX9_book yX9_book ∈ zU := z_t 724 (by decide +kernel) (by decide +kernel)
theorem u725 : Cond.code yX9_book cX9_book 5 (some .int) ∈ zU := z_t 725 (by decide +kernel) (by decide +kernel)
theorem u726 : Cond.methodLink RL 162 yX9_read ∈ zU := z_t 726 (by decide +kernel) (by decide +kernel)
theorem u727 : Cond.instanceMethod yX9_read ∈ zU := z_t 727 (by decide +kernel) (by decide +kernel)
theorem u728 : Cond.selects RX9 yX9_read yX9_read ∈ zU := z_t 728 (by decide +kernel) (by decide +kernel)
theorem u729 : Cond.code yX9_read cX9_read 7 (some .int) ∈ zU := z_t 729 (by decide +kernel) (by decide +kernel)
theorem u730 : Cond.methodLink RX9 230 yX9_trialFollows ∈ zU := z_t 730 (by decide +kernel) (by decide +kernel)
theorem u732 : Cond.instanceMethod yX9_trialFollows ∈ zU := z_t 732 (by decide +kernel) (by decide +kernel)
theorem u733 : Cond.code yX9_trialFollows cX9_trialFollows 4 (some .boolean) ∈ zU := z_t 733 (by decide +kernel) (by decide +kernel)
theorem u734 : Cond.methodLink RL 166 yX9_image ∈ zU := z_t 734 (by decide +kernel) (by decide +kernel)
theorem u735 : Cond.instanceMethod yX9_image ∈ zU := z_t 735 (by decide +kernel) (by decide +kernel)
theorem u736 : Cond.selects RX9 yX9_image yX9_image ∈ zU := z_t 736 (by decide +kernel) (by decide +kernel)
theorem u737 : Cond.code yX9_image cX9_image 1 (some .int) ∈ zU := z_t 737 (by decide +kernel) (by decide +kernel)
theorem u738 : Cond.methodLink RL 170 yX9_undo ∈ zU := z_t 738 (by decide +kernel) (by decide +kernel)
theorem u739 : Cond.instanceMethod yX9_undo ∈ zU := z_t 739 (by decide +kernel) (by decide +kernel)
theorem u740 : Cond.selects RX9 yX9_undo yX9_undo ∈ zU := z_t 740 (by decide +kernel) (by decide +kernel)
theorem u741 : Cond.code yX9_undo cX9_undo 1 (some .int) ∈ zU := z_t 741 (by decide +kernel) (by decide +kernel)
theorem u742 : Cond.methodLink RL 174 yX9_tear ∈ zU := z_t 742 (by decide +kernel) (by decide +kernel)
theorem u743 : Cond.instanceMethod yX9_tear ∈ zU := z_t 743 (by decide +kernel) (by decide +kernel)
theorem u744 : Cond.selects RX9 yX9_tear yX9_tear ∈ zU := z_t 744 (by decide +kernel) (by decide +kernel)
theorem u745 : Cond.code yX9_tear cX9_tear 2 (some .int) ∈ zU := z_t 745 (by decide +kernel) (by decide +kernel)
theorem u746 : Cond.methodLink RL 178 yX9_count ∈ zU := z_t 746 (by decide +kernel) (by decide +kernel)
theorem u747 : Cond.instanceMethod yX9_count ∈ zU := z_t 747 (by decide +kernel) (by decide +kernel)
theorem u748 : Cond.selects RX9 yX9_count yX9_count ∈ zU := z_t 748 (by decide +kernel) (by decide +kernel)
theorem u749 : Cond.code yX9_count cX9_count 2 (some .int) ∈ zU := z_t 749 (by decide +kernel) (by decide +kernel)
theorem u750 : Cond.methodLink RX9 234 yX7_allHoards ∈ zU := z_t 750 (by decide +kernel) (by decide +kernel)
theorem u751 : Cond.instanceMethod yX7_allHoards ∈ zU := z_t 751 (by decide +kernel) (by decide +kernel)
theorem u752 : Cond.selects RX7 yX7_allHoards yX7_allHoards ∈ zU := z_t 752 (by decide +kernel) (by decide +kernel)
theorem u753 : Cond.code yX7_allHoards cX7_allHoards 3 (some .int) ∈ zU := z_t 753 (by decide +kernel) (by decide +kernel)
theorem u754 : Cond.methodLink RL 182 yX9_status ∈ zU := z_t 754 (by decide +kernel) (by decide +kernel)
theorem u755 : Cond.instanceMethod yX9_status ∈ zU := z_t 755 (by decide +kernel) (by decide +kernel)
theorem u756 : Cond.selects RX9 yX9_status yX9_status ∈ zU := z_t 756 (by decide +kernel) (by decide +kernel)
theorem u757 : Cond.code yX9_status cX9_status 4 (some .int) ∈ zU := z_t 757 (by decide +kernel) (by decide +kernel)
theorem u758 : Cond.classLink RL 10 RX10 ∈ zU := z_t 758 (by decide +kernel) (by decide +kernel)
theorem u759 : Cond.instantiable RX10 16 ∈ zU := z_t 759 (by decide +kernel) (by decide +kernel)
theorem u760 : Cond.methodLink RL 12 yX10_init ∈ zU := z_t 760 (by decide +kernel) (by decide +kernel)
theorem u761 : Cond.instanceMethod yX10_init ∈ zU := z_t 761 (by decide +kernel) (by decide +kernel)
theorem u762 : Cond.code yX10_init cX10_init 2 none ∈ zU := z_t 762 (by decide +kernel) (by decide +kernel)
theorem u763 : Cond.methodLink RX10 1 objectInit ∈ zU := z_t 763 (by decide +kernel) (by decide +kernel)
theorem u764 : Cond.methodLink RX10 41 yX10_houseSpot ∈ zU := z_t 764 (by decide +kernel) (by decide +kernel)
theorem u765 : Cond.static yX10_houseSpot ∈ zU := z_t 765 (by decide +kernel) (by decide +kernel)
theorem u766 : Cond.code yX10_houseSpot cX10_houseSpot 2 (some .int) ∈ zU := z_t 766 (by decide +kernel) (by decide +kernel)
theorem u767 : Cond.fieldLink RX10 7 "BeardHireModel" "s" "[I" ∈ zU := z_t 767 (by decide +kernel) (by decide +kernel)
theorem u768 : Cond.fieldLink RX10 13 "BeardHireModel" "keptS" "[I" ∈ zU := z_t 768 (by decide +kernel) (by decide +kernel)
theorem u769 : Cond.fieldLink RX10 16 "BeardHireModel" "other" "[I" ∈ zU := z_t 769 (by decide +kernel) (by decide +kernel)
theorem u770 : Cond.fieldLink RX10 19 "BeardHireModel" "aside" "[I" ∈ zU := z_t 770 (by decide +kernel) (by decide +kernel)
theorem u771 : Cond.fieldLink RX10 22 "BeardHireModel" "statuses" "[I" ∈ zU := z_t 771 (by decide +kernel) (by decide +kernel)
theorem u772 : Cond.fieldLink RX10 331 "BeardHireModel" "isKept" "Z" ∈ zU := z_t 772 (by decide +kernel) (by decide +kernel)
theorem u773 : Cond.fieldLink RX10 25 "BeardHireModel" "tape" "[I" ∈ zU := z_t 773 (by decide +kernel) (by decide +kernel)
theorem u774 : Cond.fieldLink RX10 205 "BeardHireModel" "taped" "I" ∈ zU := z_t 774 (by decide +kernel) (by decide +kernel)
theorem u775 : Cond.fieldLink RX10 220 "BeardHireModel" "from" "I" ∈ zU := z_t 775 (by decide +kernel) (by decide +kernel)
theorem u776 : Cond.fieldLink RX10 217 "BeardHireModel" "to" "I" ∈ zU := z_t 776 (by decide +kernel) (by decide +kernel)
theorem u777 : Cond.fieldLink RX10 243 "BeardHireModel" "value" "I" ∈ zU := z_t 777 (by decide +kernel) (by decide +kernel)
theorem u778 : Cond.fieldLink RX10 232 "BeardHireModel" "isWrong" "Z" ∈ zU := z_t 778 (by decide +kernel) (by decide +kernel)
theorem u779 : Cond.fieldLink RX10 28 "BeardHireModel" "bitsOf" "[I" ∈ zU := z_t 779 (by decide +kernel) (by decide +kernel)
theorem u780 : Cond.fieldLink RX10 31 "BeardHireModel" "sizeOf" "[I" ∈ zU := z_t 780 (by decide +kernel) (by decide +kernel)
theorem u781 : Cond.fieldLink RX10 34 "BeardHireModel" "numbers" "[J" ∈ zU := z_t 781 (by decide +kernel) (by decide +kernel)
theorem u782 : Cond.fieldLink RX10 38 "BeardHireModel" "moved" "[J" ∈ zU := z_t 782 (by decide +kernel) (by decide +kernel)
theorem u783 : Cond.laysFinal "BeardHireModel" "BeardHireModel" "s" "[I" ∈ zU := z_t 783 (by decide +kernel) (by decide +kernel)
theorem u785 : Cond.laysFinal "BeardHireModel" "BeardHireModel" "keptS" "[I" ∈ zU := z_t 785 (by decide +kernel) (by decide +kernel)
theorem u787 : Cond.laysFinal "BeardHireModel" "BeardHireModel" "other" "[I" ∈ zU := z_t 787 (by decide +kernel) (by decide +kernel)
theorem u789 : Cond.laysFinal "BeardHireModel" "BeardHireModel" "aside" "[I" ∈ zU := z_t 789 (by decide +kernel) (by decide +kernel)
theorem u791 : Cond.laysFinal "BeardHireModel" "BeardHireModel" "statuses" "[I" ∈ zU := z_t 791 (by decide +kernel) (by decide +kernel)
theorem u793 : Cond.lays "BeardHireModel" "BeardHireModel" "isKept" "Z" ∈ zU := z_t 793 (by decide +kernel) (by decide +kernel)
theorem u795 : Cond.laysFinal "BeardHireModel" "BeardHireModel" "tape" "[I" ∈ zU := z_t 795 (by decide +kernel) (by decide +kernel)
theorem u797 : Cond.lays "BeardHireModel" "BeardHireModel" "taped" "I" ∈ zU := z_t 797 (by decide +kernel) (by decide +kernel)
theorem u799 : Cond.lays "BeardHireModel" "BeardHireModel" "from" "I" ∈ zU := z_t 799 (by decide +kernel) (by decide +kernel)
theorem u801 : Cond.lays "BeardHireModel" "BeardHireModel" "to" "I" ∈ zU := z_t 801 (by decide +kernel) (by decide +kernel)
theorem u803 : Cond.lays "BeardHireModel" "BeardHireModel" "value" "I" ∈ zU := z_t 803 (by decide +kernel) (by decide +kernel)
theorem u805 : Cond.lays "BeardHireModel" "BeardHireModel" "isWrong" "Z" ∈ zU := z_t 805 (by decide +kernel) (by decide +kernel)
theorem u807 : Cond.laysFinal "BeardHireModel" "BeardHireModel" "bitsOf" "[I" ∈ zU := z_t 807 (by decide +kernel) (by decide +kernel)
theorem u809 : Cond.laysFinal "BeardHireModel" "BeardHireModel" "sizeOf" "[I" ∈ zU := z_t 809 (by decide +kernel) (by decide +kernel)
theorem u811 : Cond.laysFinal "BeardHireModel" "BeardHireModel" "numbers" "[J" ∈ zU := z_t 811 (by decide +kernel) (by decide +kernel)
theorem u813 : Cond.laysFinal "BeardHireModel" "BeardHireModel" "moved" "[J" ∈ zU := z_t 813 (by decide +kernel) (by decide +kernel)
theorem u815 : Cond.superclass RX10 "java/lang/Object" ∈ zU := z_t 815 (by decide +kernel) (by decide +kernel)
theorem u816 : Cond.methodLink RL 17 yX10_mood ∈ zU := z_t 816 (by decide +kernel) (by decide +kernel)
theorem u817 : Cond.instanceMethod yX10_mood ∈ zU := z_t 817 (by decide +kernel) (by decide +kernel)
theorem u818 : Cond.selects RX10 yX10_mood yX10_mood ∈ zU := z_t 818 (by decide +kernel) (by decide +kernel)
theorem u819 : Cond.code yX10_mood cX10_mood 3 (some .int) ∈ zU := z_t 819 (by decide +kernel) (by decide +kernel)
theorem u820 : Cond.methodLink RX10 64 yX10_isHouse ∈ zU := z_t 820 (by decide +kernel) (by decide +kernel)
theorem u821 : Cond.static yX10_isHouse ∈ zU := z_t 821 (by decide +kernel) (by decide +kernel)
theorem u822 : Cond.code yX10_isHouse cX10_isHouse 1 (some .boolean) ∈ zU := z_t 822 (by decide +kernel) (by decide +kernel)
theorem u823 : Cond.constantLong RX10 52 (5) ∈ zU := z_t 823 (by decide +kernel) (by decide +kernel)
theorem u824 : Cond.methodLink RX10 54 yX10_in ∈ zU := z_t 824 (by decide +kernel) (by decide +kernel)
theorem u825 : Cond.static yX10_in ∈ zU := z_t 825 (by decide +kernel) (by decide +kernel)
theorem u826 : Cond.code yX10_in cX10_in 6 (some .boolean) ∈ zU := z_t 826 (by decide +kernel) (by decide +kernel)
theorem u827 : Cond.constantLong RX10 68 (-50) ∈ zU := z_t 827 (by decide +kernel) (by decide +kernel)
theorem u828 : Cond.constantLong RX10 70 (50) ∈ zU := z_t 828 (by decide +kernel) (by decide +kernel)
theorem u829 : Cond.methodLink RX10 72 yX10_becomes ∈ zU := z_t 829 (by decide +kernel) (by decide +kernel)
theorem u831 : Cond.instanceMethod yX10_becomes ∈ zU := z_t 831 (by decide +kernel) (by decide +kernel)
theorem u832 : Cond.code yX10_becomes cX10_becomes 4 (some .int) ∈ zU := z_t 832 (by decide +kernel) (by decide +kernel)
theorem u833 : Cond.constant RX10 45 (-1000000001) ∈ zU := z_t 833 (by decide +kernel) (by decide +kernel)
theorem u834 : Cond.methodLink RX10 75 yX10_finds ∈ zU := z_t 834 (by decide +kernel) (by decide +kernel)
theorem u836 : Cond.instanceMethod yX10_finds ∈ zU := z_t 836 (by decide +kernel) (by decide +kernel)
theorem u837 : Cond.code yX10_finds cX10_finds 2 (some .int) ∈ zU := z_t 837 (by decide +kernel) (by decide +kernel)
theorem u838 : Cond.methodLink RL 21 yX10_recall ∈ zU := z_t 838 (by decide +kernel) (by decide +kernel)
theorem u839 : Cond.instanceMethod yX10_recall ∈ zU := z_t 839 (by decide +kernel) (by decide +kernel)
theorem u840 : Cond.selects RX10 yX10_recall yX10_recall ∈ zU := z_t 840 (by decide +kernel) (by decide +kernel)
theorem u841 : Cond.code yX10_recall cX10_recall 4 (some .int) ∈ zU := z_t 841 (by decide +kernel) (by decide +kernel)
theorem u842 : Cond.methodLink RX10 79 yX10_isBeard ∈ zU := z_t 842 (by decide +kernel) (by decide +kernel)
theorem u844 : Cond.instanceMethod yX10_isBeard ∈ zU := z_t 844 (by decide +kernel) (by decide +kernel)
theorem u845 : Cond.code yX10_isBeard cX10_isBeard 2 (some .boolean) ∈ zU := z_t 845 (by decide +kernel) (by decide +kernel)
theorem u846 : Cond.methodLink RL 25 yX10_houseOf ∈ zU := z_t 846 (by decide +kernel) (by decide +kernel)
theorem u847 : Cond.instanceMethod yX10_houseOf ∈ zU := z_t 847 (by decide +kernel) (by decide +kernel)
theorem u848 : Cond.selects RX10 yX10_houseOf yX10_houseOf ∈ zU := z_t 848 (by decide +kernel) (by decide +kernel)
theorem u849 : Cond.code yX10_houseOf cX10_houseOf 3 (some .int) ∈ zU := z_t 849 (by decide +kernel) (by decide +kernel)
theorem u850 : Cond.constantLong RX10 85 (2) ∈ zU := z_t 850 (by decide +kernel) (by decide +kernel)
theorem u851 : Cond.methodLink RX10 87 yX10_house ∈ zU := z_t 851 (by decide +kernel) (by decide +kernel)
theorem u853 : Cond.instanceMethod yX10_house ∈ zU := z_t 853 (by decide +kernel) (by decide +kernel)
theorem u854 : Cond.code yX10_house cX10_house 3 (some .int) ∈ zU := z_t 854 (by decide +kernel) (by decide +kernel)
theorem u855 : Cond.methodLink RX10 90 yX10_goers ∈ zU := z_t 855 (by decide +kernel) (by decide +kernel)
theorem u857 : Cond.instanceMethod yX10_goers ∈ zU := z_t 857 (by decide +kernel) (by decide +kernel)
theorem u858 : Cond.code yX10_goers cX10_goers 4 (some .int) ∈ zU := z_t 858 (by decide +kernel) (by decide +kernel)
theorem u859 : Cond.methodLink RX10 82 yX10_placeOf ∈ zU := z_t 859 (by decide +kernel) (by decide +kernel)
theorem u861 : Cond.instanceMethod yX10_placeOf ∈ zU := z_t 861 (by decide +kernel) (by decide +kernel)
theorem u862 : Cond.code yX10_placeOf cX10_placeOf 2 (some .int) ∈ zU := z_t 862 (by decide +kernel) (by decide +kernel)
theorem u863 : Cond.methodLink RX10 58 yX10_theirs ∈ zU := z_t 863 (by decide +kernel) (by decide +kernel)
theorem u865 : Cond.instanceMethod yX10_theirs ∈ zU := z_t 865 (by decide +kernel) (by decide +kernel)
theorem u866 : Cond.code yX10_theirs cX10_theirs 3 (some .int) ∈ zU := z_t 866 (by decide +kernel) (by decide +kernel)
theorem u867 : Cond.methodLink RX10 49 yX10_wearerSpot ∈ zU := z_t 867 (by decide +kernel) (by decide +kernel)
theorem u868 : Cond.static yX10_wearerSpot ∈ zU := z_t 868 (by decide +kernel) (by decide +kernel)
theorem u869 : Cond.code yX10_wearerSpot cX10_wearerSpot 2 (some .int) ∈ zU := z_t 869 (by decide +kernel) (by decide +kernel)
theorem u870 : Cond.methodLink RL 30 yX10_now ∈ zU := z_t 870 (by decide +kernel) (by decide +kernel)
theorem u871 : Cond.instanceMethod yX10_now ∈ zU := z_t 871 (by decide +kernel) (by decide +kernel)
theorem u872 : Cond.selects RX10 yX10_now yX10_now ∈ zU := z_t 872 (by decide +kernel) (by decide +kernel)
theorem u873 : Cond.code yX10_now cX10_now 2 (some .int) ∈ zU := z_t 873 (by decide +kernel) (by decide +kernel)
theorem u874 : Cond.methodLink RX10 93 yX10_isMonday ∈ zU := z_t 874 (by decide +kernel) (by decide +kernel)
theorem u876 : Cond.instanceMethod yX10_isMonday ∈ zU := z_t 876 (by decide +kernel) (by decide +kernel)
theorem u877 : Cond.code yX10_isMonday cX10_isMonday 1 (some .boolean) ∈ zU := z_t 877 (by decide +kernel) (by decide +kernel)
theorem u878 : Cond.methodLink RX10 97 yX10_inShop ∈ zU := z_t 878 (by decide +kernel) (by decide +kernel)
theorem u880 : Cond.instanceMethod yX10_inShop ∈ zU := z_t 880 (by decide +kernel) (by decide +kernel)
theorem u881 : Cond.code yX10_inShop cX10_inShop 3 (some .int) ∈ zU := z_t 881 (by decide +kernel) (by decide +kernel)
theorem u882 : Cond.methodLink RX10 61 yX10_its ∈ zU := z_t 882 (by decide +kernel) (by decide +kernel)
theorem u884 : Cond.instanceMethod yX10_its ∈ zU := z_t 884 (by decide +kernel) (by decide +kernel)
theorem u885 : Cond.code yX10_its cX10_its 3 (some .int) ∈ zU := z_t 885 (by decide +kernel) (by decide +kernel)
theorem u886 : Cond.methodLink RX10 46 yX10_beardSpot ∈ zU := z_t 886 (by decide +kernel) (by decide +kernel)
theorem u887 : Cond.static yX10_beardSpot ∈ zU := z_t 887 (by decide +kernel) (by decide +kernel)
theorem u888 : Cond.code yX10_beardSpot cX10_beardSpot 2 (some .int) ∈ zU := z_t 888 (by decide +kernel) (by decide +kernel)
theorem u889 : Cond.methodLink RX10 101 yX10_bearded ∈ zU := z_t 889 (by decide +kernel) (by decide +kernel)
theorem u891 : Cond.instanceMethod yX10_bearded ∈ zU := z_t 891 (by decide +kernel) (by decide +kernel)
theorem u892 : Cond.code yX10_bearded cX10_bearded 3 (some .int) ∈ zU := z_t 892 (by decide +kernel) (by decide +kernel)
theorem u893 : Cond.methodLink RX10 104 yX10_purses ∈ zU := z_t 893 (by decide +kernel) (by decide +kernel)
theorem u895 : Cond.instanceMethod yX10_purses ∈ zU := z_t 895 (by decide +kernel) (by decide +kernel)
theorem u896 : Cond.code yX10_purses cX10_purses 3 (some .int) ∈ zU := z_t 896 (by decide +kernel) (by decide +kernel)
theorem u897 : Cond.methodLink RL 34 yX10_beard ∈ zU := z_t 897 (by decide +kernel) (by decide +kernel)
theorem u898 : Cond.instanceMethod yX10_beard ∈ zU := z_t 898 (by decide +kernel) (by decide +kernel)
theorem u899 : Cond.selects RX10 yX10_beard yX10_beard ∈ zU := z_t 899 (by decide +kernel) (by decide +kernel)
theorem u900 : Cond.code yX10_beard cX10_beard 2 (some .int) ∈ zU := z_t 900 (by decide +kernel) (by decide +kernel)
theorem u901 : Cond.methodLink RX10 107 yX10_isKind ∈ zU := z_t 901 (by decide +kernel) (by decide +kernel)
theorem u902 : Cond.static yX10_isKind ∈ zU := z_t 902 (by decide +kernel) (by decide +kernel)
theorem u903 : Cond.code yX10_isKind cX10_isKind 1 (some .boolean) ∈ zU := z_t 903 (by decide +kernel) (by decide +kernel)
theorem u904 : Cond.constant RX10 110 (-1000000002) ∈ zU := z_t 904 (by decide +kernel) (by decide +kernel)
theorem u905 : Cond.methodLink RX10 111 yX10_addsBeard ∈ zU := z_t 905 (by decide +kernel) (by decide +kernel)
theorem u907 : Cond.instanceMethod yX10_addsBeard ∈ zU := z_t 907 (by decide +kernel) (by decide +kernel)
theorem u908 : Cond.code yX10_addsBeard cX10_addsBeard 3 (some .int) ∈ zU := z_t 908 (by decide +kernel) (by decide +kernel)
theorem u909 : Cond.methodLink RL 38 yX10_of ∈ zU := z_t 909 (by decide +kernel) (by decide +kernel)
theorem u910 : Cond.instanceMethod yX10_of ∈ zU := z_t 910 (by decide +kernel) (by decide +kernel)
theorem u911 : Cond.selects RX10 yX10_of yX10_of ∈ zU := z_t 911 (by decide +kernel) (by decide +kernel)
theorem u912 : Cond.code yX10_of cX10_of 3 (some .int) ∈ zU := z_t 912 (by decide +kernel) (by decide +kernel)
theorem u913 : Cond.methodLink RX10 114 yX10_costsOf ∈ zU := z_t 913 (by decide +kernel) (by decide +kernel)
theorem u915 : Cond.instanceMethod yX10_costsOf ∈ zU := z_t 915 (by decide +kernel) (by decide +kernel)
theorem u916 : Cond.code yX10_costsOf cX10_costsOf 3 (some .int) ∈ zU := z_t 916 (by decide +kernel) (by decide +kernel)
theorem u917 : Cond.methodLink RX10 117 yX10_gainsOf ∈ zU := z_t 917 (by decide +kernel) (by decide +kernel)
theorem u919 : Cond.instanceMethod yX10_gainsOf ∈ zU := z_t 919 (by decide +kernel) (by decide +kernel)
theorem u920 : Cond.code yX10_gainsOf cX10_gainsOf 2 (some .int) ∈ zU := z_t 920 (by decide +kernel) (by decide +kernel)
theorem u921 : Cond.methodLink RL 43 yX10_can ∈ zU := z_t 921 (by decide +kernel) (by decide +kernel)
theorem u922 : Cond.instanceMethod yX10_can ∈ zU := z_t 922 (by decide +kernel) (by decide +kernel)
theorem u923 : Cond.selects RX10 yX10_can yX10_can ∈ zU := z_t 923 (by decide +kernel) (by decide +kernel)
theorem u924 : Cond.code yX10_can cX10_can 4 (some .int) ∈ zU := z_t 924 (by decide +kernel) (by decide +kernel)
theorem u925 : Cond.methodLink RX10 120 yX10_meetsOf ∈ zU := z_t 925 (by decide +kernel) (by decide +kernel)
theorem u927 : Cond.instanceMethod yX10_meetsOf ∈ zU := z_t 927 (by decide +kernel) (by decide +kernel)
theorem u928 : Cond.code yX10_meetsOf cX10_meetsOf 7 (some .int) ∈ zU := z_t 928 (by decide +kernel) (by decide +kernel)
theorem u929 : Cond.methodLink RX10 123 yX10_leavesOf ∈ zU := z_t 929 (by decide +kernel) (by decide +kernel)
theorem u931 : Cond.instanceMethod yX10_leavesOf ∈ zU := z_t 931 (by decide +kernel) (by decide +kernel)
theorem u932 : Cond.code yX10_leavesOf cX10_leavesOf 3 (some .int) ∈ zU := z_t 932 (by decide +kernel) (by decide +kernel)
theorem u933 : Cond.methodLink RL 47 yX10_set ∈ zU := z_t 933 (by decide +kernel) (by decide +kernel)
theorem u934 : Cond.instanceMethod yX10_set ∈ zU := z_t 934 (by decide +kernel) (by decide +kernel)
theorem u935 : Cond.selects RX10 yX10_set yX10_set ∈ zU := z_t 935 (by decide +kernel) (by decide +kernel)
theorem u936 : Cond.code yX10_set cX10_set 5 (some .int) ∈ zU := z_t 936 (by decide +kernel) (by decide +kernel)
theorem u937 : Cond.constantLong RX10 126 (99) ∈ zU := z_t 937 (by decide +kernel) (by decide +kernel)
theorem u938 : Cond.constantLong RX10 128 (999) ∈ zU := z_t 938 (by decide +kernel) (by decide +kernel)
theorem u939 : Cond.methodLink RL 51 yX10_turn ∈ zU := z_t 939 (by decide +kernel) (by decide +kernel)
theorem u940 : Cond.instanceMethod yX10_turn ∈ zU := z_t 940 (by decide +kernel) (by decide +kernel)
theorem u941 : Cond.selects RX10 yX10_turn yX10_turn ∈ zU := z_t 941 (by decide +kernel) (by decide +kernel)
theorem u942 : Cond.code yX10_turn cX10_turn 3 (some .int) ∈ zU := z_t 942 (by decide +kernel) (by decide +kernel)
theorem u943 : Cond.methodLink RL 55 yX10_as ∈ zU := z_t 943 (by decide +kernel) (by decide +kernel)
theorem u944 : Cond.instanceMethod yX10_as ∈ zU := z_t 944 (by decide +kernel) (by decide +kernel)
theorem u945 : Cond.selects RX10 yX10_as yX10_as ∈ zU := z_t 945 (by decide +kernel) (by decide +kernel)
theorem u946 : Cond.code yX10_as cX10_as 3 (some .int) ∈ zU := z_t 946 (by decide +kernel) (by decide +kernel)
theorem u947 : Cond.methodLink RX10 130 yX10_isUnder ∈ zU := z_t 947 (by decide +kernel) (by decide +kernel)
theorem u948 : Cond.static yX10_isUnder ∈ zU := z_t 948 (by decide +kernel) (by decide +kernel)
theorem u949 : Cond.code yX10_isUnder cX10_isUnder 2 (some .boolean) ∈ zU := z_t 949 (by decide +kernel) (by decide +kernel)
theorem u950 : Cond.constant RX10 134 (-1000000003) ∈ zU := z_t 950 (by decide +kernel) (by decide +kernel)
theorem u951 : Cond.methodLink RL 59 yX10_wearer ∈ zU := z_t 951 (by decide +kernel) (by decide +kernel)
theorem u952 : Cond.instanceMethod yX10_wearer ∈ zU := z_t 952 (by decide +kernel) (by decide +kernel)
theorem u953 : Cond.selects RX10 yX10_wearer yX10_wearer ∈ zU := z_t 953 (by decide +kernel) (by decide +kernel)
theorem u954 : Cond.code yX10_wearer cX10_wearer 2 (some .int) ∈ zU := z_t 954 (by decide +kernel) (by decide +kernel)
theorem u955 : Cond.constantLong RX10 135 (9999) ∈ zU := z_t 955 (by decide +kernel) (by decide +kernel)
theorem u956 : Cond.methodLink RX10 137 yX10_addsWearer ∈ zU := z_t 956 (by decide +kernel) (by decide +kernel)
theorem u958 : Cond.instanceMethod yX10_addsWearer ∈ zU := z_t 958 (by decide +kernel) (by decide +kernel)
theorem u959 : Cond.code yX10_addsWearer cX10_addsWearer 3 (some .int) ∈ zU := z_t 959 (by decide +kernel) (by decide +kernel)
theorem u960 : Cond.methodLink RL 63 yX10_wearerOf ∈ zU := z_t 960 (by decide +kernel) (by decide +kernel)
theorem u961 : Cond.instanceMethod yX10_wearerOf ∈ zU := z_t 961 (by decide +kernel) (by decide +kernel)
theorem u962 : Cond.selects RX10 yX10_wearerOf yX10_wearerOf ∈ zU := z_t 962 (by decide +kernel) (by decide +kernel)
theorem u963 : Cond.code yX10_wearerOf cX10_wearerOf 3 (some .int) ∈ zU := z_t 963 (by decide +kernel) (by decide +kernel)
theorem u964 : Cond.methodLink RX10 140 yX10_isWearer ∈ zU := z_t 964 (by decide +kernel) (by decide +kernel)
theorem u966 : Cond.instanceMethod yX10_isWearer ∈ zU := z_t 966 (by decide +kernel) (by decide +kernel)
theorem u967 : Cond.code yX10_isWearer cX10_isWearer 2 (some .boolean) ∈ zU := z_t 967 (by decide +kernel) (by decide +kernel)
theorem u968 : Cond.constantLong RX10 143 (3) ∈ zU := z_t 968 (by decide +kernel) (by decide +kernel)
theorem u969 : Cond.methodLink RX10 145 yX10_wornBy ∈ zU := z_t 969 (by decide +kernel) (by decide +kernel)
theorem u971 : Cond.instanceMethod yX10_wornBy ∈ zU := z_t 971 (by decide +kernel) (by decide +kernel)
theorem u972 : Cond.code yX10_wornBy cX10_wornBy 4 (some .int) ∈ zU := z_t 972 (by decide +kernel) (by decide +kernel)
theorem u973 : Cond.methodLink RL 67 yX10_give ∈ zU := z_t 973 (by decide +kernel) (by decide +kernel)
theorem u974 : Cond.instanceMethod yX10_give ∈ zU := z_t 974 (by decide +kernel) (by decide +kernel)
theorem u975 : Cond.selects RX10 yX10_give yX10_give ∈ zU := z_t 975 (by decide +kernel) (by decide +kernel)
theorem u976 : Cond.code yX10_give cX10_give 5 (some .int) ∈ zU := z_t 976 (by decide +kernel) (by decide +kernel)
theorem u977 : Cond.methodLink RL 71 yX10_hire ∈ zU := z_t 977 (by decide +kernel) (by decide +kernel)
theorem u978 : Cond.instanceMethod yX10_hire ∈ zU := z_t 978 (by decide +kernel) (by decide +kernel)
theorem u979 : Cond.selects RX10 yX10_hire yX10_hire ∈ zU := z_t 979 (by decide +kernel) (by decide +kernel)
theorem u980 : Cond.code yX10_hire cX10_hire 3 (some .int) ∈ zU := z_t 980 (by decide +kernel) (by decide +kernel)
theorem u981 : Cond.constant RX10 148 (-1000000005) ∈ zU := z_t 981 (by decide +kernel) (by decide +kernel)
theorem u982 : Cond.methodLink RL 75 yX10_back ∈ zU := z_t 982 (by decide +kernel) (by decide +kernel)
theorem u983 : Cond.instanceMethod yX10_back ∈ zU := z_t 983 (by decide +kernel) (by decide +kernel)
theorem u984 : Cond.selects RX10 yX10_back yX10_back ∈ zU := z_t 984 (by decide +kernel) (by decide +kernel)
theorem u985 : Cond.code yX10_back cX10_back 2 (some .int) ∈ zU := z_t 985 (by decide +kernel) (by decide +kernel)
theorem u986 : Cond.methodLink RL 79 yX10_nights ∈ zU := z_t 986 (by decide +kernel) (by decide +kernel)
theorem u987 : Cond.instanceMethod yX10_nights ∈ zU := z_t 987 (by decide +kernel) (by decide +kernel)
theorem u988 : Cond.selects RX10 yX10_nights yX10_nights ∈ zU := z_t 988 (by decide +kernel) (by decide +kernel)
theorem u989 : Cond.code yX10_nights cX10_nights 2 (some .int) ∈ zU := z_t 989 (by decide +kernel) (by decide +kernel)
theorem u990 : Cond.constantLong RX10 163 (100) ∈ zU := z_t 990 (by decide +kernel) (by decide +kernel)
theorem u991 : Cond.constant RX10 165 (99999) ∈ zU := z_t 991 (by decide +kernel) (by decide +kernel)
theorem u992 : Cond.methodLink RX10 166 yX10_nightsGo ∈ zU := z_t 992 (by decide +kernel) (by decide +kernel)
theorem u994 : Cond.instanceMethod yX10_nightsGo ∈ zU := z_t 994 (by decide +kernel) (by decide +kernel)
theorem u995 : Cond.code yX10_nightsGo cX10_nightsGo 3 none ∈ zU := z_t 995 (by decide +kernel) (by decide +kernel)
theorem u996 : Cond.methodLink RX10 160 yX10_night ∈ zU := z_t 996 (by decide +kernel) (by decide +kernel)
theorem u998 : Cond.instanceMethod yX10_night ∈ zU := z_t 998 (by decide +kernel) (by decide +kernel)
theorem u999 : Cond.code yX10_night cX10_night 3 none ∈ zU := z_t 999 (by decide +kernel) (by decide +kernel)
theorem u1000 : Cond.methodLink RX10 157 yX10_wears ∈ zU := z_t 1000 (by decide +kernel) (by decide +kernel)
theorem u1002 : Cond.instanceMethod yX10_wears ∈ zU := z_t 1002 (by decide +kernel) (by decide +kernel)
theorem u1003 : Cond.code yX10_wears cX10_wears 4 none ∈ zU := z_t 1003 (by decide +kernel) (by decide +kernel)
theorem u1004 : Cond.methodLink RX10 153 yX10_goesOut ∈ zU := z_t 1004 (by decide +kernel) (by decide +kernel)
theorem u1006 : Cond.instanceMethod yX10_goesOut ∈ zU := z_t 1006 (by decide +kernel) (by decide +kernel)
theorem u1007 : Cond.code yX10_goesOut cX10_goesOut 7 none ∈ zU := z_t 1007 (by decide +kernel) (by decide +kernel)
theorem u1008 : Cond.methodLink RX10 149 yX10_held ∈ zU := z_t 1008 (by decide +kernel) (by decide +kernel)
theorem u1009 : Cond.static yX10_held ∈ zU := z_t 1009 (by decide +kernel) (by decide +kernel)
theorem u1010 : Cond.code yX10_held cX10_held 3 (some .int) ∈ zU := z_t 1010 (by decide +kernel) (by decide +kernel)
theorem u1011 : Cond.methodLink RL 83 yX10_on ∈ zU := z_t 1011 (by decide +kernel) (by decide +kernel)
theorem u1012 : Cond.instanceMethod yX10_on ∈ zU := z_t 1012 (by decide +kernel) (by decide +kernel)
theorem u1013 : Cond.selects RX10 yX10_on yX10_on ∈ zU := z_t 1013 (by decide +kernel) (by decide +kernel)
theorem u1014 : Cond.code yX10_on cX10_on 4 (some .int) ∈ zU := z_t 1014 (by decide +kernel) (by decide +kernel)
theorem u1015 : Cond.methodLink RX10 178 yX10_isAhead ∈ zU := z_t 1015 (by decide +kernel) (by decide +kernel)
theorem u1016 : Cond.static yX10_isAhead ∈ zU := z_t 1016 (by decide +kernel) (by decide +kernel)
theorem u1017 : Cond.code yX10_isAhead cX10_isAhead 1 (some .boolean) ∈ zU := z_t 1017 (by decide +kernel) (by decide +kernel)
theorem u1018 : Cond.constantLong RX10 170 (200) ∈ zU := z_t 1018 (by decide +kernel) (by decide +kernel)
theorem u1019 : Cond.methodLink RX10 181 yX10_behind ∈ zU := z_t 1019 (by decide +kernel) (by decide +kernel)
theorem u1021 : Cond.instanceMethod yX10_behind ∈ zU := z_t 1021 (by decide +kernel) (by decide +kernel)
theorem u1022 : Cond.code yX10_behind cX10_behind 3 (some .int) ∈ zU := z_t 1022 (by decide +kernel) (by decide +kernel)
theorem u1023 : Cond.methodLink RX10 172 yX10_laysAside ∈ zU := z_t 1023 (by decide +kernel) (by decide +kernel)
theorem u1025 : Cond.instanceMethod yX10_laysAside ∈ zU := z_t 1025 (by decide +kernel) (by decide +kernel)
theorem u1026 : Cond.code yX10_laysAside cX10_laysAside 2 none ∈ zU := z_t 1026 (by decide +kernel) (by decide +kernel)
theorem u1027 : Cond.methodLink RX10 175 yX10_takesBack ∈ zU := z_t 1027 (by decide +kernel) (by decide +kernel)
theorem u1029 : Cond.instanceMethod yX10_takesBack ∈ zU := z_t 1029 (by decide +kernel) (by decide +kernel)
theorem u1030 : Cond.code yX10_takesBack cX10_takesBack 3 (some .int) ∈ zU := z_t 1030 (by decide +kernel) (by decide +kernel)
theorem u1031 : Cond.methodLink RX10 184 yX10_wornBehind ∈ zU := z_t 1031 (by decide +kernel) (by decide +kernel)
theorem u1033 : Cond.instanceMethod yX10_wornBehind ∈ zU := z_t 1033 (by decide +kernel) (by decide +kernel)
theorem u1034 : Cond.code yX10_wornBehind cX10_wornBehind 3 (some .int) ∈ zU := z_t 1034 (by decide +kernel) (by decide +kernel)
theorem u1035 : Cond.methodLink RL 87 yX10_then ∈ zU := z_t 1035 (by decide +kernel) (by decide +kernel)
theorem u1036 : Cond.instanceMethod yX10_then ∈ zU := z_t 1036 (by decide +kernel) (by decide +kernel)
theorem u1037 : Cond.selects RX10 yX10_then yX10_then ∈ zU := z_t 1037 (by decide +kernel) (by decide +kernel)
theorem u1038 : Cond.code yX10_then cX10_then 4 (some .int) ∈ zU := z_t 1038 (by decide +kernel) (by decide +kernel)
theorem u1039 : Cond.methodLink RL 91 yX10_fond ∈ zU := z_t 1039 (by decide +kernel) (by decide +kernel)
theorem u1040 : Cond.instanceMethod yX10_fond ∈ zU := z_t 1040 (by decide +kernel) (by decide +kernel)
theorem u1041 : Cond.selects RX10 yX10_fond yX10_fond ∈ zU := z_t 1041 (by decide +kernel) (by decide +kernel)
theorem u1042 : Cond.code yX10_fond cX10_fond 3 (some .int) ∈ zU := z_t 1042 (by decide +kernel) (by decide +kernel)
theorem u1043 : Cond.methodLink RL 95 yX10_home ∈ zU := z_t 1043 (by decide +kernel) (by decide +kernel)
theorem u1044 : Cond.instanceMethod yX10_home ∈ zU := z_t 1044 (by decide +kernel) (by decide +kernel)
theorem u1045 : Cond.selects RX10 yX10_home yX10_home ∈ zU := z_t 1045 (by decide +kernel) (by decide +kernel)
theorem u1046 : Cond.code yX10_home cX10_home 2 (some .int) ∈ zU := z_t 1046 (by decide +kernel) (by decide +kernel)
theorem u1047 : Cond.methodLink RX10 188 yX10_firstDown ∈ zU := z_t 1047 (by decide +kernel) (by decide +kernel)
theorem u1049 : Cond.instanceMethod yX10_firstDown ∈ zU := z_t 1049 (by decide +kernel) (by decide +kernel)
theorem u1050 : Cond.code yX10_firstDown cX10_firstDown 5 (some .int) ∈ zU := z_t 1050 (by decide +kernel) (by decide +kernel)
theorem u1051 : Cond.constant RX10 187 (-1000000004) ∈ zU := z_t 1051 (by decide +kernel) (by decide +kernel)
theorem u1052 : Cond.methodLink RL 99 yX10_falls ∈ zU := z_t 1052 (by decide +kernel) (by decide +kernel)
theorem u1053 : Cond.instanceMethod yX10_falls ∈ zU := z_t 1053 (by decide +kernel) (by decide +kernel)
theorem u1054 : Cond.selects RX10 yX10_falls yX10_falls ∈ zU := z_t 1054 (by decide +kernel) (by decide +kernel)
theorem u1055 : Cond.code yX10_falls cX10_falls 3 (some .int) ∈ zU := z_t 1055 (by decide +kernel) (by decide +kernel)
theorem u1056 : Cond.methodLink RL 103 yX10_best ∈ zU := z_t 1056 (by decide +kernel) (by decide +kernel)
theorem u1057 : Cond.instanceMethod yX10_best ∈ zU := z_t 1057 (by decide +kernel) (by decide +kernel)
theorem u1058 : Cond.selects RX10 yX10_best yX10_best ∈ zU := z_t 1058 (by decide +kernel) (by decide +kernel)
theorem u1059 : Cond.code yX10_best cX10_best 7 (some .int) ∈ zU := z_t 1059 (by decide +kernel) (by decide +kernel)
theorem u1060 : Cond.methodLink RX10 193 yX10_isSoon ∈ zU := z_t 1060 (by decide +kernel) (by decide +kernel)
theorem u1061 : Cond.static yX10_isSoon ∈ zU := z_t 1061 (by decide +kernel) (by decide +kernel)
theorem u1062 : Cond.code yX10_isSoon cX10_isSoon 1 (some .boolean) ∈ zU := z_t 1062 (by decide +kernel) (by decide +kernel)
theorem u1063 : Cond.constantLong RX10 191 (60) ∈ zU := z_t 1063 (by decide +kernel) (by decide +kernel)
theorem u1064 : Cond.methodLink RL 107 yX10_round ∈ zU := z_t 1064 (by decide +kernel) (by decide +kernel)
theorem u1065 : Cond.instanceMethod yX10_round ∈ zU := z_t 1065 (by decide +kernel) (by decide +kernel)
theorem u1066 : Cond.selects RX10 yX10_round yX10_round ∈ zU := z_t 1066 (by decide +kernel) (by decide +kernel)
theorem u1067 : Cond.code yX10_round cX10_round 3 (some .int) ∈ zU := z_t 1067 (by decide +kernel) (by decide +kernel)
theorem u1068 : Cond.methodLink RX10 199 yX10_mostBy ∈ zU := z_t 1068 (by decide +kernel) (by decide +kernel)
theorem u1070 : Cond.instanceMethod yX10_mostBy ∈ zU := z_t 1070 (by decide +kernel) (by decide +kernel)
theorem u1071 : Cond.code yX10_mostBy cX10_mostBy 10 (some .int) ∈ zU := z_t 1071 (by decide +kernel) (by decide +kernel)
theorem u1072 : Cond.methodLink RX10 196 yX10_pursesBehind ∈ zU := z_t 1072 (by decide +kernel) (by decide +kernel)
theorem u1074 : Cond.instanceMethod yX10_pursesBehind ∈ zU := z_t 1074 (by decide +kernel) (by decide +kernel)
theorem u1075 : Cond.code yX10_pursesBehind cX10_pursesBehind 2 (some .int) ∈ zU := z_t 1075 (by decide +kernel) (by decide +kernel)
theorem u1076 : Cond.methodLink RL 111 yX10_kind ∈ zU := z_t 1076 (by decide +kernel) (by decide +kernel)
theorem u1077 : Cond.instanceMethod yX10_kind ∈ zU := z_t 1077 (by decide +kernel) (by decide +kernel)
theorem u1078 : Cond.selects RX10 yX10_kind yX10_kind ∈ zU := z_t 1078 (by decide +kernel) (by decide +kernel)
theorem u1079 : Cond.code yX10_kind cX10_kind 3 (some .int) ∈ zU := z_t 1079 (by decide +kernel) (by decide +kernel)
theorem u1080 : Cond.methodLink RL 115 yX10_enough ∈ zU := z_t 1080 (by decide +kernel) (by decide +kernel)
theorem u1081 : Cond.instanceMethod yX10_enough ∈ zU := z_t 1081 (by decide +kernel) (by decide +kernel)
theorem u1082 : Cond.selects RX10 yX10_enough yX10_enough ∈ zU := z_t 1082 (by decide +kernel) (by decide +kernel)
theorem u1083 : Cond.code yX10_enough cX10_enough 8 (some .int) ∈ zU := z_t 1083 (by decide +kernel) (by decide +kernel)
theorem u1084 : Cond.methodLink RL 120 yX10_please ∈ zU := z_t 1084 (by decide +kernel) (by decide +kernel)
theorem u1085 : Cond.instanceMethod yX10_please ∈ zU := z_t 1085 (by decide +kernel) (by decide +kernel)
theorem u1086 : Cond.selects RX10 yX10_please yX10_please ∈ zU := z_t 1086 (by decide +kernel) (by decide +kernel)
theorem u1087 : Cond.code yX10_please cX10_please 9 (some .int) ∈ zU := z_t 1087 (by decide +kernel) (by decide +kernel)
theorem u1088 : Cond.methodLink RL 124 yX10_richest ∈ zU := z_t 1088 (by decide +kernel) (by decide +kernel)
theorem u1089 : Cond.instanceMethod yX10_richest ∈ zU := z_t 1089 (by decide +kernel) (by decide +kernel)
theorem u1090 : Cond.selects RX10 yX10_richest yX10_richest ∈ zU := z_t 1090 (by decide +kernel) (by decide +kernel)
theorem u1091 : Cond.code yX10_richest cX10_richest 4 (some .int) ∈ zU := z_t 1091 (by decide +kernel) (by decide +kernel)
theorem u1092 : Cond.methodLink RL 128 yX10_feed ∈ zU := z_t 1092 (by decide +kernel) (by decide +kernel)
theorem u1093 : Cond.instanceMethod yX10_feed ∈ zU := z_t 1093 (by decide +kernel) (by decide +kernel)
theorem u1094 : Cond.selects RX10 yX10_feed yX10_feed ∈ zU := z_t 1094 (by decide +kernel) (by decide +kernel)
theorem u1095 : Cond.code yX10_feed cX10_feed 4 (some .int) ∈ zU := z_t 1095 (by decide +kernel) (by decide +kernel)
theorem u1096 : Cond.constantLong RX10 203 (4) ∈ zU := z_t 1096 (by decide +kernel) (by decide +kernel)
theorem u1097 : Cond.methodLink RL 133 yX10_wipe ∈ zU := z_t 1097 (by decide +kernel) (by decide +kernel)
theorem u1098 : Cond.instanceMethod yX10_wipe ∈ zU := z_t 1098 (by decide +kernel) (by decide +kernel)
theorem u1099 : Cond.selects RX10 yX10_wipe yX10_wipe ∈ zU := z_t 1099 (by decide +kernel) (by decide +kernel)
theorem u1100 : Cond.code yX10_wipe cX10_wipe 2 (some .int) ∈ zU := z_t 1100 (by decide +kernel) (by decide +kernel)
theorem u1101 : Cond.methodLink RL 137 yX10_shop ∈ zU := z_t 1101 (by decide +kernel) (by decide +kernel)
theorem u1102 : Cond.instanceMethod yX10_shop ∈ zU := z_t 1102 (by decide +kernel) (by decide +kernel)
theorem u1103 : Cond.selects RX10 yX10_shop yX10_shop ∈ zU := z_t 1103 (by decide +kernel) (by decide +kernel)
theorem u1104 : Cond.code yX10_shop cX10_shop 2 (some .int) ∈ zU := z_t 1104 (by decide +kernel) (by decide +kernel)
theorem u1105 : Cond.methodLink RX10 307 yX10_saves ∈ zU := z_t 1105 (by decide +kernel) (by decide +kernel)
theorem u1107 : Cond.instanceMethod yX10_saves ∈ zU := z_t 1107 (by decide +kernel) (by decide +kernel)
theorem u1108 : Cond.code yX10_saves cX10_saves 2 none ∈ zU := z_t 1108 (by decide +kernel) (by decide +kernel)
theorem u1109 : Cond.methodLink RX10 236 yX10_token ∈ zU := z_t 1109 (by decide +kernel) (by decide +kernel)
theorem u1111 : Cond.instanceMethod yX10_token ∈ zU := z_t 1111 (by decide +kernel) (by decide +kernel)
theorem u1112 : Cond.code yX10_token cX10_token 3 none ∈ zU := z_t 1112 (by decide +kernel) (by decide +kernel)
theorem u1113 : Cond.methodLink RX10 223 yX10_byteAt ∈ zU := z_t 1113 (by decide +kernel) (by decide +kernel)
theorem u1115 : Cond.instanceMethod yX10_byteAt ∈ zU := z_t 1115 (by decide +kernel) (by decide +kernel)
theorem u1116 : Cond.code yX10_byteAt cX10_byteAt 2 (some .int) ∈ zU := z_t 1116 (by decide +kernel) (by decide +kernel)
theorem u1117 : Cond.methodLink RX10 226 yX10_isLetter ∈ zU := z_t 1117 (by decide +kernel) (by decide +kernel)
theorem u1118 : Cond.static yX10_isLetter ∈ zU := z_t 1118 (by decide +kernel) (by decide +kernel)
theorem u1119 : Cond.code yX10_isLetter cX10_isLetter 1 (some .boolean) ∈ zU := z_t 1119 (by decide +kernel) (by decide +kernel)
theorem u1120 : Cond.constantLong RX10 209 (97) ∈ zU := z_t 1120 (by decide +kernel) (by decide +kernel)
theorem u1121 : Cond.constantLong RX10 211 (122) ∈ zU := z_t 1121 (by decide +kernel) (by decide +kernel)
theorem u1122 : Cond.methodLink RX10 229 yX10_isDigit ∈ zU := z_t 1122 (by decide +kernel) (by decide +kernel)
theorem u1123 : Cond.static yX10_isDigit ∈ zU := z_t 1123 (by decide +kernel) (by decide +kernel)
theorem u1124 : Cond.code yX10_isDigit cX10_isDigit 1 (some .boolean) ∈ zU := z_t 1124 (by decide +kernel) (by decide +kernel)
theorem u1125 : Cond.constantLong RX10 213 (48) ∈ zU := z_t 1125 (by decide +kernel) (by decide +kernel)
theorem u1126 : Cond.constantLong RX10 215 (57) ∈ zU := z_t 1126 (by decide +kernel) (by decide +kernel)
theorem u1127 : Cond.methodLink RX10 310 yX10_item ∈ zU := z_t 1127 (by decide +kernel) (by decide +kernel)
theorem u1129 : Cond.instanceMethod yX10_item ∈ zU := z_t 1129 (by decide +kernel) (by decide +kernel)
theorem u1130 : Cond.code yX10_item cX10_item 4 none ∈ zU := z_t 1130 (by decide +kernel) (by decide +kernel)
theorem u1131 : Cond.methodLink RX10 286 yX10_kindHere ∈ zU := z_t 1131 (by decide +kernel) (by decide +kernel)
theorem u1133 : Cond.instanceMethod yX10_kindHere ∈ zU := z_t 1133 (by decide +kernel) (by decide +kernel)
theorem u1134 : Cond.code yX10_kindHere cX10_kindHere 3 (some .int) ∈ zU := z_t 1134 (by decide +kernel) (by decide +kernel)
theorem u1135 : Cond.methodLink RX10 250 yX10_word ∈ zU := z_t 1135 (by decide +kernel) (by decide +kernel)
theorem u1137 : Cond.instanceMethod yX10_word ∈ zU := z_t 1137 (by decide +kernel) (by decide +kernel)
theorem u1138 : Cond.code yX10_word cX10_word 4 (some .long) ∈ zU := z_t 1138 (by decide +kernel) (by decide +kernel)
theorem u1139 : Cond.constantLong RX10 239 (36028797018963967) ∈ zU := z_t 1139 (by decide +kernel) (by decide +kernel)
theorem u1140 : Cond.constantLong RX10 241 (32) ∈ zU := z_t 1140 (by decide +kernel) (by decide +kernel)
theorem u1141 : Cond.constantLong RX10 254 (2262596) ∈ zU := z_t 1141 (by decide +kernel) (by decide +kernel)
theorem u1142 : Cond.constantLong RX10 256 (244784306) ∈ zU := z_t 1142 (by decide +kernel) (by decide +kernel)
theorem u1143 : Cond.constantLong RX10 258 (24389253) ∈ zU := z_t 1143 (by decide +kernel) (by decide +kernel)
theorem u1144 : Cond.constantLong RX10 260 (14832254356741) ∈ zU := z_t 1144 (by decide +kernel) (by decide +kernel)
theorem u1145 : Cond.constantLong RX10 262 (323739001900) ∈ zU := z_t 1145 (by decide +kernel) (by decide +kernel)
theorem u1146 : Cond.constantLong RX10 264 (17648634087528) ∈ zU := z_t 1146 (by decide +kernel) (by decide +kernel)
theorem u1147 : Cond.methodLink RX10 289 yX10_beardItem ∈ zU := z_t 1147 (by decide +kernel) (by decide +kernel)
theorem u1149 : Cond.instanceMethod yX10_beardItem ∈ zU := z_t 1149 (by decide +kernel) (by decide +kernel)
theorem u1150 : Cond.code yX10_beardItem cX10_beardItem 3 none ∈ zU := z_t 1150 (by decide +kernel) (by decide +kernel)
theorem u1151 : Cond.methodLink RX10 246 yX10_must ∈ zU := z_t 1151 (by decide +kernel) (by decide +kernel)
theorem u1153 : Cond.instanceMethod yX10_must ∈ zU := z_t 1153 (by decide +kernel) (by decide +kernel)
theorem u1154 : Cond.code yX10_must cX10_must 2 none ∈ zU := z_t 1154 (by decide +kernel) (by decide +kernel)
theorem u1155 : Cond.constantLong RX10 269 (198053) ∈ zU := z_t 1155 (by decide +kernel) (by decide +kernel)
theorem u1156 : Cond.methodLink RX10 271 yX10_partItem ∈ zU := z_t 1156 (by decide +kernel) (by decide +kernel)
theorem u1158 : Cond.instanceMethod yX10_partItem ∈ zU := z_t 1158 (by decide +kernel) (by decide +kernel)
theorem u1159 : Cond.code yX10_partItem cX10_partItem 5 none ∈ zU := z_t 1159 (by decide +kernel) (by decide +kernel)
theorem u1160 : Cond.methodLink RX10 266 yX10_number ∈ zU := z_t 1160 (by decide +kernel) (by decide +kernel)
theorem u1162 : Cond.instanceMethod yX10_number ∈ zU := z_t 1162 (by decide +kernel) (by decide +kernel)
theorem u1163 : Cond.code yX10_number cX10_number 6 none ∈ zU := z_t 1163 (by decide +kernel) (by decide +kernel)
theorem u1164 : Cond.constantLong RX10 275 (8881732) ∈ zU := z_t 1164 (by decide +kernel) (by decide +kernel)
theorem u1165 : Cond.constantLong RX10 292 (777046194) ∈ zU := z_t 1165 (by decide +kernel) (by decide +kernel)
theorem u1166 : Cond.methodLink RX10 294 yX10_wearerItem ∈ zU := z_t 1166 (by decide +kernel) (by decide +kernel)
theorem u1168 : Cond.instanceMethod yX10_wearerItem ∈ zU := z_t 1168 (by decide +kernel) (by decide +kernel)
theorem u1169 : Cond.code yX10_wearerItem cX10_wearerItem 2 none ∈ zU := z_t 1169 (by decide +kernel) (by decide +kernel)
theorem u1170 : Cond.constantLong RX10 277 (19387844) ∈ zU := z_t 1170 (by decide +kernel) (by decide +kernel)
theorem u1171 : Cond.constantLong RX10 297 (8902245) ∈ zU := z_t 1171 (by decide +kernel) (by decide +kernel)
theorem u1172 : Cond.methodLink RX10 299 yX10_houseItem ∈ zU := z_t 1172 (by decide +kernel) (by decide +kernel)
theorem u1174 : Cond.instanceMethod yX10_houseItem ∈ zU := z_t 1174 (by decide +kernel) (by decide +kernel)
theorem u1175 : Cond.code yX10_houseItem cX10_houseItem 3 none ∈ zU := z_t 1175 (by decide +kernel) (by decide +kernel)
theorem u1176 : Cond.constantLong RX10 279 (212420) ∈ zU := z_t 1176 (by decide +kernel) (by decide +kernel)
theorem u1177 : Cond.constantLong RX10 281 (3751539) ∈ zU := z_t 1177 (by decide +kernel) (by decide +kernel)
theorem u1178 : Cond.constantLong RX10 302 (271941) ∈ zU := z_t 1178 (by decide +kernel) (by decide +kernel)
theorem u1179 : Cond.methodLink RX10 304 yX10_hireItem ∈ zU := z_t 1179 (by decide +kernel) (by decide +kernel)
theorem u1181 : Cond.instanceMethod yX10_hireItem ∈ zU := z_t 1181 (by decide +kernel) (by decide +kernel)
theorem u1182 : Cond.code yX10_hireItem cX10_hireItem 3 none ∈ zU := z_t 1182 (by decide +kernel) (by decide +kernel)
theorem u1183 : Cond.methodLink RX10 283 yX10_numberHere ∈ zU := z_t 1183 (by decide +kernel) (by decide +kernel)
theorem u1185 : Cond.instanceMethod yX10_numberHere ∈ zU := z_t 1185 (by decide +kernel) (by decide +kernel)
theorem u1186 : Cond.code yX10_numberHere cX10_numberHere 3 (some .int) ∈ zU := z_t 1186 (by decide +kernel) (by decide +kernel)
theorem u1187 : Cond.methodLink RX10 313 yX10_putsBack ∈ zU := z_t 1187 (by decide +kernel) (by decide +kernel)
theorem u1189 : Cond.instanceMethod yX10_putsBack ∈ zU := z_t 1189 (by decide +kernel) (by decide +kernel)
theorem u1190 : Cond.code yX10_putsBack cX10_putsBack 2 none ∈ zU := z_t 1190 (by decide +kernel) (by decide +kernel)
theorem u1191 : Cond.methodLink RL 141 yX10_sheet ∈ zU := z_t 1191 (by decide +kernel) (by decide +kernel)
theorem u1192 : Cond.instanceMethod yX10_sheet ∈ zU := z_t 1192 (by decide +kernel) (by decide +kernel)
theorem u1193 : Cond.selects RX10 yX10_sheet yX10_sheet ∈ zU := z_t 1193 (by decide +kernel) (by decide +kernel)
theorem u1194 : Cond.code yX10_sheet cX10_sheet 5 (some .int) ∈ zU := z_t 1194 (by decide +kernel) (by decide +kernel)
theorem u1195 : Cond.methodLink RX10 316 yX10_isOne ∈ zU := z_t 1195 (by decide +kernel) (by decide +kernel)
theorem u1196 : Cond.static yX10_isOne ∈ zU := z_t 1196 (by decide +kernel) (by decide +kernel)
theorem u1197 : Cond.code yX10_isOne cX10_isOne 1 (some .boolean) ∈ zU := z_t 1197 (by decide +kernel) (by decide +kernel)
theorem u1198 : Cond.constant RX10 319 (-1000000007) ∈ zU := z_t 1198 (by decide +kernel) (by decide +kernel)
theorem u1199 : Cond.methodLink RL 148 yX10_write ∈ zU := z_t 1199 (by decide +kernel) (by decide +kernel)
theorem u1200 : Cond.instanceMethod yX10_write ∈ zU := z_t 1200 (by decide +kernel) (by decide +kernel)
theorem u1201 : Cond.selects RX10 yX10_write yX10_write ∈ zU := z_t 1201 (by decide +kernel) (by decide +kernel)
theorem u1202 : Cond.code yX10_write cX10_write 8 (some .long) ∈ zU := z_t 1202 (by decide +kernel) (by decide +kernel)
theorem u1203 : Cond.methodLink RX10 321 yX10_wrongSheet ∈ zU := z_t 1203 (by decide +kernel) (by decide +kernel)
theorem u1205 : Cond.instanceMethod yX10_wrongSheet ∈ zU := z_t 1205 (by decide +kernel) (by decide +kernel)
theorem u1206 : Cond.code yX10_wrongSheet cX10_wrongSheet 2 (some .int) ∈ zU := z_t 1206 (by decide +kernel) (by decide +kernel)
theorem u1207 : Cond.constant RX10 320 (-1000000006) ∈ zU := z_t 1207 (by decide +kernel) (by decide +kernel)
theorem u1208 : Cond.methodLink RX10 324 yX10_narrowed ∈ zU := z_t 1208 (by decide +kernel) (by decide +kernel)
theorem u1209 : Cond.static yX10_narrowed ∈ zU := z_t 1209 (by decide +kernel) (by decide +kernel)
theorem u1210 : Cond.code yX10_narrowed cX10_narrowed 3 (some .long) ∈ zU := z_t 1210 (by decide +kernel) (by decide +kernel)
theorem u1211 : Cond.methodLink RL 153 yX10_copy ∈ zU := z_t 1211 (by decide +kernel) (by decide +kernel)
theorem u1212 : Cond.instanceMethod yX10_copy ∈ zU := z_t 1212 (by decide +kernel) (by decide +kernel)
theorem u1213 : Cond.selects RX10 yX10_copy yX10_copy ∈ zU := z_t 1213 (by decide +kernel) (by decide +kernel)
theorem u1214 : Cond.code yX10_copy cX10_copy 7 (some .int) ∈ zU := z_t 1214 (by decide +kernel) (by decide +kernel)
theorem u1215 : Cond.methodLink RL 157 yX10_lays ∈ zU := z_t 1215 (by decide +kernel) (by decide +kernel)
theorem u1216 : Cond.instanceMethod yX10_lays ∈ zU := z_t 1216 (by decide +kernel) (by decide +kernel)
theorem u1217 : Cond.selects RX10 yX10_lays yX10_lays ∈ zU := z_t 1217 (by decide +kernel) (by decide +kernel)
theorem u1218 : Cond.code yX10_lays cX10_lays 6 (some .int) ∈ zU := z_t 1218 (by decide +kernel) (by decide +kernel)
theorem u1219 : Cond.methodLink RL 161 yX10_book ∈ zU := z_t 1219 (by decide +kernel) (by decide +kernel)
theorem u1220 : Cond.instanceMethod yX10_book ∈ zU := z_t 1220 (by decide +kernel) (by decide +kernel)
theorem u1221 : Cond.selects RX10 yX10_book yX10_book ∈ zU := z_t 1221 (by decide +kernel) (by decide +kernel)
theorem u1222 : Cond.code yX10_book cX10_book 5 (some .int) ∈ zU := z_t 1222 (by decide +kernel) (by decide +kernel)
theorem u1223 : Cond.methodLink RL 165 yX10_read ∈ zU := z_t 1223 (by decide +kernel) (by decide +kernel)
theorem u1224 : Cond.instanceMethod yX10_read ∈ zU := z_t 1224 (by decide +kernel) (by decide +kernel)
theorem u1225 : Cond.selects RX10 yX10_read yX10_read ∈ zU := z_t 1225 (by decide +kernel) (by decide +kernel)
theorem u1226 : Cond.code yX10_read cX10_read 7 (some .int) ∈ zU := z_t 1226 (by decide +kernel) (by decide +kernel)
theorem u1227 : Cond.methodLink RX10 328 yX10_isBook ∈ zU := z_t 1227 (by decide +kernel) (by decide +kernel)
theorem u1229 : Cond.instanceMethod yX10_isBook ∈ zU := z_t 1229 (by decide +kernel) (by decide +kernel)
theorem u1230 : Cond.code yX10_isBook cX10_isBook 4 (some .boolean) ∈ zU := z_t 1230 (by decide +kernel) (by decide +kernel)
theorem u1231 : Cond.methodLink RL 169 yX10_image ∈ zU := z_t 1231 (by decide +kernel) (by decide +kernel)
theorem u1232 : Cond.instanceMethod yX10_image ∈ zU := z_t 1232 (by decide +kernel) (by decide +kernel)
theorem u1233 : Cond.selects RX10 yX10_image yX10_image ∈ zU := z_t 1233 (by decide +kernel) (by decide +kernel)
theorem u1234 : Cond.code yX10_image cX10_image 2 (some .int) ∈ zU := z_t 1234 (by decide +kernel) (by decide +kernel)
theorem u1235 : Cond.methodLink RL 173 yX10_undo ∈ zU := z_t 1235 (by decide +kernel) (by decide +kernel)
theorem u1236 : Cond.instanceMethod yX10_undo ∈ zU := z_t 1236 (by decide +kernel) (by decide +kernel)
theorem u1237 : Cond.selects RX10 yX10_undo yX10_undo ∈ zU := z_t 1237 (by decide +kernel) (by decide +kernel)
theorem u1238 : Cond.code yX10_undo cX10_undo 2 (some .int) ∈ zU := z_t 1238 (by decide +kernel) (by decide +kernel)
theorem u1239 : Cond.methodLink RL 177 yX10_tear ∈ zU := z_t 1239 (by decide +kernel) (by decide +kernel)
theorem u1240 : Cond.instanceMethod yX10_tear ∈ zU := z_t 1240 (by decide +kernel) (by decide +kernel)
theorem u1241 : Cond.selects RX10 yX10_tear yX10_tear ∈ zU := z_t 1241 (by decide +kernel) (by decide +kernel)
theorem u1242 : Cond.code yX10_tear cX10_tear 2 (some .int) ∈ zU := z_t 1242 (by decide +kernel) (by decide +kernel)
theorem u1243 : Cond.methodLink RL 181 yX10_count ∈ zU := z_t 1243 (by decide +kernel) (by decide +kernel)
theorem u1244 : Cond.instanceMethod yX10_count ∈ zU := z_t 1244 (by decide +kernel) (by decide +kernel)
theorem u1245 : Cond.selects RX10 yX10_count yX10_count ∈ zU := z_t 1245 (by decide +kernel) (by decide +kernel)
theorem u1246 : Cond.code yX10_count cX10_count 2 (some .int) ∈ zU := z_t 1246 (by decide +kernel) (by decide +kernel)
theorem u1247 : Cond.methodLink RX10 334 yX10_hoards ∈ zU := z_t 1247 (by decide +kernel) (by decide +kernel)
theorem u1249 : Cond.instanceMethod yX10_hoards ∈ zU := z_t 1249 (by decide +kernel) (by decide +kernel)
theorem u1250 : Cond.code yX10_hoards cX10_hoards 3 (some .int) ∈ zU := z_t 1250 (by decide +kernel) (by decide +kernel)
theorem u1251 : Cond.methodLink RL 185 yX10_status ∈ zU := z_t 1251 (by decide +kernel) (by decide +kernel)
theorem u1252 : Cond.instanceMethod yX10_status ∈ zU := z_t 1252 (by decide +kernel) (by decide +kernel)
theorem u1253 : Cond.selects RX10 yX10_status yX10_status ∈ zU := z_t 1253 (by decide +kernel) (by decide +kernel)
theorem u1254 : Cond.code yX10_status cX10_status 4 (some .int) ∈ zU := z_t 1254 (by decide +kernel) (by decide +kernel)
theorem u1255 : Cond.constantLong RX10 337 (-1) ∈ zU := z_t 1255 (by decide +kernel) (by decide +kernel)
theorem u1256 : Cond.constantLong RX10 339 (6) ∈ zU := z_t 1256 (by decide +kernel) (by decide +kernel)
theorem u1257 : Cond.constantLong RL 142 (4294967295) ∈ zU := z_t 1257 (by decide +kernel) (by decide +kernel)
theorem u1258 : Cond.sameMethod "BeardHire$Ginger" "BeardHire$Ginger" "costs" "(II)I" ∈ zU := z_t 1258 (by decide +kernel) (by decide +kernel)
theorem u1259 : Cond.sameMethod "BeardHire$White" "BeardHire$White" "costs" "(II)I" ∈ zU := z_t 1259 (by decide +kernel) (by decide +kernel)
theorem u1260 : Cond.sameMethod "BeardHire$Ginger" "BeardHire$Ginger" "gains" "(Z)I" ∈ zU := z_t 1260 (by decide +kernel) (by decide +kernel)
theorem u1261 : Cond.sameMethod "BeardHire$Ginger" "BeardHire$Ginger" "meets" "(IZI)I" ∈ zU := z_t 1261 (by decide +kernel) (by decide +kernel)
theorem u1262 : Cond.sameMethod "BeardHire$White" "BeardHire$White" "meets" "(IZI)I" ∈ zU := z_t 1262 (by decide +kernel) (by decide +kernel)
theorem u1263 : Cond.sameMethod "BeardHire$Ginger" "BeardHire$Ginger" "leaves" "(I)I" ∈ zU := z_t 1263 (by decide +kernel) (by decide +kernel)
theorem u1269 : Cond.fieldLink RJ0 9 "java/lang/String" "value" "[B" ∈ zU := z_t 1269 (by decide +kernel) (by decide +kernel)
theorem u1270 : Cond.fieldLink RJ0 15 "java/lang/String" "coder" "B" ∈ zU := z_t 1270 (by decide +kernel) (by decide +kernel)
theorem us0 : Cond.selects RX9 yX9_finding yX9_finding ∈ zU := z_s 0 (by decide +kernel) (by decide +kernel)
theorem us1 : Cond.selects RX9 yX9_isBeard yX9_isBeard ∈ zU := z_s 1 (by decide +kernel) (by decide +kernel)
theorem us2 : Cond.selects RX9 yX9_isWearer yX9_isWearer ∈ zU := z_s 2 (by decide +kernel) (by decide +kernel)
theorem us3 : Cond.selects RX7 yX7_spendNight yX7_spendNight ∈ zU := z_s 3 (by decide +kernel) (by decide +kernel)
theorem us4 : Cond.selects RX7 yX7_combOut yX7_combOut ∈ zU := z_s 4 (by decide +kernel) (by decide +kernel)
theorem us5 : Cond.selects RX6 yX6_advance yX6_advance ∈ zU := z_s 5 (by decide +kernel) (by decide +kernel)
theorem us6 : Cond.selects RX6 yX6_tellItem yX6_tellItem ∈ zU := z_s 6 (by decide +kernel) (by decide +kernel)
theorem us7 : Cond.selects RX6 yX6_isWord yX6_isWord ∈ zU := z_s 7 (by decide +kernel) (by decide +kernel)
theorem us8 : Cond.selects RX6 yX6_tellBeard yX6_tellBeard ∈ zU := z_s 8 (by decide +kernel) (by decide +kernel)
theorem us9 : Cond.selects RX6 yX6_isNumber yX6_isNumber ∈ zU := z_s 9 (by decide +kernel) (by decide +kernel)
theorem us10 : Cond.selects RX6 yX6_takeNumber yX6_takeNumber ∈ zU := z_s 10 (by decide +kernel) (by decide +kernel)
theorem us11 : Cond.selects RX6 yX6_tellWearer yX6_tellWearer ∈ zU := z_s 11 (by decide +kernel) (by decide +kernel)
theorem us12 : Cond.selects RX6 yX6_tellHouse yX6_tellHouse ∈ zU := z_s 12 (by decide +kernel) (by decide +kernel)
theorem us13 : Cond.selects RX6 yX6_tellHire yX6_tellHire ∈ zU := z_s 13 (by decide +kernel) (by decide +kernel)
theorem us14 : Cond.selects RX9 yX9_trialFollows yX9_trialFollows ∈ zU := z_s 14 (by decide +kernel) (by decide +kernel)
theorem us15 : Cond.selects RX10 yX10_becomes yX10_becomes ∈ zU := z_s 15 (by decide +kernel) (by decide +kernel)
theorem us16 : Cond.selects RX10 yX10_finds yX10_finds ∈ zU := z_s 16 (by decide +kernel) (by decide +kernel)
theorem us17 : Cond.selects RX10 yX10_isBeard yX10_isBeard ∈ zU := z_s 17 (by decide +kernel) (by decide +kernel)
theorem us18 : Cond.selects RX10 yX10_house yX10_house ∈ zU := z_s 18 (by decide +kernel) (by decide +kernel)
theorem us19 : Cond.selects RX10 yX10_goers yX10_goers ∈ zU := z_s 19 (by decide +kernel) (by decide +kernel)
theorem us20 : Cond.selects RX10 yX10_placeOf yX10_placeOf ∈ zU := z_s 20 (by decide +kernel) (by decide +kernel)
theorem us21 : Cond.selects RX10 yX10_theirs yX10_theirs ∈ zU := z_s 21 (by decide +kernel) (by decide +kernel)
theorem us22 : Cond.selects RX10 yX10_isMonday yX10_isMonday ∈ zU := z_s 22 (by decide +kernel) (by decide +kernel)
theorem us23 : Cond.selects RX10 yX10_inShop yX10_inShop ∈ zU := z_s 23 (by decide +kernel) (by decide +kernel)
theorem us24 : Cond.selects RX10 yX10_its yX10_its ∈ zU := z_s 24 (by decide +kernel) (by decide +kernel)
theorem us25 : Cond.selects RX10 yX10_bearded yX10_bearded ∈ zU := z_s 25 (by decide +kernel) (by decide +kernel)
theorem us26 : Cond.selects RX10 yX10_purses yX10_purses ∈ zU := z_s 26 (by decide +kernel) (by decide +kernel)
theorem us27 : Cond.selects RX10 yX10_addsBeard yX10_addsBeard ∈ zU := z_s 27 (by decide +kernel) (by decide +kernel)
theorem us28 : Cond.selects RX10 yX10_costsOf yX10_costsOf ∈ zU := z_s 28 (by decide +kernel) (by decide +kernel)
theorem us29 : Cond.selects RX10 yX10_gainsOf yX10_gainsOf ∈ zU := z_s 29 (by decide +kernel) (by decide +kernel)
theorem us30 : Cond.selects RX10 yX10_meetsOf yX10_meetsOf ∈ zU := z_s 30 (by decide +kernel) (by decide +kernel)
theorem us31 : Cond.selects RX10 yX10_leavesOf yX10_leavesOf ∈ zU := z_s 31 (by decide +kernel) (by decide +kernel)
theorem us32 : Cond.selects RX10 yX10_addsWearer yX10_addsWearer ∈ zU := z_s 32 (by decide +kernel) (by decide +kernel)
theorem us33 : Cond.selects RX10 yX10_isWearer yX10_isWearer ∈ zU := z_s 33 (by decide +kernel) (by decide +kernel)
theorem us34 : Cond.selects RX10 yX10_wornBy yX10_wornBy ∈ zU := z_s 34 (by decide +kernel) (by decide +kernel)
theorem us35 : Cond.selects RX10 yX10_nightsGo yX10_nightsGo ∈ zU := z_s 35 (by decide +kernel) (by decide +kernel)
theorem us36 : Cond.selects RX10 yX10_night yX10_night ∈ zU := z_s 36 (by decide +kernel) (by decide +kernel)
theorem us37 : Cond.selects RX10 yX10_wears yX10_wears ∈ zU := z_s 37 (by decide +kernel) (by decide +kernel)
theorem us38 : Cond.selects RX10 yX10_goesOut yX10_goesOut ∈ zU := z_s 38 (by decide +kernel) (by decide +kernel)
theorem us39 : Cond.selects RX10 yX10_behind yX10_behind ∈ zU := z_s 39 (by decide +kernel) (by decide +kernel)
theorem us40 : Cond.selects RX10 yX10_laysAside yX10_laysAside ∈ zU := z_s 40 (by decide +kernel) (by decide +kernel)
theorem us41 : Cond.selects RX10 yX10_takesBack yX10_takesBack ∈ zU := z_s 41 (by decide +kernel) (by decide +kernel)
theorem us42 : Cond.selects RX10 yX10_wornBehind yX10_wornBehind ∈ zU := z_s 42 (by decide +kernel) (by decide +kernel)
theorem us43 : Cond.selects RX10 yX10_firstDown yX10_firstDown ∈ zU := z_s 43 (by decide +kernel) (by decide +kernel)
theorem us44 : Cond.selects RX10 yX10_mostBy yX10_mostBy ∈ zU := z_s 44 (by decide +kernel) (by decide +kernel)
theorem us45 : Cond.selects RX10 yX10_pursesBehind yX10_pursesBehind ∈ zU := z_s 45 (by decide +kernel) (by decide +kernel)
theorem us46 : Cond.selects RX10 yX10_saves yX10_saves ∈ zU := z_s 46 (by decide +kernel) (by decide +kernel)
theorem us47 : Cond.selects RX10 yX10_token yX10_token ∈ zU := z_s 47 (by decide +kernel) (by decide +kernel)
theorem us48 : Cond.selects RX10 yX10_byteAt yX10_byteAt ∈ zU := z_s 48 (by decide +kernel) (by decide +kernel)
theorem us49 : Cond.selects RX10 yX10_item yX10_item ∈ zU := z_s 49 (by decide +kernel) (by decide +kernel)
theorem us50 : Cond.selects RX10 yX10_kindHere yX10_kindHere ∈ zU := z_s 50 (by decide +kernel) (by decide +kernel)
theorem us51 : Cond.selects RX10 yX10_word yX10_word ∈ zU := z_s 51 (by decide +kernel) (by decide +kernel)
theorem us52 : Cond.selects RX10 yX10_beardItem yX10_beardItem ∈ zU := z_s 52 (by decide +kernel) (by decide +kernel)
theorem us53 : Cond.selects RX10 yX10_must yX10_must ∈ zU := z_s 53 (by decide +kernel) (by decide +kernel)
theorem us54 : Cond.selects RX10 yX10_partItem yX10_partItem ∈ zU := z_s 54 (by decide +kernel) (by decide +kernel)
theorem us55 : Cond.selects RX10 yX10_number yX10_number ∈ zU := z_s 55 (by decide +kernel) (by decide +kernel)
theorem us56 : Cond.selects RX10 yX10_wearerItem yX10_wearerItem ∈ zU := z_s 56 (by decide +kernel) (by decide +kernel)
theorem us57 : Cond.selects RX10 yX10_houseItem yX10_houseItem ∈ zU := z_s 57 (by decide +kernel) (by decide +kernel)
theorem us58 : Cond.selects RX10 yX10_hireItem yX10_hireItem ∈ zU := z_s 58 (by decide +kernel) (by decide +kernel)
theorem us59 : Cond.selects RX10 yX10_numberHere yX10_numberHere ∈ zU := z_s 59 (by decide +kernel) (by decide +kernel)
theorem us60 : Cond.selects RX10 yX10_putsBack yX10_putsBack ∈ zU := z_s 60 (by decide +kernel) (by decide +kernel)
theorem us61 : Cond.selects RX10 yX10_wrongSheet yX10_wrongSheet ∈ zU := z_s 61 (by decide +kernel) (by decide +kernel)
theorem us62 : Cond.selects RX10 yX10_isBook yX10_isBook ∈ zU := z_s 62 (by decide +kernel) (by decide +kernel)
theorem us63 : Cond.selects RX10 yX10_hoards yX10_hoards ∈ zU := z_s 63 (by decide +kernel) (by decide +kernel)
theorem inU0 : ∀ w ∈ u_ws RX0 TX0 0, w ∈ zU := fun w h => absurd h List.not_mem_nil
theorem inU1 : ∀ w ∈ u_ws RX1 TX1 0, w ∈ zU := fun w h => absurd h List.not_mem_nil
theorem inU2 : ∀ w ∈ u_ws RX2 TX2 0, w ∈ zU := fun w h => absurd h List.not_mem_nil
theorem inU3 : ∀ w ∈ u_ws RX3 TX3 0, w ∈ zU := fun w h => absurd h List.not_mem_nil
theorem inU4 : ∀ w ∈ u_ws RX4 TX4 0, w ∈ zU := fun w h => absurd h List.not_mem_nil
theorem inU5 : ∀ w ∈ u_ws RX5 TX5 3, w ∈ zU := List.forall_mem_cons.mpr ⟨u182, List.forall_mem_cons.mpr ⟨u184, List.forall_mem_cons.mpr ⟨u186, fun _ h => absurd h List.not_mem_nil⟩⟩⟩
theorem inU6 : ∀ w ∈ u_ws RX6 TX6 8, w ∈ zU := List.forall_mem_cons.mpr ⟨u152, List.forall_mem_cons.mpr ⟨u154, List.forall_mem_cons.mpr ⟨u156, List.forall_mem_cons.mpr ⟨u158, List.forall_mem_cons.mpr ⟨u160, List.forall_mem_cons.mpr ⟨u162, List.forall_mem_cons.mpr ⟨u164, List.forall_mem_cons.mpr ⟨u166, fun _ h => absurd h List.not_mem_nil⟩⟩⟩⟩⟩⟩⟩⟩
theorem inU7 : ∀ w ∈ u_ws RX7 TX7 13, w ∈ zU := List.forall_mem_cons.mpr ⟨u109, List.forall_mem_cons.mpr ⟨u111, List.forall_mem_cons.mpr ⟨u113, List.forall_mem_cons.mpr ⟨u115, List.forall_mem_cons.mpr ⟨u117, List.forall_mem_cons.mpr ⟨u119, List.forall_mem_cons.mpr ⟨u121, List.forall_mem_cons.mpr ⟨u123, List.forall_mem_cons.mpr ⟨u125, List.forall_mem_cons.mpr ⟨u127, List.forall_mem_cons.mpr ⟨u129, List.forall_mem_cons.mpr ⟨u131, List.forall_mem_cons.mpr ⟨u133, fun _ h => absurd h List.not_mem_nil⟩⟩⟩⟩⟩⟩⟩⟩⟩⟩⟩⟩⟩
theorem inU8 : ∀ w ∈ u_ws RX8 TX8 0, w ∈ zU := fun w h => absurd h List.not_mem_nil
theorem inU9 : ∀ w ∈ u_ws RX9 TX9 7, w ∈ zU := List.forall_mem_cons.mpr ⟨u197, List.forall_mem_cons.mpr ⟨u199, List.forall_mem_cons.mpr ⟨u201, List.forall_mem_cons.mpr ⟨u203, List.forall_mem_cons.mpr ⟨u205, List.forall_mem_cons.mpr ⟨u207, List.forall_mem_cons.mpr ⟨u209, fun _ h => absurd h List.not_mem_nil⟩⟩⟩⟩⟩⟩⟩
theorem inU10 : ∀ w ∈ u_ws RX10 TX10 16, w ∈ zU := List.forall_mem_cons.mpr ⟨u783, List.forall_mem_cons.mpr ⟨u785, List.forall_mem_cons.mpr ⟨u787, List.forall_mem_cons.mpr ⟨u789, List.forall_mem_cons.mpr ⟨u791, List.forall_mem_cons.mpr ⟨u793, List.forall_mem_cons.mpr ⟨u795, List.forall_mem_cons.mpr ⟨u797, List.forall_mem_cons.mpr ⟨u799, List.forall_mem_cons.mpr ⟨u801, List.forall_mem_cons.mpr ⟨u803, List.forall_mem_cons.mpr ⟨u805, List.forall_mem_cons.mpr ⟨u807, List.forall_mem_cons.mpr ⟨u809, List.forall_mem_cons.mpr ⟨u811, List.forall_mem_cons.mpr ⟨u813, fun _ h => absurd h List.not_mem_nil⟩⟩⟩⟩⟩⟩⟩⟩⟩⟩⟩⟩⟩⟩⟩⟩
end
section
theorem dX0_init_0 : decode cX0_init 0 = .ok (.aload_n 0, 1) := by decide +kernel
theorem dX0_init_1 : decode cX0_init 1 = .ok (.invokespecial 1, 3) := by decide +kernel
theorem dX0_init_4 : decode cX0_init 4 = .ok (.return_, 1) := by decide +kernel
theorem dX0_title_0 : decode cX0_title 0 = .ok (.ldc 7, 2) := by decide +kernel
theorem dX0_title_2 : decode cX0_title 2 = .ok (.areturn, 1) := by decide +kernel
theorem dX0_costs_0 : decode cX0_costs 0 = .ok (.aload_n 0, 1) := by decide +kernel
theorem dX0_costs_1 : decode cX0_costs 1 = .ok (.iload_n 1, 1) := by decide +kernel
theorem dX0_costs_2 : decode cX0_costs 2 = .ok (.iload_n 2, 1) := by decide +kernel
theorem dX0_costs_3 : decode cX0_costs 3 = .ok (.invokespecial 9, 3) := by decide +kernel
theorem dX0_costs_6 : decode cX0_costs 6 = .ok (.iload_n 1, 1) := by decide +kernel
theorem dX0_costs_7 : decode cX0_costs 7 = .ok (.bipush 10, 2) := by decide +kernel
theorem dX0_costs_9 : decode cX0_costs 9 = .ok (.idiv, 1) := by decide +kernel
theorem dX0_costs_10 : decode cX0_costs 10 = .ok (.iadd, 1) := by decide +kernel
theorem dX0_costs_11 : decode cX0_costs 11 = .ok (.ireturn, 1) := by decide +kernel
theorem dX0_meets_0 : decode cX0_meets 0 = .ok (.aload_n 0, 1) := by decide +kernel
theorem dX0_meets_1 : decode cX0_meets 1 = .ok (.iload_n 1, 1) := by decide +kernel
theorem dX0_meets_2 : decode cX0_meets 2 = .ok (.iload_n 2, 1) := by decide +kernel
theorem dX0_meets_3 : decode cX0_meets 3 = .ok (.iload_n 3, 1) := by decide +kernel
theorem dX0_meets_4 : decode cX0_meets 4 = .ok (.invokespecial 13, 3) := by decide +kernel
theorem dX0_meets_7 : decode cX0_meets 7 = .ok (.istore 4, 2) := by decide +kernel
theorem dX0_meets_9 : decode cX0_meets 9 = .ok (.iload_n 3, 1) := by decide +kernel
theorem dX0_meets_10 : decode cX0_meets 10 = .ok (.bipush 50, 2) := by decide +kernel
theorem dX0_meets_12 : decode cX0_meets 12 = .ok (.if_icmp .le 10, 3) := by decide +kernel
theorem dX0_meets_15 : decode cX0_meets 15 = .ok (.iload 4, 2) := by decide +kernel
theorem dX0_meets_17 : decode cX0_meets 17 = .ok (.iconst 4, 1) := by decide +kernel
theorem dX0_meets_18 : decode cX0_meets 18 = .ok (.isub, 1) := by decide +kernel
theorem dX0_meets_19 : decode cX0_meets 19 = .ok (.goto 5, 3) := by decide +kernel
theorem dX0_meets_22 : decode cX0_meets 22 = .ok (.iload 4, 2) := by decide +kernel
theorem dX0_meets_24 : decode cX0_meets 24 = .ok (.ireturn, 1) := by decide +kernel
theorem dX0_leaves_0 : decode cX0_leaves 0 = .ok (.iload_n 1, 1) := by decide +kernel
theorem dX0_leaves_1 : decode cX0_leaves 1 = .ok (.bipush 50, 2) := by decide +kernel
theorem dX0_leaves_3 : decode cX0_leaves 3 = .ok (.if_icmp .le 8, 3) := by decide +kernel
theorem dX0_leaves_6 : decode cX0_leaves 6 = .ok (.bipush (-5), 2) := by decide +kernel
theorem dX0_leaves_8 : decode cX0_leaves 8 = .ok (.goto 8, 3) := by decide +kernel
theorem dX0_leaves_11 : decode cX0_leaves 11 = .ok (.aload_n 0, 1) := by decide +kernel
theorem dX0_leaves_12 : decode cX0_leaves 12 = .ok (.iload_n 1, 1) := by decide +kernel
theorem dX0_leaves_13 : decode cX0_leaves 13 = .ok (.invokespecial 17, 3) := by decide +kernel
theorem dX0_leaves_16 : decode cX0_leaves 16 = .ok (.ireturn, 1) := by decide +kernel
theorem dX0_gains_0 : decode cX0_gains 0 = .ok (.aload_n 0, 1) := by decide +kernel
theorem dX0_gains_1 : decode cX0_gains 1 = .ok (.iload_n 1, 1) := by decide +kernel
theorem dX0_gains_2 : decode cX0_gains 2 = .ok (.invokespecial 21, 3) := by decide +kernel
theorem dX0_gains_5 : decode cX0_gains 5 = .ok (.iconst 2, 1) := by decide +kernel
theorem dX0_gains_6 : decode cX0_gains 6 = .ok (.iadd, 1) := by decide +kernel
theorem dX0_gains_7 : decode cX0_gains 7 = .ok (.ireturn, 1) := by decide +kernel
theorem dX1_init_0 : decode cX1_init 0 = .ok (.aload_n 0, 1) := by decide +kernel
theorem dX1_init_1 : decode cX1_init 1 = .ok (.invokespecial 1, 3) := by decide +kernel
theorem dX1_init_4 : decode cX1_init 4 = .ok (.return_, 1) := by decide +kernel
theorem dX1_title_0 : decode cX1_title 0 = .ok (.ldc 7, 2) := by decide +kernel
theorem dX1_title_2 : decode cX1_title 2 = .ok (.areturn, 1) := by decide +kernel
theorem dX1_costs_0 : decode cX1_costs 0 = .ok (.iconst 2, 1) := by decide +kernel
theorem dX1_costs_1 : decode cX1_costs 1 = .ok (.aload_n 0, 1) := by decide +kernel
theorem dX1_costs_2 : decode cX1_costs 2 = .ok (.iload_n 1, 1) := by decide +kernel
theorem dX1_costs_3 : decode cX1_costs 3 = .ok (.iload_n 2, 1) := by decide +kernel
theorem dX1_costs_4 : decode cX1_costs 4 = .ok (.invokespecial 9, 3) := by decide +kernel
theorem dX1_costs_7 : decode cX1_costs 7 = .ok (.imul, 1) := by decide +kernel
theorem dX1_costs_8 : decode cX1_costs 8 = .ok (.ireturn, 1) := by decide +kernel
theorem dX1_meets_0 : decode cX1_meets 0 = .ok (.aload_n 0, 1) := by decide +kernel
theorem dX1_meets_1 : decode cX1_meets 1 = .ok (.iload_n 1, 1) := by decide +kernel
theorem dX1_meets_2 : decode cX1_meets 2 = .ok (.iload_n 2, 1) := by decide +kernel
theorem dX1_meets_3 : decode cX1_meets 3 = .ok (.iload_n 3, 1) := by decide +kernel
theorem dX1_meets_4 : decode cX1_meets 4 = .ok (.invokespecial 13, 3) := by decide +kernel
theorem dX1_meets_7 : decode cX1_meets 7 = .ok (.istore 4, 2) := by decide +kernel
theorem dX1_meets_9 : decode cX1_meets 9 = .ok (.iload_n 1, 1) := by decide +kernel
theorem dX1_meets_10 : decode cX1_meets 10 = .ok (.bipush 20, 2) := by decide +kernel
theorem dX1_meets_12 : decode cX1_meets 12 = .ok (.if_icmp .le 11, 3) := by decide +kernel
theorem dX1_meets_15 : decode cX1_meets 15 = .ok (.iload 4, 2) := by decide +kernel
theorem dX1_meets_17 : decode cX1_meets 17 = .ok (.bipush 10, 2) := by decide +kernel
theorem dX1_meets_19 : decode cX1_meets 19 = .ok (.iadd, 1) := by decide +kernel
theorem dX1_meets_20 : decode cX1_meets 20 = .ok (.goto 5, 3) := by decide +kernel
theorem dX1_meets_23 : decode cX1_meets 23 = .ok (.iload 4, 2) := by decide +kernel
theorem dX1_meets_25 : decode cX1_meets 25 = .ok (.ireturn, 1) := by decide +kernel
theorem dX1_leaves_0 : decode cX1_leaves 0 = .ok (.aload_n 0, 1) := by decide +kernel
theorem dX1_leaves_1 : decode cX1_leaves 1 = .ok (.iload_n 1, 1) := by decide +kernel
theorem dX1_leaves_2 : decode cX1_leaves 2 = .ok (.invokespecial 17, 3) := by decide +kernel
theorem dX1_leaves_5 : decode cX1_leaves 5 = .ok (.iconst 1, 1) := by decide +kernel
theorem dX1_leaves_6 : decode cX1_leaves 6 = .ok (.iadd, 1) := by decide +kernel
theorem dX1_leaves_7 : decode cX1_leaves 7 = .ok (.ireturn, 1) := by decide +kernel
theorem dX1_gains_0 : decode cX1_gains 0 = .ok (.iload_n 1, 1) := by decide +kernel
theorem dX1_gains_1 : decode cX1_gains 1 = .ok (.ifCond .eq 7, 3) := by decide +kernel
theorem dX1_gains_4 : decode cX1_gains 4 = .ok (.iconst 0, 1) := by decide +kernel
theorem dX1_gains_5 : decode cX1_gains 5 = .ok (.goto 8, 3) := by decide +kernel
theorem dX1_gains_8 : decode cX1_gains 8 = .ok (.aload_n 0, 1) := by decide +kernel
theorem dX1_gains_9 : decode cX1_gains 9 = .ok (.iload_n 1, 1) := by decide +kernel
theorem dX1_gains_10 : decode cX1_gains 10 = .ok (.invokespecial 21, 3) := by decide +kernel
theorem dX1_gains_13 : decode cX1_gains 13 = .ok (.ireturn, 1) := by decide +kernel
theorem dX2_init_0 : decode cX2_init 0 = .ok (.aload_n 0, 1) := by decide +kernel
theorem dX2_init_1 : decode cX2_init 1 = .ok (.invokespecial 1, 3) := by decide +kernel
theorem dX2_init_4 : decode cX2_init 4 = .ok (.return_, 1) := by decide +kernel
theorem dX2_title_0 : decode cX2_title 0 = .ok (.ldc 7, 2) := by decide +kernel
theorem dX2_title_2 : decode cX2_title 2 = .ok (.areturn, 1) := by decide +kernel
theorem dX2_costs_0 : decode cX2_costs 0 = .ok (.iconst 5, 1) := by decide +kernel
theorem dX2_costs_1 : decode cX2_costs 1 = .ok (.ireturn, 1) := by decide +kernel
theorem dX2_meets_0 : decode cX2_meets 0 = .ok (.iload_n 2, 1) := by decide +kernel
theorem dX2_meets_1 : decode cX2_meets 1 = .ok (.ifCond .eq 10, 3) := by decide +kernel
theorem dX2_meets_4 : decode cX2_meets 4 = .ok (.iload_n 1, 1) := by decide +kernel
theorem dX2_meets_5 : decode cX2_meets 5 = .ok (.bipush 10, 2) := by decide +kernel
theorem dX2_meets_7 : decode cX2_meets 7 = .ok (.idiv, 1) := by decide +kernel
theorem dX2_meets_8 : decode cX2_meets 8 = .ok (.goto 4, 3) := by decide +kernel
theorem dX2_meets_11 : decode cX2_meets 11 = .ok (.iconst 0, 1) := by decide +kernel
theorem dX2_meets_12 : decode cX2_meets 12 = .ok (.ireturn, 1) := by decide +kernel
theorem dX2_leaves_0 : decode cX2_leaves 0 = .ok (.iconst 3, 1) := by decide +kernel
theorem dX2_leaves_1 : decode cX2_leaves 1 = .ok (.ireturn, 1) := by decide +kernel
theorem dX2_gains_0 : decode cX2_gains 0 = .ok (.iconst 1, 1) := by decide +kernel
theorem dX2_gains_1 : decode cX2_gains 1 = .ok (.ireturn, 1) := by decide +kernel
theorem dX3_init_0 : decode cX3_init 0 = .ok (.aload_n 0, 1) := by decide +kernel
theorem dX3_init_1 : decode cX3_init 1 = .ok (.invokespecial 1, 3) := by decide +kernel
theorem dX3_init_4 : decode cX3_init 4 = .ok (.return_, 1) := by decide +kernel
theorem dX3_title_0 : decode cX3_title 0 = .ok (.ldc 7, 2) := by decide +kernel
theorem dX3_title_2 : decode cX3_title 2 = .ok (.areturn, 1) := by decide +kernel
theorem dX3_costs_0 : decode cX3_costs 0 = .ok (.iconst 2, 1) := by decide +kernel
theorem dX3_costs_1 : decode cX3_costs 1 = .ok (.ireturn, 1) := by decide +kernel
theorem dX3_meets_0 : decode cX3_meets 0 = .ok (.aload_n 0, 1) := by decide +kernel
theorem dX3_meets_1 : decode cX3_meets 1 = .ok (.iload_n 1, 1) := by decide +kernel
theorem dX3_meets_2 : decode cX3_meets 2 = .ok (.iload_n 2, 1) := by decide +kernel
theorem dX3_meets_3 : decode cX3_meets 3 = .ok (.iload_n 3, 1) := by decide +kernel
theorem dX3_meets_4 : decode cX3_meets 4 = .ok (.invokespecial 9, 3) := by decide +kernel
theorem dX3_meets_7 : decode cX3_meets 7 = .ok (.iconst 1, 1) := by decide +kernel
theorem dX3_meets_8 : decode cX3_meets 8 = .ok (.iadd, 1) := by decide +kernel
theorem dX3_meets_9 : decode cX3_meets 9 = .ok (.ireturn, 1) := by decide +kernel
theorem dX3_leaves_0 : decode cX3_leaves 0 = .ok (.iconst 1, 1) := by decide +kernel
theorem dX3_leaves_1 : decode cX3_leaves 1 = .ok (.ireturn, 1) := by decide +kernel
theorem dX3_gains_0 : decode cX3_gains 0 = .ok (.iconst 0, 1) := by decide +kernel
theorem dX3_gains_1 : decode cX3_gains 1 = .ok (.ireturn, 1) := by decide +kernel
theorem dX4_init_0 : decode cX4_init 0 = .ok (.aload_n 0, 1) := by decide +kernel
theorem dX4_init_1 : decode cX4_init 1 = .ok (.invokespecial 1, 3) := by decide +kernel
theorem dX4_init_4 : decode cX4_init 4 = .ok (.return_, 1) := by decide +kernel
theorem dX4_title_0 : decode cX4_title 0 = .ok (.ldc 7, 2) := by decide +kernel
theorem dX4_title_2 : decode cX4_title 2 = .ok (.areturn, 1) := by decide +kernel
theorem dX4_costs_0 : decode cX4_costs 0 = .ok (.aload_n 0, 1) := by decide +kernel
theorem dX4_costs_1 : decode cX4_costs 1 = .ok (.iload_n 1, 1) := by decide +kernel
theorem dX4_costs_2 : decode cX4_costs 2 = .ok (.iload_n 2, 1) := by decide +kernel
theorem dX4_costs_3 : decode cX4_costs 3 = .ok (.invokespecial 9, 3) := by decide +kernel
theorem dX4_costs_6 : decode cX4_costs 6 = .ok (.iload_n 2, 1) := by decide +kernel
theorem dX4_costs_7 : decode cX4_costs 7 = .ok (.bipush 50, 2) := by decide +kernel
theorem dX4_costs_9 : decode cX4_costs 9 = .ok (.idiv, 1) := by decide +kernel
theorem dX4_costs_10 : decode cX4_costs 10 = .ok (.iadd, 1) := by decide +kernel
theorem dX4_costs_11 : decode cX4_costs 11 = .ok (.ireturn, 1) := by decide +kernel
theorem dX4_meets_0 : decode cX4_meets 0 = .ok (.iconst 2, 1) := by decide +kernel
theorem dX4_meets_1 : decode cX4_meets 1 = .ok (.aload_n 0, 1) := by decide +kernel
theorem dX4_meets_2 : decode cX4_meets 2 = .ok (.iload_n 1, 1) := by decide +kernel
theorem dX4_meets_3 : decode cX4_meets 3 = .ok (.iload_n 2, 1) := by decide +kernel
theorem dX4_meets_4 : decode cX4_meets 4 = .ok (.iload_n 3, 1) := by decide +kernel
theorem dX4_meets_5 : decode cX4_meets 5 = .ok (.invokespecial 13, 3) := by decide +kernel
theorem dX4_meets_8 : decode cX4_meets 8 = .ok (.imul, 1) := by decide +kernel
theorem dX4_meets_9 : decode cX4_meets 9 = .ok (.ireturn, 1) := by decide +kernel
theorem dX4_gains_0 : decode cX4_gains 0 = .ok (.aload_n 0, 1) := by decide +kernel
theorem dX4_gains_1 : decode cX4_gains 1 = .ok (.iload_n 1, 1) := by decide +kernel
theorem dX4_gains_2 : decode cX4_gains 2 = .ok (.invokespecial 17, 3) := by decide +kernel
theorem dX4_gains_5 : decode cX4_gains 5 = .ok (.iconst 2, 1) := by decide +kernel
theorem dX4_gains_6 : decode cX4_gains 6 = .ok (.isub, 1) := by decide +kernel
theorem dX4_gains_7 : decode cX4_gains 7 = .ok (.ireturn, 1) := by decide +kernel
theorem dX5_init_0 : decode cX5_init 0 = .ok (.aload_n 0, 1) := by decide +kernel
theorem dX5_init_1 : decode cX5_init 1 = .ok (.invokespecial 3, 3) := by decide +kernel
theorem dX5_init_4 : decode cX5_init 4 = .ok (.aload_n 0, 1) := by decide +kernel
theorem dX5_init_5 : decode cX5_init 5 = .ok (.bipush 40, 2) := by decide +kernel
theorem dX5_init_7 : decode cX5_init 7 = .ok (.newarray .long, 2) := by decide +kernel
theorem dX5_init_9 : decode cX5_init 9 = .ok (.putfield 9, 3) := by decide +kernel
theorem dX5_init_12 : decode cX5_init 12 = .ok (.return_, 1) := by decide +kernel
theorem dX5_layOut_0 : decode cX5_layOut 0 = .ok (.aload_n 0, 1) := by decide +kernel
theorem dX5_layOut_1 : decode cX5_layOut 1 = .ok (.iload_n 1, 1) := by decide +kernel
theorem dX5_layOut_2 : decode cX5_layOut 2 = .ok (.putfield 15, 3) := by decide +kernel
theorem dX5_layOut_5 : decode cX5_layOut 5 = .ok (.aload_n 0, 1) := by decide +kernel
theorem dX5_layOut_6 : decode cX5_layOut 6 = .ok (.iload_n 2, 1) := by decide +kernel
theorem dX5_layOut_7 : decode cX5_layOut 7 = .ok (.putfield 19, 3) := by decide +kernel
theorem dX5_layOut_10 : decode cX5_layOut 10 = .ok (.iconst 0, 1) := by decide +kernel
theorem dX5_layOut_11 : decode cX5_layOut 11 = .ok (.istore_n 3, 1) := by decide +kernel
theorem dX5_layOut_12 : decode cX5_layOut 12 = .ok (.iload_n 3, 1) := by decide +kernel
theorem dX5_layOut_13 : decode cX5_layOut 13 = .ok (.bipush 40, 2) := by decide +kernel
theorem dX5_layOut_15 : decode cX5_layOut 15 = .ok (.if_icmp .ge 16, 3) := by decide +kernel
theorem dX5_layOut_18 : decode cX5_layOut 18 = .ok (.aload_n 0, 1) := by decide +kernel
theorem dX5_layOut_19 : decode cX5_layOut 19 = .ok (.getfield 9, 3) := by decide +kernel
theorem dX5_layOut_22 : decode cX5_layOut 22 = .ok (.iload_n 3, 1) := by decide +kernel
theorem dX5_layOut_23 : decode cX5_layOut 23 = .ok (.lconst 0, 1) := by decide +kernel
theorem dX5_layOut_24 : decode cX5_layOut 24 = .ok (.lastore, 1) := by decide +kernel
theorem dX5_layOut_25 : decode cX5_layOut 25 = .ok (.iinc 3 1, 3) := by decide +kernel
theorem dX5_layOut_28 : decode cX5_layOut 28 = .ok (.goto (-16), 3) := by decide +kernel
theorem dX5_layOut_31 : decode cX5_layOut 31 = .ok (.return_, 1) := by decide +kernel
theorem dX5_isMissing_0 : decode cX5_isMissing 0 = .ok (.aload_n 0, 1) := by decide +kernel
theorem dX5_isMissing_1 : decode cX5_isMissing 1 = .ok (.getfield 15, 3) := by decide +kernel
theorem dX5_isMissing_4 : decode cX5_isMissing 4 = .ok (.ifCond .ne 7, 3) := by decide +kernel
theorem dX5_isMissing_7 : decode cX5_isMissing 7 = .ok (.iconst 1, 1) := by decide +kernel
theorem dX5_isMissing_8 : decode cX5_isMissing 8 = .ok (.goto 4, 3) := by decide +kernel
theorem dX5_isMissing_11 : decode cX5_isMissing 11 = .ok (.iconst 0, 1) := by decide +kernel
theorem dX5_isMissing_12 : decode cX5_isMissing 12 = .ok (.ireturn, 1) := by decide +kernel
theorem dX5_put_0 : decode cX5_put 0 = .ok (.aload_n 0, 1) := by decide +kernel
theorem dX5_put_1 : decode cX5_put 1 = .ok (.getfield 15, 3) := by decide +kernel
theorem dX5_put_4 : decode cX5_put 4 = .ok (.bipush 8, 2) := by decide +kernel
theorem dX5_put_6 : decode cX5_put 6 = .ok (.if_icmp .ne 16, 3) := by decide +kernel
theorem dX5_put_9 : decode cX5_put 9 = .ok (.aload_n 0, 1) := by decide +kernel
theorem dX5_put_10 : decode cX5_put 10 = .ok (.getfield 9, 3) := by decide +kernel
theorem dX5_put_13 : decode cX5_put 13 = .ok (.iload_n 1, 1) := by decide +kernel
theorem dX5_put_14 : decode cX5_put 14 = .ok (.lload_n 2, 1) := by decide +kernel
theorem dX5_put_15 : decode cX5_put 15 = .ok (.l2i, 1) := by decide +kernel
theorem dX5_put_16 : decode cX5_put 16 = .ok (.i2b, 1) := by decide +kernel
theorem dX5_put_17 : decode cX5_put 17 = .ok (.i2l, 1) := by decide +kernel
theorem dX5_put_18 : decode cX5_put 18 = .ok (.lastore, 1) := by decide +kernel
theorem dX5_put_19 : decode cX5_put 19 = .ok (.goto 32, 3) := by decide +kernel
theorem dX5_put_22 : decode cX5_put 22 = .ok (.aload_n 0, 1) := by decide +kernel
theorem dX5_put_23 : decode cX5_put 23 = .ok (.getfield 15, 3) := by decide +kernel
theorem dX5_put_26 : decode cX5_put 26 = .ok (.bipush 16, 2) := by decide +kernel
theorem dX5_put_28 : decode cX5_put 28 = .ok (.if_icmp .ne 16, 3) := by decide +kernel
theorem dX5_put_31 : decode cX5_put 31 = .ok (.aload_n 0, 1) := by decide +kernel
theorem dX5_put_32 : decode cX5_put 32 = .ok (.getfield 9, 3) := by decide +kernel
theorem dX5_put_35 : decode cX5_put 35 = .ok (.iload_n 1, 1) := by decide +kernel
theorem dX5_put_36 : decode cX5_put 36 = .ok (.lload_n 2, 1) := by decide +kernel
theorem dX5_put_37 : decode cX5_put 37 = .ok (.l2i, 1) := by decide +kernel
theorem dX5_put_38 : decode cX5_put 38 = .ok (.i2s, 1) := by decide +kernel
theorem dX5_put_39 : decode cX5_put 39 = .ok (.i2l, 1) := by decide +kernel
theorem dX5_put_40 : decode cX5_put 40 = .ok (.lastore, 1) := by decide +kernel
theorem dX5_put_41 : decode cX5_put 41 = .ok (.goto 10, 3) := by decide +kernel
theorem dX5_put_44 : decode cX5_put 44 = .ok (.aload_n 0, 1) := by decide +kernel
theorem dX5_put_45 : decode cX5_put 45 = .ok (.getfield 9, 3) := by decide +kernel
theorem dX5_put_48 : decode cX5_put 48 = .ok (.iload_n 1, 1) := by decide +kernel
theorem dX5_put_49 : decode cX5_put 49 = .ok (.lload_n 2, 1) := by decide +kernel
theorem dX5_put_50 : decode cX5_put 50 = .ok (.lastore, 1) := by decide +kernel
theorem dX5_put_51 : decode cX5_put 51 = .ok (.return_, 1) := by decide +kernel
theorem dX5_hasSpan_0 : decode cX5_hasSpan 0 = .ok (.iload_n 1, 1) := by decide +kernel
theorem dX5_hasSpan_1 : decode cX5_hasSpan 1 = .ok (.ifCond .lt 29, 3) := by decide +kernel
theorem dX5_hasSpan_4 : decode cX5_hasSpan 4 = .ok (.iload_n 2, 1) := by decide +kernel
theorem dX5_hasSpan_5 : decode cX5_hasSpan 5 = .ok (.ifCond .lt 25, 3) := by decide +kernel
theorem dX5_hasSpan_8 : decode cX5_hasSpan 8 = .ok (.iload_n 2, 1) := by decide +kernel
theorem dX5_hasSpan_9 : decode cX5_hasSpan 9 = .ok (.aload_n 0, 1) := by decide +kernel
theorem dX5_hasSpan_10 : decode cX5_hasSpan 10 = .ok (.getfield 19, 3) := by decide +kernel
theorem dX5_hasSpan_13 : decode cX5_hasSpan 13 = .ok (.if_icmp .gt 17, 3) := by decide +kernel
theorem dX5_hasSpan_16 : decode cX5_hasSpan 16 = .ok (.iload_n 1, 1) := by decide +kernel
theorem dX5_hasSpan_17 : decode cX5_hasSpan 17 = .ok (.aload_n 0, 1) := by decide +kernel
theorem dX5_hasSpan_18 : decode cX5_hasSpan 18 = .ok (.getfield 19, 3) := by decide +kernel
theorem dX5_hasSpan_21 : decode cX5_hasSpan 21 = .ok (.iload_n 2, 1) := by decide +kernel
theorem dX5_hasSpan_22 : decode cX5_hasSpan 22 = .ok (.isub, 1) := by decide +kernel
theorem dX5_hasSpan_23 : decode cX5_hasSpan 23 = .ok (.if_icmp .gt 7, 3) := by decide +kernel
theorem dX5_hasSpan_26 : decode cX5_hasSpan 26 = .ok (.iconst 1, 1) := by decide +kernel
theorem dX5_hasSpan_27 : decode cX5_hasSpan 27 = .ok (.goto 4, 3) := by decide +kernel
theorem dX5_hasSpan_30 : decode cX5_hasSpan 30 = .ok (.iconst 0, 1) := by decide +kernel
theorem dX5_hasSpan_31 : decode cX5_hasSpan 31 = .ok (.ireturn, 1) := by decide +kernel
theorem dX8_init_0 : decode cX8_init 0 = .ok (.aload_n 0, 1) := by decide +kernel
theorem dX8_init_1 : decode cX8_init 1 = .ok (.invokespecial 1, 3) := by decide +kernel
theorem dX8_init_4 : decode cX8_init 4 = .ok (.return_, 1) := by decide +kernel
theorem dX8_title_0 : decode cX8_title 0 = .ok (.ldc 7, 2) := by decide +kernel
theorem dX8_title_2 : decode cX8_title 2 = .ok (.areturn, 1) := by decide +kernel
theorem dX8_costs_0 : decode cX8_costs 0 = .ok (.bipush 12, 2) := by decide +kernel
theorem dX8_costs_2 : decode cX8_costs 2 = .ok (.ireturn, 1) := by decide +kernel
theorem dX8_meets_0 : decode cX8_meets 0 = .ok (.aload_n 0, 1) := by decide +kernel
theorem dX8_meets_1 : decode cX8_meets 1 = .ok (.iload_n 1, 1) := by decide +kernel
theorem dX8_meets_2 : decode cX8_meets 2 = .ok (.iload_n 2, 1) := by decide +kernel
theorem dX8_meets_3 : decode cX8_meets 3 = .ok (.iload_n 3, 1) := by decide +kernel
theorem dX8_meets_4 : decode cX8_meets 4 = .ok (.invokespecial 9, 3) := by decide +kernel
theorem dX8_meets_7 : decode cX8_meets 7 = .ok (.istore 4, 2) := by decide +kernel
theorem dX8_meets_9 : decode cX8_meets 9 = .ok (.iload 4, 2) := by decide +kernel
theorem dX8_meets_11 : decode cX8_meets 11 = .ok (.ifCond .le 8, 3) := by decide +kernel
theorem dX8_meets_14 : decode cX8_meets 14 = .ok (.iload 4, 2) := by decide +kernel
theorem dX8_meets_16 : decode cX8_meets 16 = .ok (.goto 5, 3) := by decide +kernel
theorem dX8_meets_19 : decode cX8_meets 19 = .ok (.bipush (-6), 2) := by decide +kernel
theorem dX8_meets_21 : decode cX8_meets 21 = .ok (.ireturn, 1) := by decide +kernel
theorem dX8_leaves_0 : decode cX8_leaves 0 = .ok (.aload_n 0, 1) := by decide +kernel
theorem dX8_leaves_1 : decode cX8_leaves 1 = .ok (.iload_n 1, 1) := by decide +kernel
theorem dX8_leaves_2 : decode cX8_leaves 2 = .ok (.invokespecial 13, 3) := by decide +kernel
theorem dX8_leaves_5 : decode cX8_leaves 5 = .ok (.iconst 4, 1) := by decide +kernel
theorem dX8_leaves_6 : decode cX8_leaves 6 = .ok (.iadd, 1) := by decide +kernel
theorem dX8_leaves_7 : decode cX8_leaves 7 = .ok (.ireturn, 1) := by decide +kernel
theorem dJ9_max_7cf53_0 : decode cJ9_max_7cf53 0 = .ok (.iload_n 0, 1) := by decide +kernel
theorem dJ9_max_7cf53_1 : decode cJ9_max_7cf53 1 = .ok (.iload_n 1, 1) := by decide +kernel
theorem dJ9_max_7cf53_2 : decode cJ9_max_7cf53 2 = .ok (.if_icmp .lt 7, 3) := by decide +kernel
theorem dJ9_max_7cf53_5 : decode cJ9_max_7cf53 5 = .ok (.iload_n 0, 1) := by decide +kernel
theorem dJ9_max_7cf53_6 : decode cJ9_max_7cf53 6 = .ok (.goto 4, 3) := by decide +kernel
theorem dJ9_max_7cf53_9 : decode cJ9_max_7cf53 9 = .ok (.iload_n 1, 1) := by decide +kernel
theorem dJ9_max_7cf53_10 : decode cJ9_max_7cf53 10 = .ok (.ireturn, 1) := by decide +kernel
theorem dJ9_min_7cf53_0 : decode cJ9_min_7cf53 0 = .ok (.iload_n 0, 1) := by decide +kernel
theorem dJ9_min_7cf53_1 : decode cJ9_min_7cf53 1 = .ok (.iload_n 1, 1) := by decide +kernel
theorem dJ9_min_7cf53_2 : decode cJ9_min_7cf53 2 = .ok (.if_icmp .gt 7, 3) := by decide +kernel
theorem dJ9_min_7cf53_5 : decode cJ9_min_7cf53 5 = .ok (.iload_n 0, 1) := by decide +kernel
theorem dJ9_min_7cf53_6 : decode cJ9_min_7cf53 6 = .ok (.goto 4, 3) := by decide +kernel
theorem dJ9_min_7cf53_9 : decode cJ9_min_7cf53 9 = .ok (.iload_n 1, 1) := by decide +kernel
theorem dJ9_min_7cf53_10 : decode cJ9_min_7cf53 10 = .ok (.ireturn, 1) := by decide +kernel
theorem dJ0_length_8abf5_0 : decode cJ0_length_8abf5 0 = .ok (.aload_n 0, 1) := by decide +kernel
theorem dJ0_length_8abf5_1 : decode cJ0_length_8abf5 1 = .ok (.getfield 9, 3) := by decide +kernel
theorem dJ0_length_8abf5_4 : decode cJ0_length_8abf5 4 = .ok (.arraylength, 1) := by decide +kernel
theorem dJ0_length_8abf5_5 : decode cJ0_length_8abf5 5 = .ok (.aload_n 0, 1) := by decide +kernel
theorem dJ0_length_8abf5_6 : decode cJ0_length_8abf5 6 = .ok (.invokevirtual 335, 3) := by decide +kernel
theorem dJ0_length_8abf5_9 : decode cJ0_length_8abf5 9 = .ok (.ishr, 1) := by decide +kernel
theorem dJ0_length_8abf5_10 : decode cJ0_length_8abf5 10 = .ok (.ireturn, 1) := by decide +kernel
theorem dJ0_charAt_5068e_0 : decode cJ0_charAt_5068e 0 = .ok (.aload_n 0, 1) := by decide +kernel
theorem dJ0_charAt_5068e_1 : decode cJ0_charAt_5068e 1 = .ok (.invokevirtual 492, 3) := by decide +kernel
theorem dJ0_charAt_5068e_4 : decode cJ0_charAt_5068e 4 = .ok (.ifCond .eq 12, 3) := by decide +kernel
theorem dJ0_charAt_5068e_7 : decode cJ0_charAt_5068e 7 = .ok (.aload_n 0, 1) := by decide +kernel
theorem dJ0_charAt_5068e_8 : decode cJ0_charAt_5068e 8 = .ok (.getfield 9, 3) := by decide +kernel
theorem dJ0_charAt_5068e_11 : decode cJ0_charAt_5068e 11 = .ok (.iload_n 1, 1) := by decide +kernel
theorem dJ0_charAt_5068e_12 : decode cJ0_charAt_5068e 12 = .ok (.invokestatic 495, 3) := by decide +kernel
theorem dJ0_charAt_5068e_15 : decode cJ0_charAt_5068e 15 = .ok (.ireturn, 1) := by decide +kernel
theorem dJ0_charAt_5068e_16 : decode cJ0_charAt_5068e 16 = .ok (.aload_n 0, 1) := by decide +kernel
theorem dJ0_charAt_5068e_17 : decode cJ0_charAt_5068e 17 = .ok (.getfield 9, 3) := by decide +kernel
theorem dJ0_charAt_5068e_20 : decode cJ0_charAt_5068e 20 = .ok (.iload_n 1, 1) := by decide +kernel
theorem dJ0_charAt_5068e_21 : decode cJ0_charAt_5068e 21 = .ok (.invokestatic 498, 3) := by decide +kernel
theorem dJ0_charAt_5068e_24 : decode cJ0_charAt_5068e 24 = .ok (.ireturn, 1) := by decide +kernel
theorem dJ0_coder_7d493_0 : decode cJ0_coder_7d493 0 = .ok (.getstatic 38, 3) := by decide +kernel
theorem dJ0_coder_7d493_3 : decode cJ0_coder_7d493 3 = .ok (.ifCond .eq 10, 3) := by decide +kernel
theorem dJ0_coder_7d493_6 : decode cJ0_coder_7d493 6 = .ok (.aload_n 0, 1) := by decide +kernel
theorem dJ0_coder_7d493_7 : decode cJ0_coder_7d493 7 = .ok (.getfield 15, 3) := by decide +kernel
theorem dJ0_coder_7d493_10 : decode cJ0_coder_7d493 10 = .ok (.goto 4, 3) := by decide +kernel
theorem dJ0_coder_7d493_13 : decode cJ0_coder_7d493 13 = .ok (.iconst 1, 1) := by decide +kernel
theorem dJ0_coder_7d493_14 : decode cJ0_coder_7d493 14 = .ok (.ireturn, 1) := by decide +kernel
theorem dJ0_isLatin1_aae02_0 : decode cJ0_isLatin1_aae02 0 = .ok (.getstatic 38, 3) := by decide +kernel
theorem dJ0_isLatin1_aae02_3 : decode cJ0_isLatin1_aae02 3 = .ok (.ifCond .eq 14, 3) := by decide +kernel
theorem dJ0_isLatin1_aae02_6 : decode cJ0_isLatin1_aae02 6 = .ok (.aload_n 0, 1) := by decide +kernel
theorem dJ0_isLatin1_aae02_7 : decode cJ0_isLatin1_aae02 7 = .ok (.getfield 15, 3) := by decide +kernel
theorem dJ0_isLatin1_aae02_10 : decode cJ0_isLatin1_aae02 10 = .ok (.ifCond .ne 7, 3) := by decide +kernel
theorem dJ0_isLatin1_aae02_13 : decode cJ0_isLatin1_aae02 13 = .ok (.iconst 1, 1) := by decide +kernel
theorem dJ0_isLatin1_aae02_14 : decode cJ0_isLatin1_aae02 14 = .ok (.goto 4, 3) := by decide +kernel
theorem dJ0_isLatin1_aae02_17 : decode cJ0_isLatin1_aae02 17 = .ok (.iconst 0, 1) := by decide +kernel
theorem dJ0_isLatin1_aae02_18 : decode cJ0_isLatin1_aae02 18 = .ok (.ireturn, 1) := by decide +kernel
theorem dJ0_checkIndex_df160_0 : decode cJ0_checkIndex_df160 0 = .ok (.iload_n 0, 1) := by decide +kernel
theorem dJ0_checkIndex_df160_1 : decode cJ0_checkIndex_df160 1 = .ok (.iload_n 1, 1) := by decide +kernel
theorem dJ0_checkIndex_df160_2 : decode cJ0_checkIndex_df160 2 = .ok (.getstatic 1053, 3) := by decide +kernel
theorem dJ0_checkIndex_df160_5 : decode cJ0_checkIndex_df160 5 = .ok (.invokestatic 1059, 3) := by decide +kernel
theorem dJ0_checkIndex_df160_8 : decode cJ0_checkIndex_df160 8 = .ok (.pop, 1) := by decide +kernel
theorem dJ0_checkIndex_df160_9 : decode cJ0_checkIndex_df160 9 = .ok (.return_, 1) := by decide +kernel
theorem dJ1_charAt_3b067_0 : decode cJ1_charAt_3b067 0 = .ok (.iload_n 1, 1) := by decide +kernel
theorem dJ1_charAt_3b067_1 : decode cJ1_charAt_3b067 1 = .ok (.aload_n 0, 1) := by decide +kernel
theorem dJ1_charAt_3b067_2 : decode cJ1_charAt_3b067 2 = .ok (.arraylength, 1) := by decide +kernel
theorem dJ1_charAt_3b067_3 : decode cJ1_charAt_3b067 3 = .ok (.invokestatic 9, 3) := by decide +kernel
theorem dJ1_charAt_3b067_6 : decode cJ1_charAt_3b067 6 = .ok (.aload_n 0, 1) := by decide +kernel
theorem dJ1_charAt_3b067_7 : decode cJ1_charAt_3b067 7 = .ok (.iload_n 1, 1) := by decide +kernel
theorem dJ1_charAt_3b067_8 : decode cJ1_charAt_3b067 8 = .ok (.baload, 1) := by decide +kernel
theorem dJ1_charAt_3b067_9 : decode cJ1_charAt_3b067 9 = .ok (.sipush 255, 3) := by decide +kernel
theorem dJ1_charAt_3b067_12 : decode cJ1_charAt_3b067 12 = .ok (.iand, 1) := by decide +kernel
theorem dJ1_charAt_3b067_13 : decode cJ1_charAt_3b067 13 = .ok (.i2c, 1) := by decide +kernel
theorem dJ1_charAt_3b067_14 : decode cJ1_charAt_3b067 14 = .ok (.ireturn, 1) := by decide +kernel
theorem dJ2_getChar_3b067_0 : decode cJ2_getChar_3b067 0 = .ok (.getstatic 44, 3) := by decide +kernel
theorem dJ2_getChar_3b067_3 : decode cJ2_getChar_3b067 3 = .ok (.ifCond .ne 25, 3) := by decide +kernel
theorem dJ2_getChar_3b067_6 : decode cJ2_getChar_3b067 6 = .ok (.iload_n 1, 1) := by decide +kernel
theorem dJ2_getChar_3b067_7 : decode cJ2_getChar_3b067 7 = .ok (.ifCond .lt 11, 3) := by decide +kernel
theorem dJ2_getChar_3b067_10 : decode cJ2_getChar_3b067 10 = .ok (.iload_n 1, 1) := by decide +kernel
theorem dJ2_getChar_3b067_11 : decode cJ2_getChar_3b067 11 = .ok (.aload_n 0, 1) := by decide +kernel
theorem dJ2_getChar_3b067_12 : decode cJ2_getChar_3b067 12 = .ok (.invokestatic 48, 3) := by decide +kernel
theorem dJ2_getChar_3b067_15 : decode cJ2_getChar_3b067 15 = .ok (.if_icmp .lt 13, 3) := by decide +kernel
theorem dJ2_getChar_3b067_18 : decode cJ2_getChar_3b067 18 = .ok (.new 52, 3) := by decide +kernel
theorem dJ2_getChar_3b067_21 : decode cJ2_getChar_3b067 21 = .ok (.dup, 1) := by decide +kernel
theorem dJ2_getChar_3b067_22 : decode cJ2_getChar_3b067 22 = .ok (.ldc 54, 2) := by decide +kernel
theorem dJ2_getChar_3b067_24 : decode cJ2_getChar_3b067 24 = .ok (.invokespecial 56, 3) := by decide +kernel
theorem dJ2_getChar_3b067_27 : decode cJ2_getChar_3b067 27 = .ok (.athrow, 1) := by decide +kernel
theorem dJ2_getChar_3b067_28 : decode cJ2_getChar_3b067 28 = .ok (.iload_n 1, 1) := by decide +kernel
theorem dJ2_getChar_3b067_29 : decode cJ2_getChar_3b067 29 = .ok (.iconst 1, 1) := by decide +kernel
theorem dJ2_getChar_3b067_30 : decode cJ2_getChar_3b067 30 = .ok (.ishl, 1) := by decide +kernel
theorem dJ2_getChar_3b067_31 : decode cJ2_getChar_3b067 31 = .ok (.istore_n 1, 1) := by decide +kernel
theorem dJ2_getChar_3b067_32 : decode cJ2_getChar_3b067 32 = .ok (.aload_n 0, 1) := by decide +kernel
theorem dJ2_getChar_3b067_33 : decode cJ2_getChar_3b067 33 = .ok (.iload_n 1, 1) := by decide +kernel
theorem dJ2_getChar_3b067_34 : decode cJ2_getChar_3b067 34 = .ok (.iinc 1 1, 3) := by decide +kernel
theorem dJ2_getChar_3b067_37 : decode cJ2_getChar_3b067 37 = .ok (.baload, 1) := by decide +kernel
theorem dJ2_getChar_3b067_38 : decode cJ2_getChar_3b067 38 = .ok (.sipush 255, 3) := by decide +kernel
theorem dJ2_getChar_3b067_41 : decode cJ2_getChar_3b067 41 = .ok (.iand, 1) := by decide +kernel
theorem dJ2_getChar_3b067_42 : decode cJ2_getChar_3b067 42 = .ok (.getstatic 59, 3) := by decide +kernel
theorem dJ2_getChar_3b067_45 : decode cJ2_getChar_3b067 45 = .ok (.ishl, 1) := by decide +kernel
theorem dJ2_getChar_3b067_46 : decode cJ2_getChar_3b067 46 = .ok (.aload_n 0, 1) := by decide +kernel
theorem dJ2_getChar_3b067_47 : decode cJ2_getChar_3b067 47 = .ok (.iload_n 1, 1) := by decide +kernel
theorem dJ2_getChar_3b067_48 : decode cJ2_getChar_3b067 48 = .ok (.baload, 1) := by decide +kernel
theorem dJ2_getChar_3b067_49 : decode cJ2_getChar_3b067 49 = .ok (.sipush 255, 3) := by decide +kernel
theorem dJ2_getChar_3b067_52 : decode cJ2_getChar_3b067 52 = .ok (.iand, 1) := by decide +kernel
theorem dJ2_getChar_3b067_53 : decode cJ2_getChar_3b067 53 = .ok (.getstatic 63, 3) := by decide +kernel
theorem dJ2_getChar_3b067_56 : decode cJ2_getChar_3b067 56 = .ok (.ishl, 1) := by decide +kernel
theorem dJ2_getChar_3b067_57 : decode cJ2_getChar_3b067 57 = .ok (.ior, 1) := by decide +kernel
theorem dJ2_getChar_3b067_58 : decode cJ2_getChar_3b067 58 = .ok (.i2c, 1) := by decide +kernel
theorem dJ2_getChar_3b067_59 : decode cJ2_getChar_3b067 59 = .ok (.ireturn, 1) := by decide +kernel
theorem dJ2_length_9d52b_0 : decode cJ2_length_9d52b 0 = .ok (.aload_n 0, 1) := by decide +kernel
theorem dJ2_length_9d52b_1 : decode cJ2_length_9d52b 1 = .ok (.arraylength, 1) := by decide +kernel
theorem dJ2_length_9d52b_2 : decode cJ2_length_9d52b 2 = .ok (.iconst 1, 1) := by decide +kernel
theorem dJ2_length_9d52b_3 : decode cJ2_length_9d52b 3 = .ok (.ishr, 1) := by decide +kernel
theorem dJ2_length_9d52b_4 : decode cJ2_length_9d52b 4 = .ok (.ireturn, 1) := by decide +kernel
theorem dJ2_charAt_3b067_0 : decode cJ2_charAt_3b067 0 = .ok (.iload_n 1, 1) := by decide +kernel
theorem dJ2_charAt_3b067_1 : decode cJ2_charAt_3b067 1 = .ok (.aload_n 0, 1) := by decide +kernel
theorem dJ2_charAt_3b067_2 : decode cJ2_charAt_3b067 2 = .ok (.invokestatic 67, 3) := by decide +kernel
theorem dJ2_charAt_3b067_5 : decode cJ2_charAt_3b067 5 = .ok (.aload_n 0, 1) := by decide +kernel
theorem dJ2_charAt_3b067_6 : decode cJ2_charAt_3b067 6 = .ok (.iload_n 1, 1) := by decide +kernel
theorem dJ2_charAt_3b067_7 : decode cJ2_charAt_3b067 7 = .ok (.invokestatic 71, 3) := by decide +kernel
theorem dJ2_charAt_3b067_10 : decode cJ2_charAt_3b067 10 = .ok (.ireturn, 1) := by decide +kernel
theorem dJ2_checkIndex_2214a_0 : decode cJ2_checkIndex_2214a 0 = .ok (.iload_n 0, 1) := by decide +kernel
theorem dJ2_checkIndex_2214a_1 : decode cJ2_checkIndex_2214a 1 = .ok (.aload_n 1, 1) := by decide +kernel
theorem dJ2_checkIndex_2214a_2 : decode cJ2_checkIndex_2214a 2 = .ok (.invokestatic 48, 3) := by decide +kernel
theorem dJ2_checkIndex_2214a_5 : decode cJ2_checkIndex_2214a 5 = .ok (.invokestatic 414, 3) := by decide +kernel
theorem dJ2_checkIndex_2214a_8 : decode cJ2_checkIndex_2214a 8 = .ok (.return_, 1) := by decide +kernel
theorem dJ3_checkIndex_8e157_0 : decode cJ3_checkIndex_8e157 0 = .ok (.iload_n 0, 1) := by decide +kernel
theorem dJ3_checkIndex_8e157_1 : decode cJ3_checkIndex_8e157 1 = .ok (.ifCond .lt 8, 3) := by decide +kernel
theorem dJ3_checkIndex_8e157_4 : decode cJ3_checkIndex_8e157 4 = .ok (.iload_n 0, 1) := by decide +kernel
theorem dJ3_checkIndex_8e157_5 : decode cJ3_checkIndex_8e157 5 = .ok (.iload_n 1, 1) := by decide +kernel
theorem dJ3_checkIndex_8e157_6 : decode cJ3_checkIndex_8e157 6 = .ok (.if_icmp .lt 10, 3) := by decide +kernel
theorem dJ3_checkIndex_8e157_9 : decode cJ3_checkIndex_8e157 9 = .ok (.aload_n 2, 1) := by decide +kernel
theorem dJ3_checkIndex_8e157_10 : decode cJ3_checkIndex_8e157 10 = .ok (.iload_n 0, 1) := by decide +kernel
theorem dJ3_checkIndex_8e157_11 : decode cJ3_checkIndex_8e157 11 = .ok (.iload_n 1, 1) := by decide +kernel
theorem dJ3_checkIndex_8e157_12 : decode cJ3_checkIndex_8e157 12 = .ok (.invokestatic 95, 3) := by decide +kernel
theorem dJ3_checkIndex_8e157_15 : decode cJ3_checkIndex_8e157 15 = .ok (.athrow, 1) := by decide +kernel
theorem dJ3_checkIndex_8e157_16 : decode cJ3_checkIndex_8e157 16 = .ok (.iload_n 0, 1) := by decide +kernel
theorem dJ3_checkIndex_8e157_17 : decode cJ3_checkIndex_8e157 17 = .ok (.ireturn, 1) := by decide +kernel
theorem dX7_init_0 : decode cX7_init 0 = .ok (.aload_n 0, 1) := by decide +kernel
theorem dX7_init_1 : decode cX7_init 1 = .ok (.invokespecial 3, 3) := by decide +kernel
theorem dX7_init_4 : decode cX7_init 4 = .ok (.aload_n 0, 1) := by decide +kernel
theorem dX7_init_5 : decode cX7_init 5 = .ok (.bipush 8, 2) := by decide +kernel
theorem dX7_init_7 : decode cX7_init 7 = .ok (.newarray .int, 2) := by decide +kernel
theorem dX7_init_9 : decode cX7_init 9 = .ok (.putfield 9, 3) := by decide +kernel
theorem dX7_init_12 : decode cX7_init 12 = .ok (.aload_n 0, 1) := by decide +kernel
theorem dX7_init_13 : decode cX7_init 13 = .ok (.bipush 8, 2) := by decide +kernel
theorem dX7_init_15 : decode cX7_init 15 = .ok (.newarray .int, 2) := by decide +kernel
theorem dX7_init_17 : decode cX7_init 17 = .ok (.putfield 15, 3) := by decide +kernel
theorem dX7_init_20 : decode cX7_init 20 = .ok (.aload_n 0, 1) := by decide +kernel
theorem dX7_init_21 : decode cX7_init 21 = .ok (.bipush 8, 2) := by decide +kernel
theorem dX7_init_23 : decode cX7_init 23 = .ok (.newarray .int, 2) := by decide +kernel
theorem dX7_init_25 : decode cX7_init 25 = .ok (.putfield 18, 3) := by decide +kernel
theorem dX7_init_28 : decode cX7_init 28 = .ok (.aload_n 0, 1) := by decide +kernel
theorem dX7_init_29 : decode cX7_init 29 = .ok (.bipush 8, 2) := by decide +kernel
theorem dX7_init_31 : decode cX7_init 31 = .ok (.newarray .int, 2) := by decide +kernel
theorem dX7_init_33 : decode cX7_init 33 = .ok (.putfield 21, 3) := by decide +kernel
theorem dX7_init_36 : decode cX7_init 36 = .ok (.aload_n 0, 1) := by decide +kernel
theorem dX7_init_37 : decode cX7_init 37 = .ok (.bipush 6, 2) := by decide +kernel
theorem dX7_init_39 : decode cX7_init 39 = .ok (.newarray .int, 2) := by decide +kernel
theorem dX7_init_41 : decode cX7_init 41 = .ok (.putfield 24, 3) := by decide +kernel
theorem dX7_init_44 : decode cX7_init 44 = .ok (.aload_n 0, 1) := by decide +kernel
theorem dX7_init_45 : decode cX7_init 45 = .ok (.bipush 6, 2) := by decide +kernel
theorem dX7_init_47 : decode cX7_init 47 = .ok (.newarray .int, 2) := by decide +kernel
theorem dX7_init_49 : decode cX7_init 49 = .ok (.putfield 27, 3) := by decide +kernel
theorem dX7_init_52 : decode cX7_init 52 = .ok (.aload_n 0, 1) := by decide +kernel
theorem dX7_init_53 : decode cX7_init 53 = .ok (.bipush 6, 2) := by decide +kernel
theorem dX7_init_55 : decode cX7_init 55 = .ok (.newarray .int, 2) := by decide +kernel
theorem dX7_init_57 : decode cX7_init 57 = .ok (.putfield 30, 3) := by decide +kernel
theorem dX7_init_60 : decode cX7_init 60 = .ok (.aload_n 0, 1) := by decide +kernel
theorem dX7_init_61 : decode cX7_init 61 = .ok (.bipush 6, 2) := by decide +kernel
theorem dX7_init_63 : decode cX7_init 63 = .ok (.newarray .int, 2) := by decide +kernel
theorem dX7_init_65 : decode cX7_init 65 = .ok (.putfield 33, 3) := by decide +kernel
theorem dX7_init_68 : decode cX7_init 68 = .ok (.aload_n 0, 1) := by decide +kernel
theorem dX7_init_69 : decode cX7_init 69 = .ok (.bipush 6, 2) := by decide +kernel
theorem dX7_init_71 : decode cX7_init 71 = .ok (.newarray .int, 2) := by decide +kernel
theorem dX7_init_73 : decode cX7_init 73 = .ok (.putfield 36, 3) := by decide +kernel
theorem dX7_init_76 : decode cX7_init 76 = .ok (.aload_n 0, 1) := by decide +kernel
theorem dX7_init_77 : decode cX7_init 77 = .ok (.aload_n 1, 1) := by decide +kernel
theorem dX7_init_78 : decode cX7_init 78 = .ok (.putfield 39, 3) := by decide +kernel
theorem dX7_init_81 : decode cX7_init 81 = .ok (.iconst 0, 1) := by decide +kernel
theorem dX7_init_82 : decode cX7_init 82 = .ok (.istore_n 2, 1) := by decide +kernel
theorem dX7_init_83 : decode cX7_init 83 = .ok (.iload_n 2, 1) := by decide +kernel
theorem dX7_init_84 : decode cX7_init 84 = .ok (.bipush 6, 2) := by decide +kernel
theorem dX7_init_86 : decode cX7_init 86 = .ok (.if_icmp .ge 16, 3) := by decide +kernel
theorem dX7_init_89 : decode cX7_init 89 = .ok (.aload_n 0, 1) := by decide +kernel
theorem dX7_init_90 : decode cX7_init 90 = .ok (.getfield 36, 3) := by decide +kernel
theorem dX7_init_93 : decode cX7_init 93 = .ok (.iload_n 2, 1) := by decide +kernel
theorem dX7_init_94 : decode cX7_init 94 = .ok (.iconst (-1), 1) := by decide +kernel
theorem dX7_init_95 : decode cX7_init 95 = .ok (.iastore, 1) := by decide +kernel
theorem dX7_init_96 : decode cX7_init 96 = .ok (.iinc 2 1, 3) := by decide +kernel
theorem dX7_init_99 : decode cX7_init 99 = .ok (.goto (-16), 3) := by decide +kernel
theorem dX7_init_102 : decode cX7_init 102 = .ok (.return_, 1) := by decide +kernel
theorem dX7_become_0 : decode cX7_become 0 = .ok (.aload_n 0, 1) := by decide +kernel
theorem dX7_become_1 : decode cX7_become 1 = .ok (.aload_n 1, 1) := by decide +kernel
theorem dX7_become_2 : decode cX7_become 2 = .ok (.getfield 43, 3) := by decide +kernel
theorem dX7_become_5 : decode cX7_become 5 = .ok (.putfield 43, 3) := by decide +kernel
theorem dX7_become_8 : decode cX7_become 8 = .ok (.aload_n 0, 1) := by decide +kernel
theorem dX7_become_9 : decode cX7_become 9 = .ok (.aload_n 1, 1) := by decide +kernel
theorem dX7_become_10 : decode cX7_become 10 = .ok (.getfield 47, 3) := by decide +kernel
theorem dX7_become_13 : decode cX7_become 13 = .ok (.putfield 47, 3) := by decide +kernel
theorem dX7_become_16 : decode cX7_become 16 = .ok (.aload_n 0, 1) := by decide +kernel
theorem dX7_become_17 : decode cX7_become 17 = .ok (.aload_n 1, 1) := by decide +kernel
theorem dX7_become_18 : decode cX7_become 18 = .ok (.getfield 50, 3) := by decide +kernel
theorem dX7_become_21 : decode cX7_become 21 = .ok (.putfield 50, 3) := by decide +kernel
theorem dX7_become_24 : decode cX7_become 24 = .ok (.aload_n 1, 1) := by decide +kernel
theorem dX7_become_25 : decode cX7_become 25 = .ok (.getfield 9, 3) := by decide +kernel
theorem dX7_become_28 : decode cX7_become 28 = .ok (.iconst 0, 1) := by decide +kernel
theorem dX7_become_29 : decode cX7_become 29 = .ok (.aload_n 0, 1) := by decide +kernel
theorem dX7_become_30 : decode cX7_become 30 = .ok (.getfield 9, 3) := by decide +kernel
theorem dX7_become_33 : decode cX7_become 33 = .ok (.iconst 0, 1) := by decide +kernel
theorem dX7_become_34 : decode cX7_become 34 = .ok (.bipush 8, 2) := by decide +kernel
theorem dX7_become_36 : decode cX7_become 36 = .ok (.invokestatic 53, 3) := by decide +kernel
theorem dX7_become_39 : decode cX7_become 39 = .ok (.aload_n 1, 1) := by decide +kernel
theorem dX7_become_40 : decode cX7_become 40 = .ok (.getfield 15, 3) := by decide +kernel
theorem dX7_become_43 : decode cX7_become 43 = .ok (.iconst 0, 1) := by decide +kernel
theorem dX7_become_44 : decode cX7_become 44 = .ok (.aload_n 0, 1) := by decide +kernel
theorem dX7_become_45 : decode cX7_become 45 = .ok (.getfield 15, 3) := by decide +kernel
theorem dX7_become_48 : decode cX7_become 48 = .ok (.iconst 0, 1) := by decide +kernel
theorem dX7_become_49 : decode cX7_become 49 = .ok (.bipush 8, 2) := by decide +kernel
theorem dX7_become_51 : decode cX7_become 51 = .ok (.invokestatic 53, 3) := by decide +kernel
theorem dX7_become_54 : decode cX7_become 54 = .ok (.aload_n 1, 1) := by decide +kernel
theorem dX7_become_55 : decode cX7_become 55 = .ok (.getfield 18, 3) := by decide +kernel
theorem dX7_become_58 : decode cX7_become 58 = .ok (.iconst 0, 1) := by decide +kernel
theorem dX7_become_59 : decode cX7_become 59 = .ok (.aload_n 0, 1) := by decide +kernel
theorem dX7_become_60 : decode cX7_become 60 = .ok (.getfield 18, 3) := by decide +kernel
theorem dX7_become_63 : decode cX7_become 63 = .ok (.iconst 0, 1) := by decide +kernel
theorem dX7_become_64 : decode cX7_become 64 = .ok (.bipush 8, 2) := by decide +kernel
theorem dX7_become_66 : decode cX7_become 66 = .ok (.invokestatic 53, 3) := by decide +kernel
theorem dX7_become_69 : decode cX7_become 69 = .ok (.aload_n 1, 1) := by decide +kernel
theorem dX7_become_70 : decode cX7_become 70 = .ok (.getfield 21, 3) := by decide +kernel
theorem dX7_become_73 : decode cX7_become 73 = .ok (.iconst 0, 1) := by decide +kernel
theorem dX7_become_74 : decode cX7_become 74 = .ok (.aload_n 0, 1) := by decide +kernel
theorem dX7_become_75 : decode cX7_become 75 = .ok (.getfield 21, 3) := by decide +kernel
theorem dX7_become_78 : decode cX7_become 78 = .ok (.iconst 0, 1) := by decide +kernel
theorem dX7_become_79 : decode cX7_become 79 = .ok (.bipush 8, 2) := by decide +kernel
theorem dX7_become_81 : decode cX7_become 81 = .ok (.invokestatic 53, 3) := by decide +kernel
theorem dX7_become_84 : decode cX7_become 84 = .ok (.aload_n 1, 1) := by decide +kernel
theorem dX7_become_85 : decode cX7_become 85 = .ok (.getfield 24, 3) := by decide +kernel
theorem dX7_become_88 : decode cX7_become 88 = .ok (.iconst 0, 1) := by decide +kernel
theorem dX7_become_89 : decode cX7_become 89 = .ok (.aload_n 0, 1) := by decide +kernel
theorem dX7_become_90 : decode cX7_become 90 = .ok (.getfield 24, 3) := by decide +kernel
theorem dX7_become_93 : decode cX7_become 93 = .ok (.iconst 0, 1) := by decide +kernel
theorem dX7_become_94 : decode cX7_become 94 = .ok (.bipush 6, 2) := by decide +kernel
theorem dX7_become_96 : decode cX7_become 96 = .ok (.invokestatic 53, 3) := by decide +kernel
theorem dX7_become_99 : decode cX7_become 99 = .ok (.aload_n 1, 1) := by decide +kernel
theorem dX7_become_100 : decode cX7_become 100 = .ok (.getfield 27, 3) := by decide +kernel
theorem dX7_become_103 : decode cX7_become 103 = .ok (.iconst 0, 1) := by decide +kernel
theorem dX7_become_104 : decode cX7_become 104 = .ok (.aload_n 0, 1) := by decide +kernel
theorem dX7_become_105 : decode cX7_become 105 = .ok (.getfield 27, 3) := by decide +kernel
theorem dX7_become_108 : decode cX7_become 108 = .ok (.iconst 0, 1) := by decide +kernel
theorem dX7_become_109 : decode cX7_become 109 = .ok (.bipush 6, 2) := by decide +kernel
theorem dX7_become_111 : decode cX7_become 111 = .ok (.invokestatic 53, 3) := by decide +kernel
theorem dX7_become_114 : decode cX7_become 114 = .ok (.aload_n 1, 1) := by decide +kernel
theorem dX7_become_115 : decode cX7_become 115 = .ok (.getfield 30, 3) := by decide +kernel
theorem dX7_become_118 : decode cX7_become 118 = .ok (.iconst 0, 1) := by decide +kernel
theorem dX7_become_119 : decode cX7_become 119 = .ok (.aload_n 0, 1) := by decide +kernel
theorem dX7_become_120 : decode cX7_become 120 = .ok (.getfield 30, 3) := by decide +kernel
theorem dX7_become_123 : decode cX7_become 123 = .ok (.iconst 0, 1) := by decide +kernel
theorem dX7_become_124 : decode cX7_become 124 = .ok (.bipush 6, 2) := by decide +kernel
theorem dX7_become_126 : decode cX7_become 126 = .ok (.invokestatic 53, 3) := by decide +kernel
theorem dX7_become_129 : decode cX7_become 129 = .ok (.aload_n 1, 1) := by decide +kernel
theorem dX7_become_130 : decode cX7_become 130 = .ok (.getfield 33, 3) := by decide +kernel
theorem dX7_become_133 : decode cX7_become 133 = .ok (.iconst 0, 1) := by decide +kernel
theorem dX7_become_134 : decode cX7_become 134 = .ok (.aload_n 0, 1) := by decide +kernel
theorem dX7_become_135 : decode cX7_become 135 = .ok (.getfield 33, 3) := by decide +kernel
theorem dX7_become_138 : decode cX7_become 138 = .ok (.iconst 0, 1) := by decide +kernel
theorem dX7_become_139 : decode cX7_become 139 = .ok (.bipush 6, 2) := by decide +kernel
theorem dX7_become_141 : decode cX7_become 141 = .ok (.invokestatic 53, 3) := by decide +kernel
theorem dX7_become_144 : decode cX7_become 144 = .ok (.aload_n 1, 1) := by decide +kernel
theorem dX7_become_145 : decode cX7_become 145 = .ok (.getfield 36, 3) := by decide +kernel
theorem dX7_become_148 : decode cX7_become 148 = .ok (.iconst 0, 1) := by decide +kernel
theorem dX7_become_149 : decode cX7_become 149 = .ok (.aload_n 0, 1) := by decide +kernel
theorem dX7_become_150 : decode cX7_become 150 = .ok (.getfield 36, 3) := by decide +kernel
theorem dX7_become_153 : decode cX7_become 153 = .ok (.iconst 0, 1) := by decide +kernel
theorem dX7_become_154 : decode cX7_become 154 = .ok (.bipush 6, 2) := by decide +kernel
theorem dX7_become_156 : decode cX7_become 156 = .ok (.invokestatic 53, 3) := by decide +kernel
theorem dX7_become_159 : decode cX7_become 159 = .ok (.return_, 1) := by decide +kernel
theorem dX7_addBeard_0 : decode cX7_addBeard 0 = .ok (.aload_n 0, 1) := by decide +kernel
theorem dX7_addBeard_1 : decode cX7_addBeard 1 = .ok (.getfield 47, 3) := by decide +kernel
theorem dX7_addBeard_4 : decode cX7_addBeard 4 = .ok (.bipush 8, 2) := by decide +kernel
theorem dX7_addBeard_6 : decode cX7_addBeard 6 = .ok (.if_icmp .lt 5, 3) := by decide +kernel
theorem dX7_addBeard_9 : decode cX7_addBeard 9 = .ok (.iconst (-1), 1) := by decide +kernel
theorem dX7_addBeard_10 : decode cX7_addBeard 10 = .ok (.ireturn, 1) := by decide +kernel
theorem dX7_addBeard_11 : decode cX7_addBeard 11 = .ok (.aload_n 0, 1) := by decide +kernel
theorem dX7_addBeard_12 : decode cX7_addBeard 12 = .ok (.getfield 47, 3) := by decide +kernel
theorem dX7_addBeard_15 : decode cX7_addBeard 15 = .ok (.istore_n 2, 1) := by decide +kernel
theorem dX7_addBeard_16 : decode cX7_addBeard 16 = .ok (.aload_n 0, 1) := by decide +kernel
theorem dX7_addBeard_17 : decode cX7_addBeard 17 = .ok (.dup, 1) := by decide +kernel
theorem dX7_addBeard_18 : decode cX7_addBeard 18 = .ok (.getfield 47, 3) := by decide +kernel
theorem dX7_addBeard_21 : decode cX7_addBeard 21 = .ok (.iconst 1, 1) := by decide +kernel
theorem dX7_addBeard_22 : decode cX7_addBeard 22 = .ok (.iadd, 1) := by decide +kernel
theorem dX7_addBeard_23 : decode cX7_addBeard 23 = .ok (.putfield 47, 3) := by decide +kernel
theorem dX7_addBeard_26 : decode cX7_addBeard 26 = .ok (.aload_n 0, 1) := by decide +kernel
theorem dX7_addBeard_27 : decode cX7_addBeard 27 = .ok (.getfield 9, 3) := by decide +kernel
theorem dX7_addBeard_30 : decode cX7_addBeard 30 = .ok (.iload_n 2, 1) := by decide +kernel
theorem dX7_addBeard_31 : decode cX7_addBeard 31 = .ok (.iload_n 1, 1) := by decide +kernel
theorem dX7_addBeard_32 : decode cX7_addBeard 32 = .ok (.iastore, 1) := by decide +kernel
theorem dX7_addBeard_33 : decode cX7_addBeard 33 = .ok (.aload_n 0, 1) := by decide +kernel
theorem dX7_addBeard_34 : decode cX7_addBeard 34 = .ok (.getfield 15, 3) := by decide +kernel
theorem dX7_addBeard_37 : decode cX7_addBeard 37 = .ok (.iload_n 2, 1) := by decide +kernel
theorem dX7_addBeard_38 : decode cX7_addBeard 38 = .ok (.bipush 10, 2) := by decide +kernel
theorem dX7_addBeard_40 : decode cX7_addBeard 40 = .ok (.iastore, 1) := by decide +kernel
theorem dX7_addBeard_41 : decode cX7_addBeard 41 = .ok (.aload_n 0, 1) := by decide +kernel
theorem dX7_addBeard_42 : decode cX7_addBeard 42 = .ok (.getfield 18, 3) := by decide +kernel
theorem dX7_addBeard_45 : decode cX7_addBeard 45 = .ok (.iload_n 2, 1) := by decide +kernel
theorem dX7_addBeard_46 : decode cX7_addBeard 46 = .ok (.iconst 0, 1) := by decide +kernel
theorem dX7_addBeard_47 : decode cX7_addBeard 47 = .ok (.iastore, 1) := by decide +kernel
theorem dX7_addBeard_48 : decode cX7_addBeard 48 = .ok (.aload_n 0, 1) := by decide +kernel
theorem dX7_addBeard_49 : decode cX7_addBeard 49 = .ok (.getfield 21, 3) := by decide +kernel
theorem dX7_addBeard_52 : decode cX7_addBeard 52 = .ok (.iload_n 2, 1) := by decide +kernel
theorem dX7_addBeard_53 : decode cX7_addBeard 53 = .ok (.iconst (-1), 1) := by decide +kernel
theorem dX7_addBeard_54 : decode cX7_addBeard 54 = .ok (.iastore, 1) := by decide +kernel
theorem dX7_addBeard_55 : decode cX7_addBeard 55 = .ok (.iload_n 2, 1) := by decide +kernel
theorem dX7_addBeard_56 : decode cX7_addBeard 56 = .ok (.ireturn, 1) := by decide +kernel
theorem dX7_addWearer_0 : decode cX7_addWearer 0 = .ok (.aload_n 0, 1) := by decide +kernel
theorem dX7_addWearer_1 : decode cX7_addWearer 1 = .ok (.getfield 50, 3) := by decide +kernel
theorem dX7_addWearer_4 : decode cX7_addWearer 4 = .ok (.bipush 6, 2) := by decide +kernel
theorem dX7_addWearer_6 : decode cX7_addWearer 6 = .ok (.if_icmp .lt 5, 3) := by decide +kernel
theorem dX7_addWearer_9 : decode cX7_addWearer 9 = .ok (.iconst (-1), 1) := by decide +kernel
theorem dX7_addWearer_10 : decode cX7_addWearer 10 = .ok (.ireturn, 1) := by decide +kernel
theorem dX7_addWearer_11 : decode cX7_addWearer 11 = .ok (.aload_n 0, 1) := by decide +kernel
theorem dX7_addWearer_12 : decode cX7_addWearer 12 = .ok (.getfield 50, 3) := by decide +kernel
theorem dX7_addWearer_15 : decode cX7_addWearer 15 = .ok (.istore_n 2, 1) := by decide +kernel
theorem dX7_addWearer_16 : decode cX7_addWearer 16 = .ok (.aload_n 0, 1) := by decide +kernel
theorem dX7_addWearer_17 : decode cX7_addWearer 17 = .ok (.dup, 1) := by decide +kernel
theorem dX7_addWearer_18 : decode cX7_addWearer 18 = .ok (.getfield 50, 3) := by decide +kernel
theorem dX7_addWearer_21 : decode cX7_addWearer 21 = .ok (.iconst 1, 1) := by decide +kernel
theorem dX7_addWearer_22 : decode cX7_addWearer 22 = .ok (.iadd, 1) := by decide +kernel
theorem dX7_addWearer_23 : decode cX7_addWearer 23 = .ok (.putfield 50, 3) := by decide +kernel
theorem dX7_addWearer_26 : decode cX7_addWearer 26 = .ok (.aload_n 0, 1) := by decide +kernel
theorem dX7_addWearer_27 : decode cX7_addWearer 27 = .ok (.getfield 24, 3) := by decide +kernel
theorem dX7_addWearer_30 : decode cX7_addWearer 30 = .ok (.iload_n 2, 1) := by decide +kernel
theorem dX7_addWearer_31 : decode cX7_addWearer 31 = .ok (.iload_n 1, 1) := by decide +kernel
theorem dX7_addWearer_32 : decode cX7_addWearer 32 = .ok (.iastore, 1) := by decide +kernel
theorem dX7_addWearer_33 : decode cX7_addWearer 33 = .ok (.aload_n 0, 1) := by decide +kernel
theorem dX7_addWearer_34 : decode cX7_addWearer 34 = .ok (.getfield 27, 3) := by decide +kernel
theorem dX7_addWearer_37 : decode cX7_addWearer 37 = .ok (.iload_n 2, 1) := by decide +kernel
theorem dX7_addWearer_38 : decode cX7_addWearer 38 = .ok (.iload_n 2, 1) := by decide +kernel
theorem dX7_addWearer_39 : decode cX7_addWearer 39 = .ok (.iastore, 1) := by decide +kernel
theorem dX7_addWearer_40 : decode cX7_addWearer 40 = .ok (.aload_n 0, 1) := by decide +kernel
theorem dX7_addWearer_41 : decode cX7_addWearer 41 = .ok (.getfield 30, 3) := by decide +kernel
theorem dX7_addWearer_44 : decode cX7_addWearer 44 = .ok (.iload_n 2, 1) := by decide +kernel
theorem dX7_addWearer_45 : decode cX7_addWearer 45 = .ok (.iconst (-1), 1) := by decide +kernel
theorem dX7_addWearer_46 : decode cX7_addWearer 46 = .ok (.iastore, 1) := by decide +kernel
theorem dX7_addWearer_47 : decode cX7_addWearer 47 = .ok (.iload_n 2, 1) := by decide +kernel
theorem dX7_addWearer_48 : decode cX7_addWearer 48 = .ok (.ireturn, 1) := by decide +kernel
theorem dX7_putOn_0 : decode cX7_putOn 0 = .ok (.aload_n 0, 1) := by decide +kernel
theorem dX7_putOn_1 : decode cX7_putOn 1 = .ok (.getfield 30, 3) := by decide +kernel
theorem dX7_putOn_4 : decode cX7_putOn 4 = .ok (.iload_n 1, 1) := by decide +kernel
theorem dX7_putOn_5 : decode cX7_putOn 5 = .ok (.iload_n 2, 1) := by decide +kernel
theorem dX7_putOn_6 : decode cX7_putOn 6 = .ok (.iastore, 1) := by decide +kernel
theorem dX7_putOn_7 : decode cX7_putOn 7 = .ok (.aload_n 0, 1) := by decide +kernel
theorem dX7_putOn_8 : decode cX7_putOn 8 = .ok (.getfield 21, 3) := by decide +kernel
theorem dX7_putOn_11 : decode cX7_putOn 11 = .ok (.iload_n 2, 1) := by decide +kernel
theorem dX7_putOn_12 : decode cX7_putOn 12 = .ok (.iload_n 1, 1) := by decide +kernel
theorem dX7_putOn_13 : decode cX7_putOn 13 = .ok (.iastore, 1) := by decide +kernel
theorem dX7_putOn_14 : decode cX7_putOn 14 = .ok (.return_, 1) := by decide +kernel
theorem dX7_takeOff_0 : decode cX7_takeOff 0 = .ok (.aload_n 0, 1) := by decide +kernel
theorem dX7_takeOff_1 : decode cX7_takeOff 1 = .ok (.getfield 30, 3) := by decide +kernel
theorem dX7_takeOff_4 : decode cX7_takeOff 4 = .ok (.iload_n 1, 1) := by decide +kernel
theorem dX7_takeOff_5 : decode cX7_takeOff 5 = .ok (.iconst (-1), 1) := by decide +kernel
theorem dX7_takeOff_6 : decode cX7_takeOff 6 = .ok (.iastore, 1) := by decide +kernel
theorem dX7_takeOff_7 : decode cX7_takeOff 7 = .ok (.aload_n 0, 1) := by decide +kernel
theorem dX7_takeOff_8 : decode cX7_takeOff 8 = .ok (.getfield 21, 3) := by decide +kernel
theorem dX7_takeOff_11 : decode cX7_takeOff 11 = .ok (.iload_n 2, 1) := by decide +kernel
theorem dX7_takeOff_12 : decode cX7_takeOff 12 = .ok (.iconst (-1), 1) := by decide +kernel
theorem dX7_takeOff_13 : decode cX7_takeOff 13 = .ok (.iastore, 1) := by decide +kernel
theorem dX7_takeOff_14 : decode cX7_takeOff 14 = .ok (.return_, 1) := by decide +kernel
theorem dX7_isMonday_0 : decode cX7_isMonday 0 = .ok (.aload_n 0, 1) := by decide +kernel
theorem dX7_isMonday_1 : decode cX7_isMonday 1 = .ok (.getfield 43, 3) := by decide +kernel
theorem dX7_isMonday_4 : decode cX7_isMonday 4 = .ok (.bipush 7, 2) := by decide +kernel
theorem dX7_isMonday_6 : decode cX7_isMonday 6 = .ok (.irem, 1) := by decide +kernel
theorem dX7_isMonday_7 : decode cX7_isMonday 7 = .ok (.ifCond .ne 7, 3) := by decide +kernel
theorem dX7_isMonday_10 : decode cX7_isMonday 10 = .ok (.iconst 1, 1) := by decide +kernel
theorem dX7_isMonday_11 : decode cX7_isMonday 11 = .ok (.goto 4, 3) := by decide +kernel
theorem dX7_isMonday_14 : decode cX7_isMonday 14 = .ok (.iconst 0, 1) := by decide +kernel
theorem dX7_isMonday_15 : decode cX7_isMonday 15 = .ok (.ireturn, 1) := by decide +kernel
theorem dX7_houseTonight_0 : decode cX7_houseTonight 0 = .ok (.aload_n 0, 1) := by decide +kernel
theorem dX7_houseTonight_1 : decode cX7_houseTonight 1 = .ok (.getfield 43, 3) := by decide +kernel
theorem dX7_houseTonight_4 : decode cX7_houseTonight 4 = .ok (.aload_n 0, 1) := by decide +kernel
theorem dX7_houseTonight_5 : decode cX7_houseTonight 5 = .ok (.getfield 27, 3) := by decide +kernel
theorem dX7_houseTonight_8 : decode cX7_houseTonight 8 = .ok (.iload_n 1, 1) := by decide +kernel
theorem dX7_houseTonight_9 : decode cX7_houseTonight 9 = .ok (.iaload, 1) := by decide +kernel
theorem dX7_houseTonight_10 : decode cX7_houseTonight 10 = .ok (.iadd, 1) := by decide +kernel
theorem dX7_houseTonight_11 : decode cX7_houseTonight 11 = .ok (.bipush 6, 2) := by decide +kernel
theorem dX7_houseTonight_13 : decode cX7_houseTonight 13 = .ok (.irem, 1) := by decide +kernel
theorem dX7_houseTonight_14 : decode cX7_houseTonight 14 = .ok (.ireturn, 1) := by decide +kernel
theorem dX7_costOf_0 : decode cX7_costOf 0 = .ok (.aload_n 0, 1) := by decide +kernel
theorem dX7_costOf_1 : decode cX7_costOf 1 = .ok (.getfield 39, 3) := by decide +kernel
theorem dX7_costOf_4 : decode cX7_costOf 4 = .ok (.aload_n 0, 1) := by decide +kernel
theorem dX7_costOf_5 : decode cX7_costOf 5 = .ok (.getfield 9, 3) := by decide +kernel
theorem dX7_costOf_8 : decode cX7_costOf 8 = .ok (.iload_n 1, 1) := by decide +kernel
theorem dX7_costOf_9 : decode cX7_costOf 9 = .ok (.iaload, 1) := by decide +kernel
theorem dX7_costOf_10 : decode cX7_costOf 10 = .ok (.aaload, 1) := by decide +kernel
theorem dX7_costOf_11 : decode cX7_costOf 11 = .ok (.aload_n 0, 1) := by decide +kernel
theorem dX7_costOf_12 : decode cX7_costOf 12 = .ok (.getfield 15, 3) := by decide +kernel
theorem dX7_costOf_15 : decode cX7_costOf 15 = .ok (.iload_n 1, 1) := by decide +kernel
theorem dX7_costOf_16 : decode cX7_costOf 16 = .ok (.iaload, 1) := by decide +kernel
theorem dX7_costOf_17 : decode cX7_costOf 17 = .ok (.aload_n 0, 1) := by decide +kernel
theorem dX7_costOf_18 : decode cX7_costOf 18 = .ok (.getfield 18, 3) := by decide +kernel
theorem dX7_costOf_21 : decode cX7_costOf 21 = .ok (.iload_n 1, 1) := by decide +kernel
theorem dX7_costOf_22 : decode cX7_costOf 22 = .ok (.iaload, 1) := by decide +kernel
theorem dX7_costOf_23 : decode cX7_costOf 23 = .ok (.invokevirtual 59, 3) := by decide +kernel
theorem dX7_costOf_26 : decode cX7_costOf 26 = .ok (.ireturn, 1) := by decide +kernel
theorem dX7_meetingAt_0 : decode cX7_meetingAt 0 = .ok (.aload_n 0, 1) := by decide +kernel
theorem dX7_meetingAt_1 : decode cX7_meetingAt 1 = .ok (.getfield 39, 3) := by decide +kernel
theorem dX7_meetingAt_4 : decode cX7_meetingAt 4 = .ok (.aload_n 0, 1) := by decide +kernel
theorem dX7_meetingAt_5 : decode cX7_meetingAt 5 = .ok (.getfield 9, 3) := by decide +kernel
theorem dX7_meetingAt_8 : decode cX7_meetingAt 8 = .ok (.iload_n 1, 1) := by decide +kernel
theorem dX7_meetingAt_9 : decode cX7_meetingAt 9 = .ok (.iaload, 1) := by decide +kernel
theorem dX7_meetingAt_10 : decode cX7_meetingAt 10 = .ok (.aaload, 1) := by decide +kernel
theorem dX7_meetingAt_11 : decode cX7_meetingAt 11 = .ok (.aload_n 0, 1) := by decide +kernel
theorem dX7_meetingAt_12 : decode cX7_meetingAt 12 = .ok (.getfield 33, 3) := by decide +kernel
theorem dX7_meetingAt_15 : decode cX7_meetingAt 15 = .ok (.iload_n 2, 1) := by decide +kernel
theorem dX7_meetingAt_16 : decode cX7_meetingAt 16 = .ok (.iaload, 1) := by decide +kernel
theorem dX7_meetingAt_17 : decode cX7_meetingAt 17 = .ok (.aload_n 0, 1) := by decide +kernel
theorem dX7_meetingAt_18 : decode cX7_meetingAt 18 = .ok (.getfield 36, 3) := by decide +kernel
theorem dX7_meetingAt_21 : decode cX7_meetingAt 21 = .ok (.iload_n 2, 1) := by decide +kernel
theorem dX7_meetingAt_22 : decode cX7_meetingAt 22 = .ok (.iaload, 1) := by decide +kernel
theorem dX7_meetingAt_23 : decode cX7_meetingAt 23 = .ok (.iload_n 1, 1) := by decide +kernel
theorem dX7_meetingAt_24 : decode cX7_meetingAt 24 = .ok (.if_icmp .ne 7, 3) := by decide +kernel
theorem dX7_meetingAt_27 : decode cX7_meetingAt 27 = .ok (.iconst 1, 1) := by decide +kernel
theorem dX7_meetingAt_28 : decode cX7_meetingAt 28 = .ok (.goto 4, 3) := by decide +kernel
theorem dX7_meetingAt_31 : decode cX7_meetingAt 31 = .ok (.iconst 0, 1) := by decide +kernel
theorem dX7_meetingAt_32 : decode cX7_meetingAt 32 = .ok (.aload_n 0, 1) := by decide +kernel
theorem dX7_meetingAt_33 : decode cX7_meetingAt 33 = .ok (.getfield 15, 3) := by decide +kernel
theorem dX7_meetingAt_36 : decode cX7_meetingAt 36 = .ok (.iload_n 1, 1) := by decide +kernel
theorem dX7_meetingAt_37 : decode cX7_meetingAt 37 = .ok (.iaload, 1) := by decide +kernel
theorem dX7_meetingAt_38 : decode cX7_meetingAt 38 = .ok (.invokevirtual 65, 3) := by decide +kernel
theorem dX7_meetingAt_41 : decode cX7_meetingAt 41 = .ok (.ireturn, 1) := by decide +kernel
theorem dX7_leavingOf_0 : decode cX7_leavingOf 0 = .ok (.aload_n 0, 1) := by decide +kernel
theorem dX7_leavingOf_1 : decode cX7_leavingOf 1 = .ok (.getfield 39, 3) := by decide +kernel
theorem dX7_leavingOf_4 : decode cX7_leavingOf 4 = .ok (.aload_n 0, 1) := by decide +kernel
theorem dX7_leavingOf_5 : decode cX7_leavingOf 5 = .ok (.getfield 9, 3) := by decide +kernel
theorem dX7_leavingOf_8 : decode cX7_leavingOf 8 = .ok (.iload_n 1, 1) := by decide +kernel
theorem dX7_leavingOf_9 : decode cX7_leavingOf 9 = .ok (.iaload, 1) := by decide +kernel
theorem dX7_leavingOf_10 : decode cX7_leavingOf 10 = .ok (.aaload, 1) := by decide +kernel
theorem dX7_leavingOf_11 : decode cX7_leavingOf 11 = .ok (.aload_n 0, 1) := by decide +kernel
theorem dX7_leavingOf_12 : decode cX7_leavingOf 12 = .ok (.getfield 15, 3) := by decide +kernel
theorem dX7_leavingOf_15 : decode cX7_leavingOf 15 = .ok (.iload_n 1, 1) := by decide +kernel
theorem dX7_leavingOf_16 : decode cX7_leavingOf 16 = .ok (.iaload, 1) := by decide +kernel
theorem dX7_leavingOf_17 : decode cX7_leavingOf 17 = .ok (.invokevirtual 69, 3) := by decide +kernel
theorem dX7_leavingOf_20 : decode cX7_leavingOf 20 = .ok (.ireturn, 1) := by decide +kernel
theorem dX7_gainOf_0 : decode cX7_gainOf 0 = .ok (.aload_n 0, 1) := by decide +kernel
theorem dX7_gainOf_1 : decode cX7_gainOf 1 = .ok (.getfield 39, 3) := by decide +kernel
theorem dX7_gainOf_4 : decode cX7_gainOf 4 = .ok (.aload_n 0, 1) := by decide +kernel
theorem dX7_gainOf_5 : decode cX7_gainOf 5 = .ok (.getfield 9, 3) := by decide +kernel
theorem dX7_gainOf_8 : decode cX7_gainOf 8 = .ok (.iload_n 1, 1) := by decide +kernel
theorem dX7_gainOf_9 : decode cX7_gainOf 9 = .ok (.iaload, 1) := by decide +kernel
theorem dX7_gainOf_10 : decode cX7_gainOf 10 = .ok (.aaload, 1) := by decide +kernel
theorem dX7_gainOf_11 : decode cX7_gainOf 11 = .ok (.aload_n 0, 1) := by decide +kernel
theorem dX7_gainOf_12 : decode cX7_gainOf 12 = .ok (.invokevirtual 73, 3) := by decide +kernel
theorem dX7_gainOf_15 : decode cX7_gainOf 15 = .ok (.invokevirtual 77, 3) := by decide +kernel
theorem dX7_gainOf_18 : decode cX7_gainOf 18 = .ok (.ireturn, 1) := by decide +kernel
theorem dX7_passNights_0 : decode cX7_passNights 0 = .ok (.iconst 0, 1) := by decide +kernel
theorem dX7_passNights_1 : decode cX7_passNights 1 = .ok (.istore_n 2, 1) := by decide +kernel
theorem dX7_passNights_2 : decode cX7_passNights 2 = .ok (.iload_n 2, 1) := by decide +kernel
theorem dX7_passNights_3 : decode cX7_passNights 3 = .ok (.iload_n 1, 1) := by decide +kernel
theorem dX7_passNights_4 : decode cX7_passNights 4 = .ok (.if_icmp .ge 13, 3) := by decide +kernel
theorem dX7_passNights_7 : decode cX7_passNights 7 = .ok (.aload_n 0, 1) := by decide +kernel
theorem dX7_passNights_8 : decode cX7_passNights 8 = .ok (.invokevirtual 81, 3) := by decide +kernel
theorem dX7_passNights_11 : decode cX7_passNights 11 = .ok (.iinc 2 1, 3) := by decide +kernel
theorem dX7_passNights_14 : decode cX7_passNights 14 = .ok (.goto (-12), 3) := by decide +kernel
theorem dX7_passNights_17 : decode cX7_passNights 17 = .ok (.return_, 1) := by decide +kernel
theorem dX7_passNightsOfWearer_0 : decode cX7_passNightsOfWearer 0 = .ok (.iconst 0, 1) := by decide +kernel
theorem dX7_passNightsOfWearer_1 : decode cX7_passNightsOfWearer 1 = .ok (.istore_n 3, 1) := by decide +kernel
theorem dX7_passNightsOfWearer_2 : decode cX7_passNightsOfWearer 2 = .ok (.iload_n 3, 1) := by decide +kernel
theorem dX7_passNightsOfWearer_3 : decode cX7_passNightsOfWearer 3 = .ok (.iload_n 2, 1) := by decide +kernel
theorem dX7_passNightsOfWearer_4 : decode cX7_passNightsOfWearer 4 = .ok (.if_icmp .ge 23, 3) := by decide +kernel
theorem dX7_passNightsOfWearer_7 : decode cX7_passNightsOfWearer 7 = .ok (.aload_n 0, 1) := by decide +kernel
theorem dX7_passNightsOfWearer_8 : decode cX7_passNightsOfWearer 8 = .ok (.getfield 30, 3) := by decide +kernel
theorem dX7_passNightsOfWearer_11 : decode cX7_passNightsOfWearer 11 = .ok (.iload_n 1, 1) := by decide +kernel
theorem dX7_passNightsOfWearer_12 : decode cX7_passNightsOfWearer 12 = .ok (.iaload, 1) := by decide +kernel
theorem dX7_passNightsOfWearer_13 : decode cX7_passNightsOfWearer 13 = .ok (.iconst (-1), 1) := by decide +kernel
theorem dX7_passNightsOfWearer_14 : decode cX7_passNightsOfWearer 14 = .ok (.if_icmp .eq 13, 3) := by decide +kernel
theorem dX7_passNightsOfWearer_17 : decode cX7_passNightsOfWearer 17 = .ok (.aload_n 0, 1) := by decide +kernel
theorem dX7_passNightsOfWearer_18 : decode cX7_passNightsOfWearer 18 = .ok (.invokevirtual 81, 3) := by decide +kernel
theorem dX7_passNightsOfWearer_21 : decode cX7_passNightsOfWearer 21 = .ok (.iinc 3 1, 3) := by decide +kernel
theorem dX7_passNightsOfWearer_24 : decode cX7_passNightsOfWearer 24 = .ok (.goto (-22), 3) := by decide +kernel
theorem dX7_passNightsOfWearer_27 : decode cX7_passNightsOfWearer 27 = .ok (.return_, 1) := by decide +kernel
theorem dX7_passNight_0 : decode cX7_passNight 0 = .ok (.iconst 0, 1) := by decide +kernel
theorem dX7_passNight_1 : decode cX7_passNight 1 = .ok (.istore_n 1, 1) := by decide +kernel
theorem dX7_passNight_2 : decode cX7_passNight 2 = .ok (.iload_n 1, 1) := by decide +kernel
theorem dX7_passNight_3 : decode cX7_passNight 3 = .ok (.aload_n 0, 1) := by decide +kernel
theorem dX7_passNight_4 : decode cX7_passNight 4 = .ok (.getfield 50, 3) := by decide +kernel
theorem dX7_passNight_7 : decode cX7_passNight 7 = .ok (.if_icmp .ge 30, 3) := by decide +kernel
theorem dX7_passNight_10 : decode cX7_passNight 10 = .ok (.aload_n 0, 1) := by decide +kernel
theorem dX7_passNight_11 : decode cX7_passNight 11 = .ok (.getfield 30, 3) := by decide +kernel
theorem dX7_passNight_14 : decode cX7_passNight 14 = .ok (.iload_n 1, 1) := by decide +kernel
theorem dX7_passNight_15 : decode cX7_passNight 15 = .ok (.iaload, 1) := by decide +kernel
theorem dX7_passNight_16 : decode cX7_passNight 16 = .ok (.iconst (-1), 1) := by decide +kernel
theorem dX7_passNight_17 : decode cX7_passNight 17 = .ok (.if_icmp .eq 14, 3) := by decide +kernel
theorem dX7_passNight_20 : decode cX7_passNight 20 = .ok (.aload_n 0, 1) := by decide +kernel
theorem dX7_passNight_21 : decode cX7_passNight 21 = .ok (.iload_n 1, 1) := by decide +kernel
theorem dX7_passNight_22 : decode cX7_passNight 22 = .ok (.aload_n 0, 1) := by decide +kernel
theorem dX7_passNight_23 : decode cX7_passNight 23 = .ok (.getfield 30, 3) := by decide +kernel
theorem dX7_passNight_26 : decode cX7_passNight 26 = .ok (.iload_n 1, 1) := by decide +kernel
theorem dX7_passNight_27 : decode cX7_passNight 27 = .ok (.iaload, 1) := by decide +kernel
theorem dX7_passNight_28 : decode cX7_passNight 28 = .ok (.invokevirtual 84, 3) := by decide +kernel
theorem dX7_passNight_31 : decode cX7_passNight 31 = .ok (.iinc 1 1, 3) := by decide +kernel
theorem dX7_passNight_34 : decode cX7_passNight 34 = .ok (.goto (-32), 3) := by decide +kernel
theorem dX7_passNight_37 : decode cX7_passNight 37 = .ok (.aload_n 0, 1) := by decide +kernel
theorem dX7_passNight_38 : decode cX7_passNight 38 = .ok (.invokevirtual 73, 3) := by decide +kernel
theorem dX7_passNight_41 : decode cX7_passNight 41 = .ok (.ifCond .eq 7, 3) := by decide +kernel
theorem dX7_passNight_44 : decode cX7_passNight 44 = .ok (.aload_n 0, 1) := by decide +kernel
theorem dX7_passNight_45 : decode cX7_passNight 45 = .ok (.invokevirtual 88, 3) := by decide +kernel
theorem dX7_passNight_48 : decode cX7_passNight 48 = .ok (.aload_n 0, 1) := by decide +kernel
theorem dX7_passNight_49 : decode cX7_passNight 49 = .ok (.dup, 1) := by decide +kernel
theorem dX7_passNight_50 : decode cX7_passNight 50 = .ok (.getfield 43, 3) := by decide +kernel
theorem dX7_passNight_53 : decode cX7_passNight 53 = .ok (.iconst 1, 1) := by decide +kernel
theorem dX7_passNight_54 : decode cX7_passNight 54 = .ok (.iadd, 1) := by decide +kernel
theorem dX7_passNight_55 : decode cX7_passNight 55 = .ok (.putfield 43, 3) := by decide +kernel
theorem dX7_passNight_58 : decode cX7_passNight 58 = .ok (.return_, 1) := by decide +kernel
theorem dX7_spendNight_0 : decode cX7_spendNight 0 = .ok (.aload_n 0, 1) := by decide +kernel
theorem dX7_spendNight_1 : decode cX7_spendNight 1 = .ok (.getfield 39, 3) := by decide +kernel
theorem dX7_spendNight_4 : decode cX7_spendNight 4 = .ok (.aload_n 0, 1) := by decide +kernel
theorem dX7_spendNight_5 : decode cX7_spendNight 5 = .ok (.getfield 9, 3) := by decide +kernel
theorem dX7_spendNight_8 : decode cX7_spendNight 8 = .ok (.iload_n 2, 1) := by decide +kernel
theorem dX7_spendNight_9 : decode cX7_spendNight 9 = .ok (.iaload, 1) := by decide +kernel
theorem dX7_spendNight_10 : decode cX7_spendNight 10 = .ok (.aaload, 1) := by decide +kernel
theorem dX7_spendNight_11 : decode cX7_spendNight 11 = .ok (.astore_n 3, 1) := by decide +kernel
theorem dX7_spendNight_12 : decode cX7_spendNight 12 = .ok (.aload_n 3, 1) := by decide +kernel
theorem dX7_spendNight_13 : decode cX7_spendNight 13 = .ok (.aload_n 0, 1) := by decide +kernel
theorem dX7_spendNight_14 : decode cX7_spendNight 14 = .ok (.getfield 15, 3) := by decide +kernel
theorem dX7_spendNight_17 : decode cX7_spendNight 17 = .ok (.iload_n 2, 1) := by decide +kernel
theorem dX7_spendNight_18 : decode cX7_spendNight 18 = .ok (.iaload, 1) := by decide +kernel
theorem dX7_spendNight_19 : decode cX7_spendNight 19 = .ok (.aload_n 0, 1) := by decide +kernel
theorem dX7_spendNight_20 : decode cX7_spendNight 20 = .ok (.getfield 18, 3) := by decide +kernel
theorem dX7_spendNight_23 : decode cX7_spendNight 23 = .ok (.iload_n 2, 1) := by decide +kernel
theorem dX7_spendNight_24 : decode cX7_spendNight 24 = .ok (.iaload, 1) := by decide +kernel
theorem dX7_spendNight_25 : decode cX7_spendNight 25 = .ok (.invokevirtual 59, 3) := by decide +kernel
theorem dX7_spendNight_28 : decode cX7_spendNight 28 = .ok (.istore 4, 2) := by decide +kernel
theorem dX7_spendNight_30 : decode cX7_spendNight 30 = .ok (.aload_n 0, 1) := by decide +kernel
theorem dX7_spendNight_31 : decode cX7_spendNight 31 = .ok (.getfield 24, 3) := by decide +kernel
theorem dX7_spendNight_34 : decode cX7_spendNight 34 = .ok (.iload_n 1, 1) := by decide +kernel
theorem dX7_spendNight_35 : decode cX7_spendNight 35 = .ok (.iaload, 1) := by decide +kernel
theorem dX7_spendNight_36 : decode cX7_spendNight 36 = .ok (.iload 4, 2) := by decide +kernel
theorem dX7_spendNight_38 : decode cX7_spendNight 38 = .ok (.if_icmp .ge 10, 3) := by decide +kernel
theorem dX7_spendNight_41 : decode cX7_spendNight 41 = .ok (.aload_n 0, 1) := by decide +kernel
theorem dX7_spendNight_42 : decode cX7_spendNight 42 = .ok (.iload_n 1, 1) := by decide +kernel
theorem dX7_spendNight_43 : decode cX7_spendNight 43 = .ok (.iload_n 2, 1) := by decide +kernel
theorem dX7_spendNight_44 : decode cX7_spendNight 44 = .ok (.invokevirtual 91, 3) := by decide +kernel
theorem dX7_spendNight_47 : decode cX7_spendNight 47 = .ok (.return_, 1) := by decide +kernel
theorem dX7_spendNight_48 : decode cX7_spendNight 48 = .ok (.aload_n 0, 1) := by decide +kernel
theorem dX7_spendNight_49 : decode cX7_spendNight 49 = .ok (.iload_n 1, 1) := by decide +kernel
theorem dX7_spendNight_50 : decode cX7_spendNight 50 = .ok (.invokevirtual 94, 3) := by decide +kernel
theorem dX7_spendNight_53 : decode cX7_spendNight 53 = .ok (.istore 5, 2) := by decide +kernel
theorem dX7_spendNight_55 : decode cX7_spendNight 55 = .ok (.aload_n 3, 1) := by decide +kernel
theorem dX7_spendNight_56 : decode cX7_spendNight 56 = .ok (.aload_n 0, 1) := by decide +kernel
theorem dX7_spendNight_57 : decode cX7_spendNight 57 = .ok (.getfield 33, 3) := by decide +kernel
theorem dX7_spendNight_60 : decode cX7_spendNight 60 = .ok (.iload 5, 2) := by decide +kernel
theorem dX7_spendNight_62 : decode cX7_spendNight 62 = .ok (.iaload, 1) := by decide +kernel
theorem dX7_spendNight_63 : decode cX7_spendNight 63 = .ok (.aload_n 0, 1) := by decide +kernel
theorem dX7_spendNight_64 : decode cX7_spendNight 64 = .ok (.getfield 36, 3) := by decide +kernel
theorem dX7_spendNight_67 : decode cX7_spendNight 67 = .ok (.iload 5, 2) := by decide +kernel
theorem dX7_spendNight_69 : decode cX7_spendNight 69 = .ok (.iaload, 1) := by decide +kernel
theorem dX7_spendNight_70 : decode cX7_spendNight 70 = .ok (.iload_n 2, 1) := by decide +kernel
theorem dX7_spendNight_71 : decode cX7_spendNight 71 = .ok (.if_icmp .ne 7, 3) := by decide +kernel
theorem dX7_spendNight_74 : decode cX7_spendNight 74 = .ok (.iconst 1, 1) := by decide +kernel
theorem dX7_spendNight_75 : decode cX7_spendNight 75 = .ok (.goto 4, 3) := by decide +kernel
theorem dX7_spendNight_78 : decode cX7_spendNight 78 = .ok (.iconst 0, 1) := by decide +kernel
theorem dX7_spendNight_79 : decode cX7_spendNight 79 = .ok (.aload_n 0, 1) := by decide +kernel
theorem dX7_spendNight_80 : decode cX7_spendNight 80 = .ok (.getfield 15, 3) := by decide +kernel
theorem dX7_spendNight_83 : decode cX7_spendNight 83 = .ok (.iload_n 2, 1) := by decide +kernel
theorem dX7_spendNight_84 : decode cX7_spendNight 84 = .ok (.iaload, 1) := by decide +kernel
theorem dX7_spendNight_85 : decode cX7_spendNight 85 = .ok (.invokevirtual 65, 3) := by decide +kernel
theorem dX7_spendNight_88 : decode cX7_spendNight 88 = .ok (.istore 6, 2) := by decide +kernel
theorem dX7_spendNight_90 : decode cX7_spendNight 90 = .ok (.aload_n 3, 1) := by decide +kernel
theorem dX7_spendNight_91 : decode cX7_spendNight 91 = .ok (.aload_n 0, 1) := by decide +kernel
theorem dX7_spendNight_92 : decode cX7_spendNight 92 = .ok (.getfield 15, 3) := by decide +kernel
theorem dX7_spendNight_95 : decode cX7_spendNight 95 = .ok (.iload_n 2, 1) := by decide +kernel
theorem dX7_spendNight_96 : decode cX7_spendNight 96 = .ok (.iaload, 1) := by decide +kernel
theorem dX7_spendNight_97 : decode cX7_spendNight 97 = .ok (.invokevirtual 69, 3) := by decide +kernel
theorem dX7_spendNight_100 : decode cX7_spendNight 100 = .ok (.istore 7, 2) := by decide +kernel
theorem dX7_spendNight_102 : decode cX7_spendNight 102 = .ok (.aload_n 3, 1) := by decide +kernel
theorem dX7_spendNight_103 : decode cX7_spendNight 103 = .ok (.aload_n 0, 1) := by decide +kernel
theorem dX7_spendNight_104 : decode cX7_spendNight 104 = .ok (.invokevirtual 73, 3) := by decide +kernel
theorem dX7_spendNight_107 : decode cX7_spendNight 107 = .ok (.invokevirtual 77, 3) := by decide +kernel
theorem dX7_spendNight_110 : decode cX7_spendNight 110 = .ok (.istore 8, 2) := by decide +kernel
theorem dX7_spendNight_112 : decode cX7_spendNight 112 = .ok (.aload_n 0, 1) := by decide +kernel
theorem dX7_spendNight_113 : decode cX7_spendNight 113 = .ok (.getfield 24, 3) := by decide +kernel
theorem dX7_spendNight_116 : decode cX7_spendNight 116 = .ok (.iload_n 1, 1) := by decide +kernel
theorem dX7_spendNight_117 : decode cX7_spendNight 117 = .ok (.aload_n 0, 1) := by decide +kernel
theorem dX7_spendNight_118 : decode cX7_spendNight 118 = .ok (.getfield 24, 3) := by decide +kernel
theorem dX7_spendNight_121 : decode cX7_spendNight 121 = .ok (.iload_n 1, 1) := by decide +kernel
theorem dX7_spendNight_122 : decode cX7_spendNight 122 = .ok (.iaload, 1) := by decide +kernel
theorem dX7_spendNight_123 : decode cX7_spendNight 123 = .ok (.iload 4, 2) := by decide +kernel
theorem dX7_spendNight_125 : decode cX7_spendNight 125 = .ok (.isub, 1) := by decide +kernel
theorem dX7_spendNight_126 : decode cX7_spendNight 126 = .ok (.iload 6, 2) := by decide +kernel
theorem dX7_spendNight_128 : decode cX7_spendNight 128 = .ok (.iadd, 1) := by decide +kernel
theorem dX7_spendNight_129 : decode cX7_spendNight 129 = .ok (.iconst 0, 1) := by decide +kernel
theorem dX7_spendNight_130 : decode cX7_spendNight 130 = .ok (.sipush 9999, 3) := by decide +kernel
theorem dX7_spendNight_133 : decode cX7_spendNight 133 = .ok (.invokestatic 97, 3) := by decide +kernel
theorem dX7_spendNight_136 : decode cX7_spendNight 136 = .ok (.iastore, 1) := by decide +kernel
theorem dX7_spendNight_137 : decode cX7_spendNight 137 = .ok (.aload_n 0, 1) := by decide +kernel
theorem dX7_spendNight_138 : decode cX7_spendNight 138 = .ok (.getfield 18, 3) := by decide +kernel
theorem dX7_spendNight_141 : decode cX7_spendNight 141 = .ok (.iload_n 2, 1) := by decide +kernel
theorem dX7_spendNight_142 : decode cX7_spendNight 142 = .ok (.aload_n 0, 1) := by decide +kernel
theorem dX7_spendNight_143 : decode cX7_spendNight 143 = .ok (.getfield 18, 3) := by decide +kernel
theorem dX7_spendNight_146 : decode cX7_spendNight 146 = .ok (.iload_n 2, 1) := by decide +kernel
theorem dX7_spendNight_147 : decode cX7_spendNight 147 = .ok (.iaload, 1) := by decide +kernel
theorem dX7_spendNight_148 : decode cX7_spendNight 148 = .ok (.iload 6, 2) := by decide +kernel
theorem dX7_spendNight_150 : decode cX7_spendNight 150 = .ok (.ifCond .le 7, 3) := by decide +kernel
theorem dX7_spendNight_153 : decode cX7_spendNight 153 = .ok (.iconst 3, 1) := by decide +kernel
theorem dX7_spendNight_154 : decode cX7_spendNight 154 = .ok (.goto 4, 3) := by decide +kernel
theorem dX7_spendNight_157 : decode cX7_spendNight 157 = .ok (.iconst 1, 1) := by decide +kernel
theorem dX7_spendNight_158 : decode cX7_spendNight 158 = .ok (.iadd, 1) := by decide +kernel
theorem dX7_spendNight_159 : decode cX7_spendNight 159 = .ok (.iconst 0, 1) := by decide +kernel
theorem dX7_spendNight_160 : decode cX7_spendNight 160 = .ok (.sipush 999, 3) := by decide +kernel
theorem dX7_spendNight_163 : decode cX7_spendNight 163 = .ok (.invokestatic 97, 3) := by decide +kernel
theorem dX7_spendNight_166 : decode cX7_spendNight 166 = .ok (.iastore, 1) := by decide +kernel
theorem dX7_spendNight_167 : decode cX7_spendNight 167 = .ok (.aload_n 0, 1) := by decide +kernel
theorem dX7_spendNight_168 : decode cX7_spendNight 168 = .ok (.getfield 33, 3) := by decide +kernel
theorem dX7_spendNight_171 : decode cX7_spendNight 171 = .ok (.iload 5, 2) := by decide +kernel
theorem dX7_spendNight_173 : decode cX7_spendNight 173 = .ok (.aload_n 0, 1) := by decide +kernel
theorem dX7_spendNight_174 : decode cX7_spendNight 174 = .ok (.getfield 33, 3) := by decide +kernel
theorem dX7_spendNight_177 : decode cX7_spendNight 177 = .ok (.iload 5, 2) := by decide +kernel
theorem dX7_spendNight_179 : decode cX7_spendNight 179 = .ok (.iaload, 1) := by decide +kernel
theorem dX7_spendNight_180 : decode cX7_spendNight 180 = .ok (.iload 7, 2) := by decide +kernel
theorem dX7_spendNight_182 : decode cX7_spendNight 182 = .ok (.iadd, 1) := by decide +kernel
theorem dX7_spendNight_183 : decode cX7_spendNight 183 = .ok (.bipush (-50), 2) := by decide +kernel
theorem dX7_spendNight_185 : decode cX7_spendNight 185 = .ok (.bipush 50, 2) := by decide +kernel
theorem dX7_spendNight_187 : decode cX7_spendNight 187 = .ok (.invokestatic 97, 3) := by decide +kernel
theorem dX7_spendNight_190 : decode cX7_spendNight 190 = .ok (.iastore, 1) := by decide +kernel
theorem dX7_spendNight_191 : decode cX7_spendNight 191 = .ok (.aload_n 0, 1) := by decide +kernel
theorem dX7_spendNight_192 : decode cX7_spendNight 192 = .ok (.getfield 36, 3) := by decide +kernel
theorem dX7_spendNight_195 : decode cX7_spendNight 195 = .ok (.iload 5, 2) := by decide +kernel
theorem dX7_spendNight_197 : decode cX7_spendNight 197 = .ok (.iload_n 2, 1) := by decide +kernel
theorem dX7_spendNight_198 : decode cX7_spendNight 198 = .ok (.iastore, 1) := by decide +kernel
theorem dX7_spendNight_199 : decode cX7_spendNight 199 = .ok (.aload_n 0, 1) := by decide +kernel
theorem dX7_spendNight_200 : decode cX7_spendNight 200 = .ok (.getfield 15, 3) := by decide +kernel
theorem dX7_spendNight_203 : decode cX7_spendNight 203 = .ok (.iload_n 2, 1) := by decide +kernel
theorem dX7_spendNight_204 : decode cX7_spendNight 204 = .ok (.aload_n 0, 1) := by decide +kernel
theorem dX7_spendNight_205 : decode cX7_spendNight 205 = .ok (.getfield 15, 3) := by decide +kernel
theorem dX7_spendNight_208 : decode cX7_spendNight 208 = .ok (.iload_n 2, 1) := by decide +kernel
theorem dX7_spendNight_209 : decode cX7_spendNight 209 = .ok (.iaload, 1) := by decide +kernel
theorem dX7_spendNight_210 : decode cX7_spendNight 210 = .ok (.iload 8, 2) := by decide +kernel
theorem dX7_spendNight_212 : decode cX7_spendNight 212 = .ok (.iadd, 1) := by decide +kernel
theorem dX7_spendNight_213 : decode cX7_spendNight 213 = .ok (.iconst 0, 1) := by decide +kernel
theorem dX7_spendNight_214 : decode cX7_spendNight 214 = .ok (.bipush 99, 2) := by decide +kernel
theorem dX7_spendNight_216 : decode cX7_spendNight 216 = .ok (.invokestatic 97, 3) := by decide +kernel
theorem dX7_spendNight_219 : decode cX7_spendNight 219 = .ok (.iastore, 1) := by decide +kernel
theorem dX7_spendNight_220 : decode cX7_spendNight 220 = .ok (.return_, 1) := by decide +kernel
theorem dX7_combOut_0 : decode cX7_combOut 0 = .ok (.iconst 0, 1) := by decide +kernel
theorem dX7_combOut_1 : decode cX7_combOut 1 = .ok (.istore_n 1, 1) := by decide +kernel
theorem dX7_combOut_2 : decode cX7_combOut 2 = .ok (.iload_n 1, 1) := by decide +kernel
theorem dX7_combOut_3 : decode cX7_combOut 3 = .ok (.aload_n 0, 1) := by decide +kernel
theorem dX7_combOut_4 : decode cX7_combOut 4 = .ok (.getfield 47, 3) := by decide +kernel
theorem dX7_combOut_7 : decode cX7_combOut 7 = .ok (.if_icmp .ge 26, 3) := by decide +kernel
theorem dX7_combOut_10 : decode cX7_combOut 10 = .ok (.aload_n 0, 1) := by decide +kernel
theorem dX7_combOut_11 : decode cX7_combOut 11 = .ok (.getfield 21, 3) := by decide +kernel
theorem dX7_combOut_14 : decode cX7_combOut 14 = .ok (.iload_n 1, 1) := by decide +kernel
theorem dX7_combOut_15 : decode cX7_combOut 15 = .ok (.iaload, 1) := by decide +kernel
theorem dX7_combOut_16 : decode cX7_combOut 16 = .ok (.iconst (-1), 1) := by decide +kernel
theorem dX7_combOut_17 : decode cX7_combOut 17 = .ok (.if_icmp .ne 10, 3) := by decide +kernel
theorem dX7_combOut_20 : decode cX7_combOut 20 = .ok (.aload_n 0, 1) := by decide +kernel
theorem dX7_combOut_21 : decode cX7_combOut 21 = .ok (.getfield 18, 3) := by decide +kernel
theorem dX7_combOut_24 : decode cX7_combOut 24 = .ok (.iload_n 1, 1) := by decide +kernel
theorem dX7_combOut_25 : decode cX7_combOut 25 = .ok (.iconst 0, 1) := by decide +kernel
theorem dX7_combOut_26 : decode cX7_combOut 26 = .ok (.iastore, 1) := by decide +kernel
theorem dX7_combOut_27 : decode cX7_combOut 27 = .ok (.iinc 1 1, 3) := by decide +kernel
theorem dX7_combOut_30 : decode cX7_combOut 30 = .ok (.goto (-28), 3) := by decide +kernel
theorem dX7_combOut_33 : decode cX7_combOut 33 = .ok (.return_, 1) := by decide +kernel
theorem dX7_held_0 : decode cX7_held 0 = .ok (.iload_n 1, 1) := by decide +kernel
theorem dX7_held_1 : decode cX7_held 1 = .ok (.iload_n 2, 1) := by decide +kernel
theorem dX7_held_2 : decode cX7_held 2 = .ok (.iload_n 0, 1) := by decide +kernel
theorem dX7_held_3 : decode cX7_held 3 = .ok (.invokestatic 101, 3) := by decide +kernel
theorem dX7_held_6 : decode cX7_held 6 = .ok (.invokestatic 106, 3) := by decide +kernel
theorem dX7_held_9 : decode cX7_held 9 = .ok (.ireturn, 1) := by decide +kernel
theorem dX7_guestsAt_0 : decode cX7_guestsAt 0 = .ok (.iconst 0, 1) := by decide +kernel
theorem dX7_guestsAt_1 : decode cX7_guestsAt 1 = .ok (.istore_n 2, 1) := by decide +kernel
theorem dX7_guestsAt_2 : decode cX7_guestsAt 2 = .ok (.iconst 0, 1) := by decide +kernel
theorem dX7_guestsAt_3 : decode cX7_guestsAt 3 = .ok (.istore_n 3, 1) := by decide +kernel
theorem dX7_guestsAt_4 : decode cX7_guestsAt 4 = .ok (.iload_n 3, 1) := by decide +kernel
theorem dX7_guestsAt_5 : decode cX7_guestsAt 5 = .ok (.aload_n 0, 1) := by decide +kernel
theorem dX7_guestsAt_6 : decode cX7_guestsAt 6 = .ok (.getfield 50, 3) := by decide +kernel
theorem dX7_guestsAt_9 : decode cX7_guestsAt 9 = .ok (.if_icmp .ge 24, 3) := by decide +kernel
theorem dX7_guestsAt_12 : decode cX7_guestsAt 12 = .ok (.aload_n 0, 1) := by decide +kernel
theorem dX7_guestsAt_13 : decode cX7_guestsAt 13 = .ok (.iload_n 3, 1) := by decide +kernel
theorem dX7_guestsAt_14 : decode cX7_guestsAt 14 = .ok (.invokevirtual 94, 3) := by decide +kernel
theorem dX7_guestsAt_17 : decode cX7_guestsAt 17 = .ok (.iload_n 1, 1) := by decide +kernel
theorem dX7_guestsAt_18 : decode cX7_guestsAt 18 = .ok (.if_icmp .ne 9, 3) := by decide +kernel
theorem dX7_guestsAt_21 : decode cX7_guestsAt 21 = .ok (.iload_n 2, 1) := by decide +kernel
theorem dX7_guestsAt_22 : decode cX7_guestsAt 22 = .ok (.iconst 1, 1) := by decide +kernel
theorem dX7_guestsAt_23 : decode cX7_guestsAt 23 = .ok (.iload_n 3, 1) := by decide +kernel
theorem dX7_guestsAt_24 : decode cX7_guestsAt 24 = .ok (.ishl, 1) := by decide +kernel
theorem dX7_guestsAt_25 : decode cX7_guestsAt 25 = .ok (.ior, 1) := by decide +kernel
theorem dX7_guestsAt_26 : decode cX7_guestsAt 26 = .ok (.istore_n 2, 1) := by decide +kernel
theorem dX7_guestsAt_27 : decode cX7_guestsAt 27 = .ok (.iinc 3 1, 3) := by decide +kernel
theorem dX7_guestsAt_30 : decode cX7_guestsAt 30 = .ok (.goto (-26), 3) := by decide +kernel
theorem dX7_guestsAt_33 : decode cX7_guestsAt 33 = .ok (.iload_n 2, 1) := by decide +kernel
theorem dX7_guestsAt_34 : decode cX7_guestsAt 34 = .ok (.ireturn, 1) := by decide +kernel
theorem dX7_beardsInShop_0 : decode cX7_beardsInShop 0 = .ok (.iconst 0, 1) := by decide +kernel
theorem dX7_beardsInShop_1 : decode cX7_beardsInShop 1 = .ok (.istore_n 1, 1) := by decide +kernel
theorem dX7_beardsInShop_2 : decode cX7_beardsInShop 2 = .ok (.iconst 0, 1) := by decide +kernel
theorem dX7_beardsInShop_3 : decode cX7_beardsInShop 3 = .ok (.istore_n 2, 1) := by decide +kernel
theorem dX7_beardsInShop_4 : decode cX7_beardsInShop 4 = .ok (.iload_n 2, 1) := by decide +kernel
theorem dX7_beardsInShop_5 : decode cX7_beardsInShop 5 = .ok (.aload_n 0, 1) := by decide +kernel
theorem dX7_beardsInShop_6 : decode cX7_beardsInShop 6 = .ok (.getfield 47, 3) := by decide +kernel
theorem dX7_beardsInShop_9 : decode cX7_beardsInShop 9 = .ok (.if_icmp .ge 25, 3) := by decide +kernel
theorem dX7_beardsInShop_12 : decode cX7_beardsInShop 12 = .ok (.aload_n 0, 1) := by decide +kernel
theorem dX7_beardsInShop_13 : decode cX7_beardsInShop 13 = .ok (.getfield 21, 3) := by decide +kernel
theorem dX7_beardsInShop_16 : decode cX7_beardsInShop 16 = .ok (.iload_n 2, 1) := by decide +kernel
theorem dX7_beardsInShop_17 : decode cX7_beardsInShop 17 = .ok (.iaload, 1) := by decide +kernel
theorem dX7_beardsInShop_18 : decode cX7_beardsInShop 18 = .ok (.iconst (-1), 1) := by decide +kernel
theorem dX7_beardsInShop_19 : decode cX7_beardsInShop 19 = .ok (.if_icmp .ne 9, 3) := by decide +kernel
theorem dX7_beardsInShop_22 : decode cX7_beardsInShop 22 = .ok (.iload_n 1, 1) := by decide +kernel
theorem dX7_beardsInShop_23 : decode cX7_beardsInShop 23 = .ok (.iconst 1, 1) := by decide +kernel
theorem dX7_beardsInShop_24 : decode cX7_beardsInShop 24 = .ok (.iload_n 2, 1) := by decide +kernel
theorem dX7_beardsInShop_25 : decode cX7_beardsInShop 25 = .ok (.ishl, 1) := by decide +kernel
theorem dX7_beardsInShop_26 : decode cX7_beardsInShop 26 = .ok (.ior, 1) := by decide +kernel
theorem dX7_beardsInShop_27 : decode cX7_beardsInShop 27 = .ok (.istore_n 1, 1) := by decide +kernel
theorem dX7_beardsInShop_28 : decode cX7_beardsInShop 28 = .ok (.iinc 2 1, 3) := by decide +kernel
theorem dX7_beardsInShop_31 : decode cX7_beardsInShop 31 = .ok (.goto (-27), 3) := by decide +kernel
theorem dX7_beardsInShop_34 : decode cX7_beardsInShop 34 = .ok (.iload_n 1, 1) := by decide +kernel
theorem dX7_beardsInShop_35 : decode cX7_beardsInShop 35 = .ok (.ireturn, 1) := by decide +kernel
theorem dX7_wearersInBeards_0 : decode cX7_wearersInBeards 0 = .ok (.iconst 0, 1) := by decide +kernel
theorem dX7_wearersInBeards_1 : decode cX7_wearersInBeards 1 = .ok (.istore_n 1, 1) := by decide +kernel
theorem dX7_wearersInBeards_2 : decode cX7_wearersInBeards 2 = .ok (.iconst 0, 1) := by decide +kernel
theorem dX7_wearersInBeards_3 : decode cX7_wearersInBeards 3 = .ok (.istore_n 2, 1) := by decide +kernel
theorem dX7_wearersInBeards_4 : decode cX7_wearersInBeards 4 = .ok (.iload_n 2, 1) := by decide +kernel
theorem dX7_wearersInBeards_5 : decode cX7_wearersInBeards 5 = .ok (.aload_n 0, 1) := by decide +kernel
theorem dX7_wearersInBeards_6 : decode cX7_wearersInBeards 6 = .ok (.getfield 50, 3) := by decide +kernel
theorem dX7_wearersInBeards_9 : decode cX7_wearersInBeards 9 = .ok (.if_icmp .ge 25, 3) := by decide +kernel
theorem dX7_wearersInBeards_12 : decode cX7_wearersInBeards 12 = .ok (.aload_n 0, 1) := by decide +kernel
theorem dX7_wearersInBeards_13 : decode cX7_wearersInBeards 13 = .ok (.getfield 30, 3) := by decide +kernel
theorem dX7_wearersInBeards_16 : decode cX7_wearersInBeards 16 = .ok (.iload_n 2, 1) := by decide +kernel
theorem dX7_wearersInBeards_17 : decode cX7_wearersInBeards 17 = .ok (.iaload, 1) := by decide +kernel
theorem dX7_wearersInBeards_18 : decode cX7_wearersInBeards 18 = .ok (.iconst (-1), 1) := by decide +kernel
theorem dX7_wearersInBeards_19 : decode cX7_wearersInBeards 19 = .ok (.if_icmp .eq 9, 3) := by decide +kernel
theorem dX7_wearersInBeards_22 : decode cX7_wearersInBeards 22 = .ok (.iload_n 1, 1) := by decide +kernel
theorem dX7_wearersInBeards_23 : decode cX7_wearersInBeards 23 = .ok (.iconst 1, 1) := by decide +kernel
theorem dX7_wearersInBeards_24 : decode cX7_wearersInBeards 24 = .ok (.iload_n 2, 1) := by decide +kernel
theorem dX7_wearersInBeards_25 : decode cX7_wearersInBeards 25 = .ok (.ishl, 1) := by decide +kernel
theorem dX7_wearersInBeards_26 : decode cX7_wearersInBeards 26 = .ok (.ior, 1) := by decide +kernel
theorem dX7_wearersInBeards_27 : decode cX7_wearersInBeards 27 = .ok (.istore_n 1, 1) := by decide +kernel
theorem dX7_wearersInBeards_28 : decode cX7_wearersInBeards 28 = .ok (.iinc 2 1, 3) := by decide +kernel
theorem dX7_wearersInBeards_31 : decode cX7_wearersInBeards 31 = .ok (.goto (-27), 3) := by decide +kernel
theorem dX7_wearersInBeards_34 : decode cX7_wearersInBeards 34 = .ok (.iload_n 1, 1) := by decide +kernel
theorem dX7_wearersInBeards_35 : decode cX7_wearersInBeards 35 = .ok (.ireturn, 1) := by decide +kernel
theorem dX7_allPurses_0 : decode cX7_allPurses 0 = .ok (.iconst 0, 1) := by decide +kernel
theorem dX7_allPurses_1 : decode cX7_allPurses 1 = .ok (.istore_n 1, 1) := by decide +kernel
theorem dX7_allPurses_2 : decode cX7_allPurses 2 = .ok (.iconst 0, 1) := by decide +kernel
theorem dX7_allPurses_3 : decode cX7_allPurses 3 = .ok (.istore_n 2, 1) := by decide +kernel
theorem dX7_allPurses_4 : decode cX7_allPurses 4 = .ok (.iload_n 2, 1) := by decide +kernel
theorem dX7_allPurses_5 : decode cX7_allPurses 5 = .ok (.aload_n 0, 1) := by decide +kernel
theorem dX7_allPurses_6 : decode cX7_allPurses 6 = .ok (.getfield 50, 3) := by decide +kernel
theorem dX7_allPurses_9 : decode cX7_allPurses 9 = .ok (.if_icmp .ge 18, 3) := by decide +kernel
theorem dX7_allPurses_12 : decode cX7_allPurses 12 = .ok (.iload_n 1, 1) := by decide +kernel
theorem dX7_allPurses_13 : decode cX7_allPurses 13 = .ok (.aload_n 0, 1) := by decide +kernel
theorem dX7_allPurses_14 : decode cX7_allPurses 14 = .ok (.getfield 24, 3) := by decide +kernel
theorem dX7_allPurses_17 : decode cX7_allPurses 17 = .ok (.iload_n 2, 1) := by decide +kernel
theorem dX7_allPurses_18 : decode cX7_allPurses 18 = .ok (.iaload, 1) := by decide +kernel
theorem dX7_allPurses_19 : decode cX7_allPurses 19 = .ok (.iadd, 1) := by decide +kernel
theorem dX7_allPurses_20 : decode cX7_allPurses 20 = .ok (.istore_n 1, 1) := by decide +kernel
theorem dX7_allPurses_21 : decode cX7_allPurses 21 = .ok (.iinc 2 1, 3) := by decide +kernel
theorem dX7_allPurses_24 : decode cX7_allPurses 24 = .ok (.goto (-20), 3) := by decide +kernel
theorem dX7_allPurses_27 : decode cX7_allPurses 27 = .ok (.iload_n 1, 1) := by decide +kernel
theorem dX7_allPurses_28 : decode cX7_allPurses 28 = .ok (.ireturn, 1) := by decide +kernel
theorem dX7_allHoards_0 : decode cX7_allHoards 0 = .ok (.iconst 0, 1) := by decide +kernel
theorem dX7_allHoards_1 : decode cX7_allHoards 1 = .ok (.istore_n 1, 1) := by decide +kernel
theorem dX7_allHoards_2 : decode cX7_allHoards 2 = .ok (.iconst 0, 1) := by decide +kernel
theorem dX7_allHoards_3 : decode cX7_allHoards 3 = .ok (.istore_n 2, 1) := by decide +kernel
theorem dX7_allHoards_4 : decode cX7_allHoards 4 = .ok (.iload_n 2, 1) := by decide +kernel
theorem dX7_allHoards_5 : decode cX7_allHoards 5 = .ok (.aload_n 0, 1) := by decide +kernel
theorem dX7_allHoards_6 : decode cX7_allHoards 6 = .ok (.getfield 47, 3) := by decide +kernel
theorem dX7_allHoards_9 : decode cX7_allHoards 9 = .ok (.if_icmp .ge 18, 3) := by decide +kernel
theorem dX7_allHoards_12 : decode cX7_allHoards 12 = .ok (.iload_n 1, 1) := by decide +kernel
theorem dX7_allHoards_13 : decode cX7_allHoards 13 = .ok (.aload_n 0, 1) := by decide +kernel
theorem dX7_allHoards_14 : decode cX7_allHoards 14 = .ok (.getfield 18, 3) := by decide +kernel
theorem dX7_allHoards_17 : decode cX7_allHoards 17 = .ok (.iload_n 2, 1) := by decide +kernel
theorem dX7_allHoards_18 : decode cX7_allHoards 18 = .ok (.iaload, 1) := by decide +kernel
theorem dX7_allHoards_19 : decode cX7_allHoards 19 = .ok (.iadd, 1) := by decide +kernel
theorem dX7_allHoards_20 : decode cX7_allHoards 20 = .ok (.istore_n 1, 1) := by decide +kernel
theorem dX7_allHoards_21 : decode cX7_allHoards 21 = .ok (.iinc 2 1, 3) := by decide +kernel
theorem dX7_allHoards_24 : decode cX7_allHoards 24 = .ok (.goto (-20), 3) := by decide +kernel
theorem dX7_allHoards_27 : decode cX7_allHoards 27 = .ok (.iload_n 1, 1) := by decide +kernel
theorem dX7_allHoards_28 : decode cX7_allHoards 28 = .ok (.ireturn, 1) := by decide +kernel
theorem dX6_init_0 : decode cX6_init 0 = .ok (.aload_n 0, 1) := by decide +kernel
theorem dX6_init_1 : decode cX6_init 1 = .ok (.invokespecial 3, 3) := by decide +kernel
theorem dX6_init_4 : decode cX6_init 4 = .ok (.aload_n 0, 1) := by decide +kernel
theorem dX6_init_5 : decode cX6_init 5 = .ok (.bipush 120, 2) := by decide +kernel
theorem dX6_init_7 : decode cX6_init 7 = .ok (.newarray .int, 2) := by decide +kernel
theorem dX6_init_9 : decode cX6_init 9 = .ok (.putfield 9, 3) := by decide +kernel
theorem dX6_init_12 : decode cX6_init 12 = .ok (.aload_n 0, 1) := by decide +kernel
theorem dX6_init_13 : decode cX6_init 13 = .ok (.aload_n 1, 1) := by decide +kernel
theorem dX6_init_14 : decode cX6_init 14 = .ok (.putfield 15, 3) := by decide +kernel
theorem dX6_init_17 : decode cX6_init 17 = .ok (.aload_n 0, 1) := by decide +kernel
theorem dX6_init_18 : decode cX6_init 18 = .ok (.aload_n 2, 1) := by decide +kernel
theorem dX6_init_19 : decode cX6_init 19 = .ok (.putfield 19, 3) := by decide +kernel
theorem dX6_init_22 : decode cX6_init 22 = .ok (.return_, 1) := by decide +kernel
theorem dX6_append_0 : decode cX6_append 0 = .ok (.aload_n 0, 1) := by decide +kernel
theorem dX6_append_1 : decode cX6_append 1 = .ok (.getfield 23, 3) := by decide +kernel
theorem dX6_append_4 : decode cX6_append 4 = .ok (.bipush 120, 2) := by decide +kernel
theorem dX6_append_6 : decode cX6_append 6 = .ok (.if_icmp .ge 23, 3) := by decide +kernel
theorem dX6_append_9 : decode cX6_append 9 = .ok (.aload_n 0, 1) := by decide +kernel
theorem dX6_append_10 : decode cX6_append 10 = .ok (.getfield 9, 3) := by decide +kernel
theorem dX6_append_13 : decode cX6_append 13 = .ok (.aload_n 0, 1) := by decide +kernel
theorem dX6_append_14 : decode cX6_append 14 = .ok (.getfield 23, 3) := by decide +kernel
theorem dX6_append_17 : decode cX6_append 17 = .ok (.iload_n 1, 1) := by decide +kernel
theorem dX6_append_18 : decode cX6_append 18 = .ok (.iastore, 1) := by decide +kernel
theorem dX6_append_19 : decode cX6_append 19 = .ok (.aload_n 0, 1) := by decide +kernel
theorem dX6_append_20 : decode cX6_append 20 = .ok (.dup, 1) := by decide +kernel
theorem dX6_append_21 : decode cX6_append 21 = .ok (.getfield 23, 3) := by decide +kernel
theorem dX6_append_24 : decode cX6_append 24 = .ok (.iconst 1, 1) := by decide +kernel
theorem dX6_append_25 : decode cX6_append 25 = .ok (.iadd, 1) := by decide +kernel
theorem dX6_append_26 : decode cX6_append 26 = .ok (.putfield 23, 3) := by decide +kernel
theorem dX6_append_29 : decode cX6_append 29 = .ok (.return_, 1) := by decide +kernel
theorem dX6_tellAll_0 : decode cX6_tellAll 0 = .ok (.aload_n 0, 1) := by decide +kernel
theorem dX6_tellAll_1 : decode cX6_tellAll 1 = .ok (.iconst 0, 1) := by decide +kernel
theorem dX6_tellAll_2 : decode cX6_tellAll 2 = .ok (.putfield 27, 3) := by decide +kernel
theorem dX6_tellAll_5 : decode cX6_tellAll 5 = .ok (.aload_n 0, 1) := by decide +kernel
theorem dX6_tellAll_6 : decode cX6_tellAll 6 = .ok (.invokevirtual 30, 3) := by decide +kernel
theorem dX6_tellAll_9 : decode cX6_tellAll 9 = .ok (.iconst 1, 1) := by decide +kernel
theorem dX6_tellAll_10 : decode cX6_tellAll 10 = .ok (.istore_n 1, 1) := by decide +kernel
theorem dX6_tellAll_11 : decode cX6_tellAll 11 = .ok (.iload_n 1, 1) := by decide +kernel
theorem dX6_tellAll_12 : decode cX6_tellAll 12 = .ok (.bipush 120, 2) := by decide +kernel
theorem dX6_tellAll_14 : decode cX6_tellAll 14 = .ok (.if_icmp .gt 43, 3) := by decide +kernel
theorem dX6_tellAll_17 : decode cX6_tellAll 17 = .ok (.aload_n 0, 1) := by decide +kernel
theorem dX6_tellAll_18 : decode cX6_tellAll 18 = .ok (.invokevirtual 33, 3) := by decide +kernel
theorem dX6_tellAll_21 : decode cX6_tellAll 21 = .ok (.ifCond .ne 6, 3) := by decide +kernel
theorem dX6_tellAll_24 : decode cX6_tellAll 24 = .ok (.goto 33, 3) := by decide +kernel
theorem dX6_tellAll_27 : decode cX6_tellAll 27 = .ok (.aload_n 0, 1) := by decide +kernel
theorem dX6_tellAll_28 : decode cX6_tellAll 28 = .ok (.getfield 37, 3) := by decide +kernel
theorem dX6_tellAll_31 : decode cX6_tellAll 31 = .ok (.ifCond .ne 5, 3) := by decide +kernel
theorem dX6_tellAll_34 : decode cX6_tellAll 34 = .ok (.iload_n 1, 1) := by decide +kernel
theorem dX6_tellAll_35 : decode cX6_tellAll 35 = .ok (.ireturn, 1) := by decide +kernel
theorem dX6_tellAll_36 : decode cX6_tellAll 36 = .ok (.aload_n 0, 1) := by decide +kernel
theorem dX6_tellAll_37 : decode cX6_tellAll 37 = .ok (.getfield 37, 3) := by decide +kernel
theorem dX6_tellAll_40 : decode cX6_tellAll 40 = .ok (.iconst 3, 1) := by decide +kernel
theorem dX6_tellAll_41 : decode cX6_tellAll 41 = .ok (.if_icmp .eq 6, 3) := by decide +kernel
theorem dX6_tellAll_44 : decode cX6_tellAll 44 = .ok (.goto 13, 3) := by decide +kernel
theorem dX6_tellAll_47 : decode cX6_tellAll 47 = .ok (.aload_n 0, 1) := by decide +kernel
theorem dX6_tellAll_48 : decode cX6_tellAll 48 = .ok (.invokevirtual 30, 3) := by decide +kernel
theorem dX6_tellAll_51 : decode cX6_tellAll 51 = .ok (.iinc 1 1, 3) := by decide +kernel
theorem dX6_tellAll_54 : decode cX6_tellAll 54 = .ok (.goto (-43), 3) := by decide +kernel
theorem dX6_tellAll_57 : decode cX6_tellAll 57 = .ok (.iconst (-1), 1) := by decide +kernel
theorem dX6_tellAll_58 : decode cX6_tellAll 58 = .ok (.aload_n 0, 1) := by decide +kernel
theorem dX6_tellAll_59 : decode cX6_tellAll 59 = .ok (.getfield 40, 3) := by decide +kernel
theorem dX6_tellAll_62 : decode cX6_tellAll 62 = .ok (.isub, 1) := by decide +kernel
theorem dX6_tellAll_63 : decode cX6_tellAll 63 = .ok (.ireturn, 1) := by decide +kernel
theorem dX6_tellItem_0 : decode cX6_tellItem 0 = .ok (.iconst 0, 1) := by decide +kernel
theorem dX6_tellItem_1 : decode cX6_tellItem 1 = .ok (.istore_n 1, 1) := by decide +kernel
theorem dX6_tellItem_2 : decode cX6_tellItem 2 = .ok (.iload_n 1, 1) := by decide +kernel
theorem dX6_tellItem_3 : decode cX6_tellItem 3 = .ok (.bipush 6, 2) := by decide +kernel
theorem dX6_tellItem_5 : decode cX6_tellItem 5 = .ok (.if_icmp .ge 31, 3) := by decide +kernel
theorem dX6_tellItem_8 : decode cX6_tellItem 8 = .ok (.aload_n 0, 1) := by decide +kernel
theorem dX6_tellItem_9 : decode cX6_tellItem 9 = .ok (.aload_n 0, 1) := by decide +kernel
theorem dX6_tellItem_10 : decode cX6_tellItem 10 = .ok (.getfield 15, 3) := by decide +kernel
theorem dX6_tellItem_13 : decode cX6_tellItem 13 = .ok (.iload_n 1, 1) := by decide +kernel
theorem dX6_tellItem_14 : decode cX6_tellItem 14 = .ok (.aaload, 1) := by decide +kernel
theorem dX6_tellItem_15 : decode cX6_tellItem 15 = .ok (.invokevirtual 43, 3) := by decide +kernel
theorem dX6_tellItem_18 : decode cX6_tellItem 18 = .ok (.invokevirtual 49, 3) := by decide +kernel
theorem dX6_tellItem_21 : decode cX6_tellItem 21 = .ok (.ifCond .eq 9, 3) := by decide +kernel
theorem dX6_tellItem_24 : decode cX6_tellItem 24 = .ok (.aload_n 0, 1) := by decide +kernel
theorem dX6_tellItem_25 : decode cX6_tellItem 25 = .ok (.iload_n 1, 1) := by decide +kernel
theorem dX6_tellItem_26 : decode cX6_tellItem 26 = .ok (.invokevirtual 53, 3) := by decide +kernel
theorem dX6_tellItem_29 : decode cX6_tellItem 29 = .ok (.ireturn, 1) := by decide +kernel
theorem dX6_tellItem_30 : decode cX6_tellItem 30 = .ok (.iinc 1 1, 3) := by decide +kernel
theorem dX6_tellItem_33 : decode cX6_tellItem 33 = .ok (.goto (-31), 3) := by decide +kernel
theorem dX6_tellItem_36 : decode cX6_tellItem 36 = .ok (.aload_n 0, 1) := by decide +kernel
theorem dX6_tellItem_37 : decode cX6_tellItem 37 = .ok (.ldc 57, 2) := by decide +kernel
theorem dX6_tellItem_39 : decode cX6_tellItem 39 = .ok (.invokevirtual 49, 3) := by decide +kernel
theorem dX6_tellItem_42 : decode cX6_tellItem 42 = .ok (.ifCond .eq 8, 3) := by decide +kernel
theorem dX6_tellItem_45 : decode cX6_tellItem 45 = .ok (.aload_n 0, 1) := by decide +kernel
theorem dX6_tellItem_46 : decode cX6_tellItem 46 = .ok (.invokevirtual 59, 3) := by decide +kernel
theorem dX6_tellItem_49 : decode cX6_tellItem 49 = .ok (.ireturn, 1) := by decide +kernel
theorem dX6_tellItem_50 : decode cX6_tellItem 50 = .ok (.aload_n 0, 1) := by decide +kernel
theorem dX6_tellItem_51 : decode cX6_tellItem 51 = .ok (.ldc 62, 2) := by decide +kernel
theorem dX6_tellItem_53 : decode cX6_tellItem 53 = .ok (.invokevirtual 49, 3) := by decide +kernel
theorem dX6_tellItem_56 : decode cX6_tellItem 56 = .ok (.ifCond .eq 8, 3) := by decide +kernel
theorem dX6_tellItem_59 : decode cX6_tellItem 59 = .ok (.aload_n 0, 1) := by decide +kernel
theorem dX6_tellItem_60 : decode cX6_tellItem 60 = .ok (.invokevirtual 64, 3) := by decide +kernel
theorem dX6_tellItem_63 : decode cX6_tellItem 63 = .ok (.ireturn, 1) := by decide +kernel
theorem dX6_tellItem_64 : decode cX6_tellItem 64 = .ok (.aload_n 0, 1) := by decide +kernel
theorem dX6_tellItem_65 : decode cX6_tellItem 65 = .ok (.ldc 67, 2) := by decide +kernel
theorem dX6_tellItem_67 : decode cX6_tellItem 67 = .ok (.invokevirtual 49, 3) := by decide +kernel
theorem dX6_tellItem_70 : decode cX6_tellItem 70 = .ok (.ifCond .eq 14, 3) := by decide +kernel
theorem dX6_tellItem_73 : decode cX6_tellItem 73 = .ok (.aload_n 0, 1) := by decide +kernel
theorem dX6_tellItem_74 : decode cX6_tellItem 74 = .ok (.invokevirtual 69, 3) := by decide +kernel
theorem dX6_tellItem_77 : decode cX6_tellItem 77 = .ok (.ifCond .eq 7, 3) := by decide +kernel
theorem dX6_tellItem_80 : decode cX6_tellItem 80 = .ok (.iconst 1, 1) := by decide +kernel
theorem dX6_tellItem_81 : decode cX6_tellItem 81 = .ok (.goto 4, 3) := by decide +kernel
theorem dX6_tellItem_84 : decode cX6_tellItem 84 = .ok (.iconst 0, 1) := by decide +kernel
theorem dX6_tellItem_85 : decode cX6_tellItem 85 = .ok (.ireturn, 1) := by decide +kernel
theorem dX6_tellBeard_0 : decode cX6_tellBeard 0 = .ok (.aload_n 0, 1) := by decide +kernel
theorem dX6_tellBeard_1 : decode cX6_tellBeard 1 = .ok (.getfield 19, 3) := by decide +kernel
theorem dX6_tellBeard_4 : decode cX6_tellBeard 4 = .ok (.iload_n 1, 1) := by decide +kernel
theorem dX6_tellBeard_5 : decode cX6_tellBeard 5 = .ok (.invokevirtual 72, 3) := by decide +kernel
theorem dX6_tellBeard_8 : decode cX6_tellBeard 8 = .ok (.istore_n 2, 1) := by decide +kernel
theorem dX6_tellBeard_9 : decode cX6_tellBeard 9 = .ok (.iload_n 2, 1) := by decide +kernel
theorem dX6_tellBeard_10 : decode cX6_tellBeard 10 = .ok (.ifCond .ge 5, 3) := by decide +kernel
theorem dX6_tellBeard_13 : decode cX6_tellBeard 13 = .ok (.iconst 0, 1) := by decide +kernel
theorem dX6_tellBeard_14 : decode cX6_tellBeard 14 = .ok (.ireturn, 1) := by decide +kernel
theorem dX6_tellBeard_15 : decode cX6_tellBeard 15 = .ok (.aload_n 0, 1) := by decide +kernel
theorem dX6_tellBeard_16 : decode cX6_tellBeard 16 = .ok (.invokevirtual 30, 3) := by decide +kernel
theorem dX6_tellBeard_19 : decode cX6_tellBeard 19 = .ok (.aload_n 0, 1) := by decide +kernel
theorem dX6_tellBeard_20 : decode cX6_tellBeard 20 = .ok (.ldc 78, 2) := by decide +kernel
theorem dX6_tellBeard_22 : decode cX6_tellBeard 22 = .ok (.invokevirtual 49, 3) := by decide +kernel
theorem dX6_tellBeard_25 : decode cX6_tellBeard 25 = .ok (.ifCond .eq 31, 3) := by decide +kernel
theorem dX6_tellBeard_28 : decode cX6_tellBeard 28 = .ok (.aload_n 0, 1) := by decide +kernel
theorem dX6_tellBeard_29 : decode cX6_tellBeard 29 = .ok (.invokevirtual 30, 3) := by decide +kernel
theorem dX6_tellBeard_32 : decode cX6_tellBeard 32 = .ok (.aload_n 0, 1) := by decide +kernel
theorem dX6_tellBeard_33 : decode cX6_tellBeard 33 = .ok (.bipush 99, 2) := by decide +kernel
theorem dX6_tellBeard_35 : decode cX6_tellBeard 35 = .ok (.invokevirtual 80, 3) := by decide +kernel
theorem dX6_tellBeard_38 : decode cX6_tellBeard 38 = .ok (.ifCond .ne 5, 3) := by decide +kernel
theorem dX6_tellBeard_41 : decode cX6_tellBeard 41 = .ok (.iconst 0, 1) := by decide +kernel
theorem dX6_tellBeard_42 : decode cX6_tellBeard 42 = .ok (.ireturn, 1) := by decide +kernel
theorem dX6_tellBeard_43 : decode cX6_tellBeard 43 = .ok (.aload_n 0, 1) := by decide +kernel
theorem dX6_tellBeard_44 : decode cX6_tellBeard 44 = .ok (.getfield 19, 3) := by decide +kernel
theorem dX6_tellBeard_47 : decode cX6_tellBeard 47 = .ok (.getfield 83, 3) := by decide +kernel
theorem dX6_tellBeard_50 : decode cX6_tellBeard 50 = .ok (.iload_n 2, 1) := by decide +kernel
theorem dX6_tellBeard_51 : decode cX6_tellBeard 51 = .ok (.aload_n 0, 1) := by decide +kernel
theorem dX6_tellBeard_52 : decode cX6_tellBeard 52 = .ok (.invokevirtual 86, 3) := by decide +kernel
theorem dX6_tellBeard_55 : decode cX6_tellBeard 55 = .ok (.iastore, 1) := by decide +kernel
theorem dX6_tellBeard_56 : decode cX6_tellBeard 56 = .ok (.aload_n 0, 1) := by decide +kernel
theorem dX6_tellBeard_57 : decode cX6_tellBeard 57 = .ok (.ldc 90, 2) := by decide +kernel
theorem dX6_tellBeard_59 : decode cX6_tellBeard 59 = .ok (.invokevirtual 49, 3) := by decide +kernel
theorem dX6_tellBeard_62 : decode cX6_tellBeard 62 = .ok (.ifCond .eq 32, 3) := by decide +kernel
theorem dX6_tellBeard_65 : decode cX6_tellBeard 65 = .ok (.aload_n 0, 1) := by decide +kernel
theorem dX6_tellBeard_66 : decode cX6_tellBeard 66 = .ok (.invokevirtual 30, 3) := by decide +kernel
theorem dX6_tellBeard_69 : decode cX6_tellBeard 69 = .ok (.aload_n 0, 1) := by decide +kernel
theorem dX6_tellBeard_70 : decode cX6_tellBeard 70 = .ok (.sipush 999, 3) := by decide +kernel
theorem dX6_tellBeard_73 : decode cX6_tellBeard 73 = .ok (.invokevirtual 80, 3) := by decide +kernel
theorem dX6_tellBeard_76 : decode cX6_tellBeard 76 = .ok (.ifCond .ne 5, 3) := by decide +kernel
theorem dX6_tellBeard_79 : decode cX6_tellBeard 79 = .ok (.iconst 0, 1) := by decide +kernel
theorem dX6_tellBeard_80 : decode cX6_tellBeard 80 = .ok (.ireturn, 1) := by decide +kernel
theorem dX6_tellBeard_81 : decode cX6_tellBeard 81 = .ok (.aload_n 0, 1) := by decide +kernel
theorem dX6_tellBeard_82 : decode cX6_tellBeard 82 = .ok (.getfield 19, 3) := by decide +kernel
theorem dX6_tellBeard_85 : decode cX6_tellBeard 85 = .ok (.getfield 92, 3) := by decide +kernel
theorem dX6_tellBeard_88 : decode cX6_tellBeard 88 = .ok (.iload_n 2, 1) := by decide +kernel
theorem dX6_tellBeard_89 : decode cX6_tellBeard 89 = .ok (.aload_n 0, 1) := by decide +kernel
theorem dX6_tellBeard_90 : decode cX6_tellBeard 90 = .ok (.invokevirtual 86, 3) := by decide +kernel
theorem dX6_tellBeard_93 : decode cX6_tellBeard 93 = .ok (.iastore, 1) := by decide +kernel
theorem dX6_tellBeard_94 : decode cX6_tellBeard 94 = .ok (.iconst 1, 1) := by decide +kernel
theorem dX6_tellBeard_95 : decode cX6_tellBeard 95 = .ok (.ireturn, 1) := by decide +kernel
theorem dX6_tellWearer_0 : decode cX6_tellWearer 0 = .ok (.aload_n 0, 1) := by decide +kernel
theorem dX6_tellWearer_1 : decode cX6_tellWearer 1 = .ok (.getfield 19, 3) := by decide +kernel
theorem dX6_tellWearer_4 : decode cX6_tellWearer 4 = .ok (.iconst 0, 1) := by decide +kernel
theorem dX6_tellWearer_5 : decode cX6_tellWearer 5 = .ok (.invokevirtual 95, 3) := by decide +kernel
theorem dX6_tellWearer_8 : decode cX6_tellWearer 8 = .ok (.istore_n 1, 1) := by decide +kernel
theorem dX6_tellWearer_9 : decode cX6_tellWearer 9 = .ok (.iload_n 1, 1) := by decide +kernel
theorem dX6_tellWearer_10 : decode cX6_tellWearer 10 = .ok (.ifCond .ge 5, 3) := by decide +kernel
theorem dX6_tellWearer_13 : decode cX6_tellWearer 13 = .ok (.iconst 0, 1) := by decide +kernel
theorem dX6_tellWearer_14 : decode cX6_tellWearer 14 = .ok (.ireturn, 1) := by decide +kernel
theorem dX6_tellWearer_15 : decode cX6_tellWearer 15 = .ok (.aload_n 0, 1) := by decide +kernel
theorem dX6_tellWearer_16 : decode cX6_tellWearer 16 = .ok (.invokevirtual 30, 3) := by decide +kernel
theorem dX6_tellWearer_19 : decode cX6_tellWearer 19 = .ok (.aload_n 0, 1) := by decide +kernel
theorem dX6_tellWearer_20 : decode cX6_tellWearer 20 = .ok (.sipush 9999, 3) := by decide +kernel
theorem dX6_tellWearer_23 : decode cX6_tellWearer 23 = .ok (.invokevirtual 80, 3) := by decide +kernel
theorem dX6_tellWearer_26 : decode cX6_tellWearer 26 = .ok (.ifCond .ne 5, 3) := by decide +kernel
theorem dX6_tellWearer_29 : decode cX6_tellWearer 29 = .ok (.iconst 0, 1) := by decide +kernel
theorem dX6_tellWearer_30 : decode cX6_tellWearer 30 = .ok (.ireturn, 1) := by decide +kernel
theorem dX6_tellWearer_31 : decode cX6_tellWearer 31 = .ok (.aload_n 0, 1) := by decide +kernel
theorem dX6_tellWearer_32 : decode cX6_tellWearer 32 = .ok (.getfield 19, 3) := by decide +kernel
theorem dX6_tellWearer_35 : decode cX6_tellWearer 35 = .ok (.getfield 98, 3) := by decide +kernel
theorem dX6_tellWearer_38 : decode cX6_tellWearer 38 = .ok (.iload_n 1, 1) := by decide +kernel
theorem dX6_tellWearer_39 : decode cX6_tellWearer 39 = .ok (.aload_n 0, 1) := by decide +kernel
theorem dX6_tellWearer_40 : decode cX6_tellWearer 40 = .ok (.invokevirtual 86, 3) := by decide +kernel
theorem dX6_tellWearer_43 : decode cX6_tellWearer 43 = .ok (.iastore, 1) := by decide +kernel
theorem dX6_tellWearer_44 : decode cX6_tellWearer 44 = .ok (.aload_n 0, 1) := by decide +kernel
theorem dX6_tellWearer_45 : decode cX6_tellWearer 45 = .ok (.ldc 101, 2) := by decide +kernel
theorem dX6_tellWearer_47 : decode cX6_tellWearer 47 = .ok (.invokevirtual 49, 3) := by decide +kernel
theorem dX6_tellWearer_50 : decode cX6_tellWearer 50 = .ok (.ifCond .eq 30, 3) := by decide +kernel
theorem dX6_tellWearer_53 : decode cX6_tellWearer 53 = .ok (.aload_n 0, 1) := by decide +kernel
theorem dX6_tellWearer_54 : decode cX6_tellWearer 54 = .ok (.invokevirtual 30, 3) := by decide +kernel
theorem dX6_tellWearer_57 : decode cX6_tellWearer 57 = .ok (.aload_n 0, 1) := by decide +kernel
theorem dX6_tellWearer_58 : decode cX6_tellWearer 58 = .ok (.iconst 5, 1) := by decide +kernel
theorem dX6_tellWearer_59 : decode cX6_tellWearer 59 = .ok (.invokevirtual 80, 3) := by decide +kernel
theorem dX6_tellWearer_62 : decode cX6_tellWearer 62 = .ok (.ifCond .ne 5, 3) := by decide +kernel
theorem dX6_tellWearer_65 : decode cX6_tellWearer 65 = .ok (.iconst 0, 1) := by decide +kernel
theorem dX6_tellWearer_66 : decode cX6_tellWearer 66 = .ok (.ireturn, 1) := by decide +kernel
theorem dX6_tellWearer_67 : decode cX6_tellWearer 67 = .ok (.aload_n 0, 1) := by decide +kernel
theorem dX6_tellWearer_68 : decode cX6_tellWearer 68 = .ok (.getfield 19, 3) := by decide +kernel
theorem dX6_tellWearer_71 : decode cX6_tellWearer 71 = .ok (.getfield 103, 3) := by decide +kernel
theorem dX6_tellWearer_74 : decode cX6_tellWearer 74 = .ok (.iload_n 1, 1) := by decide +kernel
theorem dX6_tellWearer_75 : decode cX6_tellWearer 75 = .ok (.aload_n 0, 1) := by decide +kernel
theorem dX6_tellWearer_76 : decode cX6_tellWearer 76 = .ok (.invokevirtual 86, 3) := by decide +kernel
theorem dX6_tellWearer_79 : decode cX6_tellWearer 79 = .ok (.iastore, 1) := by decide +kernel
theorem dX6_tellWearer_80 : decode cX6_tellWearer 80 = .ok (.iconst 1, 1) := by decide +kernel
theorem dX6_tellWearer_81 : decode cX6_tellWearer 81 = .ok (.ireturn, 1) := by decide +kernel
theorem dX6_tellHouse_0 : decode cX6_tellHouse 0 = .ok (.aload_n 0, 1) := by decide +kernel
theorem dX6_tellHouse_1 : decode cX6_tellHouse 1 = .ok (.invokevirtual 30, 3) := by decide +kernel
theorem dX6_tellHouse_4 : decode cX6_tellHouse 4 = .ok (.aload_n 0, 1) := by decide +kernel
theorem dX6_tellHouse_5 : decode cX6_tellHouse 5 = .ok (.iconst 5, 1) := by decide +kernel
theorem dX6_tellHouse_6 : decode cX6_tellHouse 6 = .ok (.invokevirtual 80, 3) := by decide +kernel
theorem dX6_tellHouse_9 : decode cX6_tellHouse 9 = .ok (.ifCond .ne 5, 3) := by decide +kernel
theorem dX6_tellHouse_12 : decode cX6_tellHouse 12 = .ok (.iconst 0, 1) := by decide +kernel
theorem dX6_tellHouse_13 : decode cX6_tellHouse 13 = .ok (.ireturn, 1) := by decide +kernel
theorem dX6_tellHouse_14 : decode cX6_tellHouse 14 = .ok (.aload_n 0, 1) := by decide +kernel
theorem dX6_tellHouse_15 : decode cX6_tellHouse 15 = .ok (.invokevirtual 86, 3) := by decide +kernel
theorem dX6_tellHouse_18 : decode cX6_tellHouse 18 = .ok (.istore_n 1, 1) := by decide +kernel
theorem dX6_tellHouse_19 : decode cX6_tellHouse 19 = .ok (.aload_n 0, 1) := by decide +kernel
theorem dX6_tellHouse_20 : decode cX6_tellHouse 20 = .ok (.ldc 106, 2) := by decide +kernel
theorem dX6_tellHouse_22 : decode cX6_tellHouse 22 = .ok (.invokevirtual 49, 3) := by decide +kernel
theorem dX6_tellHouse_25 : decode cX6_tellHouse 25 = .ok (.istore_n 2, 1) := by decide +kernel
theorem dX6_tellHouse_26 : decode cX6_tellHouse 26 = .ok (.iload_n 2, 1) := by decide +kernel
theorem dX6_tellHouse_27 : decode cX6_tellHouse 27 = .ok (.ifCond .ne 14, 3) := by decide +kernel
theorem dX6_tellHouse_30 : decode cX6_tellHouse 30 = .ok (.aload_n 0, 1) := by decide +kernel
theorem dX6_tellHouse_31 : decode cX6_tellHouse 31 = .ok (.ldc 108, 2) := by decide +kernel
theorem dX6_tellHouse_33 : decode cX6_tellHouse 33 = .ok (.invokevirtual 49, 3) := by decide +kernel
theorem dX6_tellHouse_36 : decode cX6_tellHouse 36 = .ok (.ifCond .ne 5, 3) := by decide +kernel
theorem dX6_tellHouse_39 : decode cX6_tellHouse 39 = .ok (.iconst 0, 1) := by decide +kernel
theorem dX6_tellHouse_40 : decode cX6_tellHouse 40 = .ok (.ireturn, 1) := by decide +kernel
theorem dX6_tellHouse_41 : decode cX6_tellHouse 41 = .ok (.aload_n 0, 1) := by decide +kernel
theorem dX6_tellHouse_42 : decode cX6_tellHouse 42 = .ok (.invokevirtual 30, 3) := by decide +kernel
theorem dX6_tellHouse_45 : decode cX6_tellHouse 45 = .ok (.aload_n 0, 1) := by decide +kernel
theorem dX6_tellHouse_46 : decode cX6_tellHouse 46 = .ok (.bipush 50, 2) := by decide +kernel
theorem dX6_tellHouse_48 : decode cX6_tellHouse 48 = .ok (.invokevirtual 80, 3) := by decide +kernel
theorem dX6_tellHouse_51 : decode cX6_tellHouse 51 = .ok (.ifCond .ne 5, 3) := by decide +kernel
theorem dX6_tellHouse_54 : decode cX6_tellHouse 54 = .ok (.iconst 0, 1) := by decide +kernel
theorem dX6_tellHouse_55 : decode cX6_tellHouse 55 = .ok (.ireturn, 1) := by decide +kernel
theorem dX6_tellHouse_56 : decode cX6_tellHouse 56 = .ok (.aload_n 0, 1) := by decide +kernel
theorem dX6_tellHouse_57 : decode cX6_tellHouse 57 = .ok (.invokevirtual 86, 3) := by decide +kernel
theorem dX6_tellHouse_60 : decode cX6_tellHouse 60 = .ok (.istore_n 3, 1) := by decide +kernel
theorem dX6_tellHouse_61 : decode cX6_tellHouse 61 = .ok (.aload_n 0, 1) := by decide +kernel
theorem dX6_tellHouse_62 : decode cX6_tellHouse 62 = .ok (.getfield 19, 3) := by decide +kernel
theorem dX6_tellHouse_65 : decode cX6_tellHouse 65 = .ok (.getfield 110, 3) := by decide +kernel
theorem dX6_tellHouse_68 : decode cX6_tellHouse 68 = .ok (.iload_n 1, 1) := by decide +kernel
theorem dX6_tellHouse_69 : decode cX6_tellHouse 69 = .ok (.iload_n 2, 1) := by decide +kernel
theorem dX6_tellHouse_70 : decode cX6_tellHouse 70 = .ok (.ifCond .eq 8, 3) := by decide +kernel
theorem dX6_tellHouse_73 : decode cX6_tellHouse 73 = .ok (.iload_n 3, 1) := by decide +kernel
theorem dX6_tellHouse_74 : decode cX6_tellHouse 74 = .ok (.ineg, 1) := by decide +kernel
theorem dX6_tellHouse_75 : decode cX6_tellHouse 75 = .ok (.goto 4, 3) := by decide +kernel
theorem dX6_tellHouse_78 : decode cX6_tellHouse 78 = .ok (.iload_n 3, 1) := by decide +kernel
theorem dX6_tellHouse_79 : decode cX6_tellHouse 79 = .ok (.iastore, 1) := by decide +kernel
theorem dX6_tellHouse_80 : decode cX6_tellHouse 80 = .ok (.iconst 1, 1) := by decide +kernel
theorem dX6_tellHouse_81 : decode cX6_tellHouse 81 = .ok (.ireturn, 1) := by decide +kernel
theorem dX6_tellHire_0 : decode cX6_tellHire 0 = .ok (.aload_n 0, 1) := by decide +kernel
theorem dX6_tellHire_1 : decode cX6_tellHire 1 = .ok (.invokevirtual 30, 3) := by decide +kernel
theorem dX6_tellHire_4 : decode cX6_tellHire 4 = .ok (.aload_n 0, 1) := by decide +kernel
theorem dX6_tellHire_5 : decode cX6_tellHire 5 = .ok (.aload_n 0, 1) := by decide +kernel
theorem dX6_tellHire_6 : decode cX6_tellHire 6 = .ok (.getfield 19, 3) := by decide +kernel
theorem dX6_tellHire_9 : decode cX6_tellHire 9 = .ok (.getfield 113, 3) := by decide +kernel
theorem dX6_tellHire_12 : decode cX6_tellHire 12 = .ok (.iconst 1, 1) := by decide +kernel
theorem dX6_tellHire_13 : decode cX6_tellHire 13 = .ok (.isub, 1) := by decide +kernel
theorem dX6_tellHire_14 : decode cX6_tellHire 14 = .ok (.invokevirtual 80, 3) := by decide +kernel
theorem dX6_tellHire_17 : decode cX6_tellHire 17 = .ok (.ifCond .eq 19, 3) := by decide +kernel
theorem dX6_tellHire_20 : decode cX6_tellHire 20 = .ok (.aload_n 0, 1) := by decide +kernel
theorem dX6_tellHire_21 : decode cX6_tellHire 21 = .ok (.getfield 19, 3) := by decide +kernel
theorem dX6_tellHire_24 : decode cX6_tellHire 24 = .ok (.getfield 116, 3) := by decide +kernel
theorem dX6_tellHire_27 : decode cX6_tellHire 27 = .ok (.aload_n 0, 1) := by decide +kernel
theorem dX6_tellHire_28 : decode cX6_tellHire 28 = .ok (.getfield 119, 3) := by decide +kernel
theorem dX6_tellHire_31 : decode cX6_tellHire 31 = .ok (.iaload, 1) := by decide +kernel
theorem dX6_tellHire_32 : decode cX6_tellHire 32 = .ok (.iconst (-1), 1) := by decide +kernel
theorem dX6_tellHire_33 : decode cX6_tellHire 33 = .ok (.if_icmp .eq 5, 3) := by decide +kernel
theorem dX6_tellHire_36 : decode cX6_tellHire 36 = .ok (.iconst 0, 1) := by decide +kernel
theorem dX6_tellHire_37 : decode cX6_tellHire 37 = .ok (.ireturn, 1) := by decide +kernel
theorem dX6_tellHire_38 : decode cX6_tellHire 38 = .ok (.aload_n 0, 1) := by decide +kernel
theorem dX6_tellHire_39 : decode cX6_tellHire 39 = .ok (.invokevirtual 86, 3) := by decide +kernel
theorem dX6_tellHire_42 : decode cX6_tellHire 42 = .ok (.istore_n 1, 1) := by decide +kernel
theorem dX6_tellHire_43 : decode cX6_tellHire 43 = .ok (.aload_n 0, 1) := by decide +kernel
theorem dX6_tellHire_44 : decode cX6_tellHire 44 = .ok (.aload_n 0, 1) := by decide +kernel
theorem dX6_tellHire_45 : decode cX6_tellHire 45 = .ok (.getfield 19, 3) := by decide +kernel
theorem dX6_tellHire_48 : decode cX6_tellHire 48 = .ok (.getfield 122, 3) := by decide +kernel
theorem dX6_tellHire_51 : decode cX6_tellHire 51 = .ok (.iconst 1, 1) := by decide +kernel
theorem dX6_tellHire_52 : decode cX6_tellHire 52 = .ok (.isub, 1) := by decide +kernel
theorem dX6_tellHire_53 : decode cX6_tellHire 53 = .ok (.invokevirtual 80, 3) := by decide +kernel
theorem dX6_tellHire_56 : decode cX6_tellHire 56 = .ok (.ifCond .eq 19, 3) := by decide +kernel
theorem dX6_tellHire_59 : decode cX6_tellHire 59 = .ok (.aload_n 0, 1) := by decide +kernel
theorem dX6_tellHire_60 : decode cX6_tellHire 60 = .ok (.getfield 19, 3) := by decide +kernel
theorem dX6_tellHire_63 : decode cX6_tellHire 63 = .ok (.getfield 125, 3) := by decide +kernel
theorem dX6_tellHire_66 : decode cX6_tellHire 66 = .ok (.aload_n 0, 1) := by decide +kernel
theorem dX6_tellHire_67 : decode cX6_tellHire 67 = .ok (.getfield 119, 3) := by decide +kernel
theorem dX6_tellHire_70 : decode cX6_tellHire 70 = .ok (.iaload, 1) := by decide +kernel
theorem dX6_tellHire_71 : decode cX6_tellHire 71 = .ok (.iconst (-1), 1) := by decide +kernel
theorem dX6_tellHire_72 : decode cX6_tellHire 72 = .ok (.if_icmp .eq 5, 3) := by decide +kernel
theorem dX6_tellHire_75 : decode cX6_tellHire 75 = .ok (.iconst 0, 1) := by decide +kernel
theorem dX6_tellHire_76 : decode cX6_tellHire 76 = .ok (.ireturn, 1) := by decide +kernel
theorem dX6_tellHire_77 : decode cX6_tellHire 77 = .ok (.aload_n 0, 1) := by decide +kernel
theorem dX6_tellHire_78 : decode cX6_tellHire 78 = .ok (.getfield 19, 3) := by decide +kernel
theorem dX6_tellHire_81 : decode cX6_tellHire 81 = .ok (.iload_n 1, 1) := by decide +kernel
theorem dX6_tellHire_82 : decode cX6_tellHire 82 = .ok (.aload_n 0, 1) := by decide +kernel
theorem dX6_tellHire_83 : decode cX6_tellHire 83 = .ok (.invokevirtual 86, 3) := by decide +kernel
theorem dX6_tellHire_86 : decode cX6_tellHire 86 = .ok (.invokevirtual 128, 3) := by decide +kernel
theorem dX6_tellHire_89 : decode cX6_tellHire 89 = .ok (.iconst 1, 1) := by decide +kernel
theorem dX6_tellHire_90 : decode cX6_tellHire 90 = .ok (.ireturn, 1) := by decide +kernel
theorem dX6_isWord_0 : decode cX6_isWord 0 = .ok (.aload_n 0, 1) := by decide +kernel
theorem dX6_isWord_1 : decode cX6_isWord 1 = .ok (.getfield 37, 3) := by decide +kernel
theorem dX6_isWord_4 : decode cX6_isWord 4 = .ok (.iconst 1, 1) := by decide +kernel
theorem dX6_isWord_5 : decode cX6_isWord 5 = .ok (.if_icmp .ne 19, 3) := by decide +kernel
theorem dX6_isWord_8 : decode cX6_isWord 8 = .ok (.aload_n 0, 1) := by decide +kernel
theorem dX6_isWord_9 : decode cX6_isWord 9 = .ok (.getfield 27, 3) := by decide +kernel
theorem dX6_isWord_12 : decode cX6_isWord 12 = .ok (.aload_n 0, 1) := by decide +kernel
theorem dX6_isWord_13 : decode cX6_isWord 13 = .ok (.getfield 40, 3) := by decide +kernel
theorem dX6_isWord_16 : decode cX6_isWord 16 = .ok (.isub, 1) := by decide +kernel
theorem dX6_isWord_17 : decode cX6_isWord 17 = .ok (.aload_n 1, 1) := by decide +kernel
theorem dX6_isWord_18 : decode cX6_isWord 18 = .ok (.invokevirtual 132, 3) := by decide +kernel
theorem dX6_isWord_21 : decode cX6_isWord 21 = .ok (.if_icmp .eq 5, 3) := by decide +kernel
theorem dX6_isWord_24 : decode cX6_isWord 24 = .ok (.iconst 0, 1) := by decide +kernel
theorem dX6_isWord_25 : decode cX6_isWord 25 = .ok (.ireturn, 1) := by decide +kernel
theorem dX6_isWord_26 : decode cX6_isWord 26 = .ok (.iconst 0, 1) := by decide +kernel
theorem dX6_isWord_27 : decode cX6_isWord 27 = .ok (.istore_n 2, 1) := by decide +kernel
theorem dX6_isWord_28 : decode cX6_isWord 28 = .ok (.iload_n 2, 1) := by decide +kernel
theorem dX6_isWord_29 : decode cX6_isWord 29 = .ok (.aload_n 1, 1) := by decide +kernel
theorem dX6_isWord_30 : decode cX6_isWord 30 = .ok (.invokevirtual 132, 3) := by decide +kernel
theorem dX6_isWord_33 : decode cX6_isWord 33 = .ok (.if_icmp .ge 30, 3) := by decide +kernel
theorem dX6_isWord_36 : decode cX6_isWord 36 = .ok (.aload_n 0, 1) := by decide +kernel
theorem dX6_isWord_37 : decode cX6_isWord 37 = .ok (.getfield 9, 3) := by decide +kernel
theorem dX6_isWord_40 : decode cX6_isWord 40 = .ok (.aload_n 0, 1) := by decide +kernel
theorem dX6_isWord_41 : decode cX6_isWord 41 = .ok (.getfield 40, 3) := by decide +kernel
theorem dX6_isWord_44 : decode cX6_isWord 44 = .ok (.iload_n 2, 1) := by decide +kernel
theorem dX6_isWord_45 : decode cX6_isWord 45 = .ok (.iadd, 1) := by decide +kernel
theorem dX6_isWord_46 : decode cX6_isWord 46 = .ok (.iaload, 1) := by decide +kernel
theorem dX6_isWord_47 : decode cX6_isWord 47 = .ok (.aload_n 1, 1) := by decide +kernel
theorem dX6_isWord_48 : decode cX6_isWord 48 = .ok (.iload_n 2, 1) := by decide +kernel
theorem dX6_isWord_49 : decode cX6_isWord 49 = .ok (.invokevirtual 136, 3) := by decide +kernel
theorem dX6_isWord_52 : decode cX6_isWord 52 = .ok (.if_icmp .eq 5, 3) := by decide +kernel
theorem dX6_isWord_55 : decode cX6_isWord 55 = .ok (.iconst 0, 1) := by decide +kernel
theorem dX6_isWord_56 : decode cX6_isWord 56 = .ok (.ireturn, 1) := by decide +kernel
theorem dX6_isWord_57 : decode cX6_isWord 57 = .ok (.iinc 2 1, 3) := by decide +kernel
theorem dX6_isWord_60 : decode cX6_isWord 60 = .ok (.goto (-32), 3) := by decide +kernel
theorem dX6_isWord_63 : decode cX6_isWord 63 = .ok (.iconst 1, 1) := by decide +kernel
theorem dX6_isWord_64 : decode cX6_isWord 64 = .ok (.ireturn, 1) := by decide +kernel
theorem dX6_isNumber_0 : decode cX6_isNumber 0 = .ok (.aload_n 0, 1) := by decide +kernel
theorem dX6_isNumber_1 : decode cX6_isNumber 1 = .ok (.getfield 37, 3) := by decide +kernel
theorem dX6_isNumber_4 : decode cX6_isNumber 4 = .ok (.iconst 2, 1) := by decide +kernel
theorem dX6_isNumber_5 : decode cX6_isNumber 5 = .ok (.if_icmp .ne 15, 3) := by decide +kernel
theorem dX6_isNumber_8 : decode cX6_isNumber 8 = .ok (.aload_n 0, 1) := by decide +kernel
theorem dX6_isNumber_9 : decode cX6_isNumber 9 = .ok (.getfield 119, 3) := by decide +kernel
theorem dX6_isNumber_12 : decode cX6_isNumber 12 = .ok (.iload_n 1, 1) := by decide +kernel
theorem dX6_isNumber_13 : decode cX6_isNumber 13 = .ok (.if_icmp .gt 7, 3) := by decide +kernel
theorem dX6_isNumber_16 : decode cX6_isNumber 16 = .ok (.iconst 1, 1) := by decide +kernel
theorem dX6_isNumber_17 : decode cX6_isNumber 17 = .ok (.goto 4, 3) := by decide +kernel
theorem dX6_isNumber_20 : decode cX6_isNumber 20 = .ok (.iconst 0, 1) := by decide +kernel
theorem dX6_isNumber_21 : decode cX6_isNumber 21 = .ok (.ireturn, 1) := by decide +kernel
theorem dX6_takeNumber_0 : decode cX6_takeNumber 0 = .ok (.aload_n 0, 1) := by decide +kernel
theorem dX6_takeNumber_1 : decode cX6_takeNumber 1 = .ok (.getfield 119, 3) := by decide +kernel
theorem dX6_takeNumber_4 : decode cX6_takeNumber 4 = .ok (.istore_n 1, 1) := by decide +kernel
theorem dX6_takeNumber_5 : decode cX6_takeNumber 5 = .ok (.aload_n 0, 1) := by decide +kernel
theorem dX6_takeNumber_6 : decode cX6_takeNumber 6 = .ok (.invokevirtual 30, 3) := by decide +kernel
theorem dX6_takeNumber_9 : decode cX6_takeNumber 9 = .ok (.iload_n 1, 1) := by decide +kernel
theorem dX6_takeNumber_10 : decode cX6_takeNumber 10 = .ok (.ireturn, 1) := by decide +kernel
theorem dX6_advance_0 : decode cX6_advance 0 = .ok (.aload_n 0, 1) := by decide +kernel
theorem dX6_advance_1 : decode cX6_advance 1 = .ok (.aload_n 0, 1) := by decide +kernel
theorem dX6_advance_2 : decode cX6_advance 2 = .ok (.getfield 27, 3) := by decide +kernel
theorem dX6_advance_5 : decode cX6_advance 5 = .ok (.putfield 40, 3) := by decide +kernel
theorem dX6_advance_8 : decode cX6_advance 8 = .ok (.aload_n 0, 1) := by decide +kernel
theorem dX6_advance_9 : decode cX6_advance 9 = .ok (.getfield 40, 3) := by decide +kernel
theorem dX6_advance_12 : decode cX6_advance 12 = .ok (.aload_n 0, 1) := by decide +kernel
theorem dX6_advance_13 : decode cX6_advance 13 = .ok (.getfield 23, 3) := by decide +kernel
theorem dX6_advance_16 : decode cX6_advance 16 = .ok (.if_icmp .ge 30, 3) := by decide +kernel
theorem dX6_advance_19 : decode cX6_advance 19 = .ok (.aload_n 0, 1) := by decide +kernel
theorem dX6_advance_20 : decode cX6_advance 20 = .ok (.getfield 9, 3) := by decide +kernel
theorem dX6_advance_23 : decode cX6_advance 23 = .ok (.aload_n 0, 1) := by decide +kernel
theorem dX6_advance_24 : decode cX6_advance 24 = .ok (.getfield 40, 3) := by decide +kernel
theorem dX6_advance_27 : decode cX6_advance 27 = .ok (.iaload, 1) := by decide +kernel
theorem dX6_advance_28 : decode cX6_advance 28 = .ok (.bipush 32, 2) := by decide +kernel
theorem dX6_advance_30 : decode cX6_advance 30 = .ok (.if_icmp .ne 16, 3) := by decide +kernel
theorem dX6_advance_33 : decode cX6_advance 33 = .ok (.aload_n 0, 1) := by decide +kernel
theorem dX6_advance_34 : decode cX6_advance 34 = .ok (.dup, 1) := by decide +kernel
theorem dX6_advance_35 : decode cX6_advance 35 = .ok (.getfield 40, 3) := by decide +kernel
theorem dX6_advance_38 : decode cX6_advance 38 = .ok (.iconst 1, 1) := by decide +kernel
theorem dX6_advance_39 : decode cX6_advance 39 = .ok (.iadd, 1) := by decide +kernel
theorem dX6_advance_40 : decode cX6_advance 40 = .ok (.putfield 40, 3) := by decide +kernel
theorem dX6_advance_43 : decode cX6_advance 43 = .ok (.goto (-35), 3) := by decide +kernel
theorem dX6_advance_46 : decode cX6_advance 46 = .ok (.aload_n 0, 1) := by decide +kernel
theorem dX6_advance_47 : decode cX6_advance 47 = .ok (.aload_n 0, 1) := by decide +kernel
theorem dX6_advance_48 : decode cX6_advance 48 = .ok (.getfield 40, 3) := by decide +kernel
theorem dX6_advance_51 : decode cX6_advance 51 = .ok (.putfield 27, 3) := by decide +kernel
theorem dX6_advance_54 : decode cX6_advance 54 = .ok (.aload_n 0, 1) := by decide +kernel
theorem dX6_advance_55 : decode cX6_advance 55 = .ok (.getfield 40, 3) := by decide +kernel
theorem dX6_advance_58 : decode cX6_advance 58 = .ok (.aload_n 0, 1) := by decide +kernel
theorem dX6_advance_59 : decode cX6_advance 59 = .ok (.getfield 23, 3) := by decide +kernel
theorem dX6_advance_62 : decode cX6_advance 62 = .ok (.if_icmp .lt 11, 3) := by decide +kernel
theorem dX6_advance_65 : decode cX6_advance 65 = .ok (.aload_n 0, 1) := by decide +kernel
theorem dX6_advance_66 : decode cX6_advance 66 = .ok (.iconst 0, 1) := by decide +kernel
theorem dX6_advance_67 : decode cX6_advance 67 = .ok (.putfield 37, 3) := by decide +kernel
theorem dX6_advance_70 : decode cX6_advance 70 = .ok (.goto 189, 3) := by decide +kernel
theorem dX6_advance_73 : decode cX6_advance 73 = .ok (.aload_n 0, 1) := by decide +kernel
theorem dX6_advance_74 : decode cX6_advance 74 = .ok (.getfield 9, 3) := by decide +kernel
theorem dX6_advance_77 : decode cX6_advance 77 = .ok (.aload_n 0, 1) := by decide +kernel
theorem dX6_advance_78 : decode cX6_advance 78 = .ok (.getfield 40, 3) := by decide +kernel
theorem dX6_advance_81 : decode cX6_advance 81 = .ok (.iaload, 1) := by decide +kernel
theorem dX6_advance_82 : decode cX6_advance 82 = .ok (.invokestatic 140, 3) := by decide +kernel
theorem dX6_advance_85 : decode cX6_advance 85 = .ok (.ifCond .eq 47, 3) := by decide +kernel
theorem dX6_advance_88 : decode cX6_advance 88 = .ok (.aload_n 0, 1) := by decide +kernel
theorem dX6_advance_89 : decode cX6_advance 89 = .ok (.iconst 1, 1) := by decide +kernel
theorem dX6_advance_90 : decode cX6_advance 90 = .ok (.putfield 37, 3) := by decide +kernel
theorem dX6_advance_93 : decode cX6_advance 93 = .ok (.aload_n 0, 1) := by decide +kernel
theorem dX6_advance_94 : decode cX6_advance 94 = .ok (.getfield 27, 3) := by decide +kernel
theorem dX6_advance_97 : decode cX6_advance 97 = .ok (.aload_n 0, 1) := by decide +kernel
theorem dX6_advance_98 : decode cX6_advance 98 = .ok (.getfield 23, 3) := by decide +kernel
theorem dX6_advance_101 : decode cX6_advance 101 = .ok (.if_icmp .ge 158, 3) := by decide +kernel
theorem dX6_advance_104 : decode cX6_advance 104 = .ok (.aload_n 0, 1) := by decide +kernel
theorem dX6_advance_105 : decode cX6_advance 105 = .ok (.getfield 9, 3) := by decide +kernel
theorem dX6_advance_108 : decode cX6_advance 108 = .ok (.aload_n 0, 1) := by decide +kernel
theorem dX6_advance_109 : decode cX6_advance 109 = .ok (.getfield 27, 3) := by decide +kernel
theorem dX6_advance_112 : decode cX6_advance 112 = .ok (.iaload, 1) := by decide +kernel
theorem dX6_advance_113 : decode cX6_advance 113 = .ok (.invokestatic 140, 3) := by decide +kernel
theorem dX6_advance_116 : decode cX6_advance 116 = .ok (.ifCond .eq 143, 3) := by decide +kernel
theorem dX6_advance_119 : decode cX6_advance 119 = .ok (.aload_n 0, 1) := by decide +kernel
theorem dX6_advance_120 : decode cX6_advance 120 = .ok (.dup, 1) := by decide +kernel
theorem dX6_advance_121 : decode cX6_advance 121 = .ok (.getfield 27, 3) := by decide +kernel
theorem dX6_advance_124 : decode cX6_advance 124 = .ok (.iconst 1, 1) := by decide +kernel
theorem dX6_advance_125 : decode cX6_advance 125 = .ok (.iadd, 1) := by decide +kernel
theorem dX6_advance_126 : decode cX6_advance 126 = .ok (.putfield 27, 3) := by decide +kernel
theorem dX6_advance_129 : decode cX6_advance 129 = .ok (.goto (-36), 3) := by decide +kernel
theorem dX6_advance_132 : decode cX6_advance 132 = .ok (.aload_n 0, 1) := by decide +kernel
theorem dX6_advance_133 : decode cX6_advance 133 = .ok (.getfield 9, 3) := by decide +kernel
theorem dX6_advance_136 : decode cX6_advance 136 = .ok (.aload_n 0, 1) := by decide +kernel
theorem dX6_advance_137 : decode cX6_advance 137 = .ok (.getfield 40, 3) := by decide +kernel
theorem dX6_advance_140 : decode cX6_advance 140 = .ok (.iaload, 1) := by decide +kernel
theorem dX6_advance_141 : decode cX6_advance 141 = .ok (.invokestatic 143, 3) := by decide +kernel
theorem dX6_advance_144 : decode cX6_advance 144 = .ok (.ifCond .eq 82, 3) := by decide +kernel
theorem dX6_advance_147 : decode cX6_advance 147 = .ok (.aload_n 0, 1) := by decide +kernel
theorem dX6_advance_148 : decode cX6_advance 148 = .ok (.iconst 2, 1) := by decide +kernel
theorem dX6_advance_149 : decode cX6_advance 149 = .ok (.putfield 37, 3) := by decide +kernel
theorem dX6_advance_152 : decode cX6_advance 152 = .ok (.aload_n 0, 1) := by decide +kernel
theorem dX6_advance_153 : decode cX6_advance 153 = .ok (.iconst 0, 1) := by decide +kernel
theorem dX6_advance_154 : decode cX6_advance 154 = .ok (.putfield 119, 3) := by decide +kernel
theorem dX6_advance_157 : decode cX6_advance 157 = .ok (.aload_n 0, 1) := by decide +kernel
theorem dX6_advance_158 : decode cX6_advance 158 = .ok (.getfield 27, 3) := by decide +kernel
theorem dX6_advance_161 : decode cX6_advance 161 = .ok (.aload_n 0, 1) := by decide +kernel
theorem dX6_advance_162 : decode cX6_advance 162 = .ok (.getfield 23, 3) := by decide +kernel
theorem dX6_advance_165 : decode cX6_advance 165 = .ok (.if_icmp .ge 94, 3) := by decide +kernel
theorem dX6_advance_168 : decode cX6_advance 168 = .ok (.aload_n 0, 1) := by decide +kernel
theorem dX6_advance_169 : decode cX6_advance 169 = .ok (.getfield 9, 3) := by decide +kernel
theorem dX6_advance_172 : decode cX6_advance 172 = .ok (.aload_n 0, 1) := by decide +kernel
theorem dX6_advance_173 : decode cX6_advance 173 = .ok (.getfield 27, 3) := by decide +kernel
theorem dX6_advance_176 : decode cX6_advance 176 = .ok (.iaload, 1) := by decide +kernel
theorem dX6_advance_177 : decode cX6_advance 177 = .ok (.invokestatic 143, 3) := by decide +kernel
theorem dX6_advance_180 : decode cX6_advance 180 = .ok (.ifCond .eq 79, 3) := by decide +kernel
theorem dX6_advance_183 : decode cX6_advance 183 = .ok (.aload_n 0, 1) := by decide +kernel
theorem dX6_advance_184 : decode cX6_advance 184 = .ok (.sipush 10000, 3) := by decide +kernel
theorem dX6_advance_187 : decode cX6_advance 187 = .ok (.aload_n 0, 1) := by decide +kernel
theorem dX6_advance_188 : decode cX6_advance 188 = .ok (.getfield 119, 3) := by decide +kernel
theorem dX6_advance_191 : decode cX6_advance 191 = .ok (.bipush 10, 2) := by decide +kernel
theorem dX6_advance_193 : decode cX6_advance 193 = .ok (.imul, 1) := by decide +kernel
theorem dX6_advance_194 : decode cX6_advance 194 = .ok (.aload_n 0, 1) := by decide +kernel
theorem dX6_advance_195 : decode cX6_advance 195 = .ok (.getfield 9, 3) := by decide +kernel
theorem dX6_advance_198 : decode cX6_advance 198 = .ok (.aload_n 0, 1) := by decide +kernel
theorem dX6_advance_199 : decode cX6_advance 199 = .ok (.getfield 27, 3) := by decide +kernel
theorem dX6_advance_202 : decode cX6_advance 202 = .ok (.iaload, 1) := by decide +kernel
theorem dX6_advance_203 : decode cX6_advance 203 = .ok (.iadd, 1) := by decide +kernel
theorem dX6_advance_204 : decode cX6_advance 204 = .ok (.bipush 48, 2) := by decide +kernel
theorem dX6_advance_206 : decode cX6_advance 206 = .ok (.isub, 1) := by decide +kernel
theorem dX6_advance_207 : decode cX6_advance 207 = .ok (.invokestatic 146, 3) := by decide +kernel
theorem dX6_advance_210 : decode cX6_advance 210 = .ok (.putfield 119, 3) := by decide +kernel
theorem dX6_advance_213 : decode cX6_advance 213 = .ok (.aload_n 0, 1) := by decide +kernel
theorem dX6_advance_214 : decode cX6_advance 214 = .ok (.dup, 1) := by decide +kernel
theorem dX6_advance_215 : decode cX6_advance 215 = .ok (.getfield 27, 3) := by decide +kernel
theorem dX6_advance_218 : decode cX6_advance 218 = .ok (.iconst 1, 1) := by decide +kernel
theorem dX6_advance_219 : decode cX6_advance 219 = .ok (.iadd, 1) := by decide +kernel
theorem dX6_advance_220 : decode cX6_advance 220 = .ok (.putfield 27, 3) := by decide +kernel
theorem dX6_advance_223 : decode cX6_advance 223 = .ok (.goto (-66), 3) := by decide +kernel
theorem dX6_advance_226 : decode cX6_advance 226 = .ok (.aload_n 0, 1) := by decide +kernel
theorem dX6_advance_227 : decode cX6_advance 227 = .ok (.aload_n 0, 1) := by decide +kernel
theorem dX6_advance_228 : decode cX6_advance 228 = .ok (.getfield 9, 3) := by decide +kernel
theorem dX6_advance_231 : decode cX6_advance 231 = .ok (.aload_n 0, 1) := by decide +kernel
theorem dX6_advance_232 : decode cX6_advance 232 = .ok (.getfield 40, 3) := by decide +kernel
theorem dX6_advance_235 : decode cX6_advance 235 = .ok (.iaload, 1) := by decide +kernel
theorem dX6_advance_236 : decode cX6_advance 236 = .ok (.bipush 59, 2) := by decide +kernel
theorem dX6_advance_238 : decode cX6_advance 238 = .ok (.if_icmp .ne 7, 3) := by decide +kernel
theorem dX6_advance_241 : decode cX6_advance 241 = .ok (.iconst 3, 1) := by decide +kernel
theorem dX6_advance_242 : decode cX6_advance 242 = .ok (.goto 4, 3) := by decide +kernel
theorem dX6_advance_245 : decode cX6_advance 245 = .ok (.iconst 4, 1) := by decide +kernel
theorem dX6_advance_246 : decode cX6_advance 246 = .ok (.putfield 37, 3) := by decide +kernel
theorem dX6_advance_249 : decode cX6_advance 249 = .ok (.aload_n 0, 1) := by decide +kernel
theorem dX6_advance_250 : decode cX6_advance 250 = .ok (.dup, 1) := by decide +kernel
theorem dX6_advance_251 : decode cX6_advance 251 = .ok (.getfield 27, 3) := by decide +kernel
theorem dX6_advance_254 : decode cX6_advance 254 = .ok (.iconst 1, 1) := by decide +kernel
theorem dX6_advance_255 : decode cX6_advance 255 = .ok (.iadd, 1) := by decide +kernel
theorem dX6_advance_256 : decode cX6_advance 256 = .ok (.putfield 27, 3) := by decide +kernel
theorem dX6_advance_259 : decode cX6_advance 259 = .ok (.return_, 1) := by decide +kernel
theorem dX6_isLetter_0 : decode cX6_isLetter 0 = .ok (.iload_n 0, 1) := by decide +kernel
theorem dX6_isLetter_1 : decode cX6_isLetter 1 = .ok (.bipush 97, 2) := by decide +kernel
theorem dX6_isLetter_3 : decode cX6_isLetter 3 = .ok (.if_icmp .lt 13, 3) := by decide +kernel
theorem dX6_isLetter_6 : decode cX6_isLetter 6 = .ok (.iload_n 0, 1) := by decide +kernel
theorem dX6_isLetter_7 : decode cX6_isLetter 7 = .ok (.bipush 122, 2) := by decide +kernel
theorem dX6_isLetter_9 : decode cX6_isLetter 9 = .ok (.if_icmp .gt 7, 3) := by decide +kernel
theorem dX6_isLetter_12 : decode cX6_isLetter 12 = .ok (.iconst 1, 1) := by decide +kernel
theorem dX6_isLetter_13 : decode cX6_isLetter 13 = .ok (.goto 4, 3) := by decide +kernel
theorem dX6_isLetter_16 : decode cX6_isLetter 16 = .ok (.iconst 0, 1) := by decide +kernel
theorem dX6_isLetter_17 : decode cX6_isLetter 17 = .ok (.ireturn, 1) := by decide +kernel
theorem dX6_isDigit_0 : decode cX6_isDigit 0 = .ok (.iload_n 0, 1) := by decide +kernel
theorem dX6_isDigit_1 : decode cX6_isDigit 1 = .ok (.bipush 48, 2) := by decide +kernel
theorem dX6_isDigit_3 : decode cX6_isDigit 3 = .ok (.if_icmp .lt 13, 3) := by decide +kernel
theorem dX6_isDigit_6 : decode cX6_isDigit 6 = .ok (.iload_n 0, 1) := by decide +kernel
theorem dX6_isDigit_7 : decode cX6_isDigit 7 = .ok (.bipush 57, 2) := by decide +kernel
theorem dX6_isDigit_9 : decode cX6_isDigit 9 = .ok (.if_icmp .gt 7, 3) := by decide +kernel
theorem dX6_isDigit_12 : decode cX6_isDigit 12 = .ok (.iconst 1, 1) := by decide +kernel
theorem dX6_isDigit_13 : decode cX6_isDigit 13 = .ok (.goto 4, 3) := by decide +kernel
theorem dX6_isDigit_16 : decode cX6_isDigit 16 = .ok (.iconst 0, 1) := by decide +kernel
theorem dX6_isDigit_17 : decode cX6_isDigit 17 = .ok (.ireturn, 1) := by decide +kernel
end
section
theorem dX9_init_0 : decode cX9_init 0 = .ok (.aload_n 0, 1) := by decide +kernel
theorem dX9_init_1 : decode cX9_init 1 = .ok (.invokespecial 1, 3) := by decide +kernel
theorem dX9_init_4 : decode cX9_init 4 = .ok (.bipush 6, 2) := by decide +kernel
theorem dX9_init_6 : decode cX9_init 6 = .ok (.anewarray 7, 3) := by decide +kernel
theorem dX9_init_9 : decode cX9_init 9 = .ok (.dup, 1) := by decide +kernel
theorem dX9_init_10 : decode cX9_init 10 = .ok (.iconst 0, 1) := by decide +kernel
theorem dX9_init_11 : decode cX9_init 11 = .ok (.new 7, 3) := by decide +kernel
theorem dX9_init_14 : decode cX9_init 14 = .ok (.dup, 1) := by decide +kernel
theorem dX9_init_15 : decode cX9_init 15 = .ok (.invokespecial 9, 3) := by decide +kernel
theorem dX9_init_18 : decode cX9_init 18 = .ok (.aastore, 1) := by decide +kernel
theorem dX9_init_19 : decode cX9_init 19 = .ok (.dup, 1) := by decide +kernel
theorem dX9_init_20 : decode cX9_init 20 = .ok (.iconst 1, 1) := by decide +kernel
theorem dX9_init_21 : decode cX9_init 21 = .ok (.new 10, 3) := by decide +kernel
theorem dX9_init_24 : decode cX9_init 24 = .ok (.dup, 1) := by decide +kernel
theorem dX9_init_25 : decode cX9_init 25 = .ok (.invokespecial 12, 3) := by decide +kernel
theorem dX9_init_28 : decode cX9_init 28 = .ok (.aastore, 1) := by decide +kernel
theorem dX9_init_29 : decode cX9_init 29 = .ok (.dup, 1) := by decide +kernel
theorem dX9_init_30 : decode cX9_init 30 = .ok (.iconst 2, 1) := by decide +kernel
theorem dX9_init_31 : decode cX9_init 31 = .ok (.new 13, 3) := by decide +kernel
theorem dX9_init_34 : decode cX9_init 34 = .ok (.dup, 1) := by decide +kernel
theorem dX9_init_35 : decode cX9_init 35 = .ok (.invokespecial 15, 3) := by decide +kernel
theorem dX9_init_38 : decode cX9_init 38 = .ok (.aastore, 1) := by decide +kernel
theorem dX9_init_39 : decode cX9_init 39 = .ok (.dup, 1) := by decide +kernel
theorem dX9_init_40 : decode cX9_init 40 = .ok (.iconst 3, 1) := by decide +kernel
theorem dX9_init_41 : decode cX9_init 41 = .ok (.new 16, 3) := by decide +kernel
theorem dX9_init_44 : decode cX9_init 44 = .ok (.dup, 1) := by decide +kernel
theorem dX9_init_45 : decode cX9_init 45 = .ok (.invokespecial 18, 3) := by decide +kernel
theorem dX9_init_48 : decode cX9_init 48 = .ok (.aastore, 1) := by decide +kernel
theorem dX9_init_49 : decode cX9_init 49 = .ok (.dup, 1) := by decide +kernel
theorem dX9_init_50 : decode cX9_init 50 = .ok (.iconst 4, 1) := by decide +kernel
theorem dX9_init_51 : decode cX9_init 51 = .ok (.new 19, 3) := by decide +kernel
theorem dX9_init_54 : decode cX9_init 54 = .ok (.dup, 1) := by decide +kernel
theorem dX9_init_55 : decode cX9_init 55 = .ok (.invokespecial 21, 3) := by decide +kernel
theorem dX9_init_58 : decode cX9_init 58 = .ok (.aastore, 1) := by decide +kernel
theorem dX9_init_59 : decode cX9_init 59 = .ok (.dup, 1) := by decide +kernel
theorem dX9_init_60 : decode cX9_init 60 = .ok (.iconst 5, 1) := by decide +kernel
theorem dX9_init_61 : decode cX9_init 61 = .ok (.new 22, 3) := by decide +kernel
theorem dX9_init_64 : decode cX9_init 64 = .ok (.dup, 1) := by decide +kernel
theorem dX9_init_65 : decode cX9_init 65 = .ok (.invokespecial 24, 3) := by decide +kernel
theorem dX9_init_68 : decode cX9_init 68 = .ok (.aastore, 1) := by decide +kernel
theorem dX9_init_69 : decode cX9_init 69 = .ok (.astore_n 1, 1) := by decide +kernel
theorem dX9_init_70 : decode cX9_init 70 = .ok (.aload_n 0, 1) := by decide +kernel
theorem dX9_init_71 : decode cX9_init 71 = .ok (.new 25, 3) := by decide +kernel
theorem dX9_init_74 : decode cX9_init 74 = .ok (.dup, 1) := by decide +kernel
theorem dX9_init_75 : decode cX9_init 75 = .ok (.aload_n 1, 1) := by decide +kernel
theorem dX9_init_76 : decode cX9_init 76 = .ok (.invokespecial 27, 3) := by decide +kernel
theorem dX9_init_79 : decode cX9_init 79 = .ok (.putfield 30, 3) := by decide +kernel
theorem dX9_init_82 : decode cX9_init 82 = .ok (.aload_n 0, 1) := by decide +kernel
theorem dX9_init_83 : decode cX9_init 83 = .ok (.new 25, 3) := by decide +kernel
theorem dX9_init_86 : decode cX9_init 86 = .ok (.dup, 1) := by decide +kernel
theorem dX9_init_87 : decode cX9_init 87 = .ok (.aload_n 1, 1) := by decide +kernel
theorem dX9_init_88 : decode cX9_init 88 = .ok (.invokespecial 27, 3) := by decide +kernel
theorem dX9_init_91 : decode cX9_init 91 = .ok (.putfield 36, 3) := by decide +kernel
theorem dX9_init_94 : decode cX9_init 94 = .ok (.aload_n 0, 1) := by decide +kernel
theorem dX9_init_95 : decode cX9_init 95 = .ok (.new 25, 3) := by decide +kernel
theorem dX9_init_98 : decode cX9_init 98 = .ok (.dup, 1) := by decide +kernel
theorem dX9_init_99 : decode cX9_init 99 = .ok (.aload_n 1, 1) := by decide +kernel
theorem dX9_init_100 : decode cX9_init 100 = .ok (.invokespecial 27, 3) := by decide +kernel
theorem dX9_init_103 : decode cX9_init 103 = .ok (.putfield 39, 3) := by decide +kernel
theorem dX9_init_106 : decode cX9_init 106 = .ok (.aload_n 0, 1) := by decide +kernel
theorem dX9_init_107 : decode cX9_init 107 = .ok (.iconst 0, 1) := by decide +kernel
theorem dX9_init_108 : decode cX9_init 108 = .ok (.putfield 42, 3) := by decide +kernel
theorem dX9_init_111 : decode cX9_init 111 = .ok (.aload_n 0, 1) := by decide +kernel
theorem dX9_init_112 : decode cX9_init 112 = .ok (.new 46, 3) := by decide +kernel
theorem dX9_init_115 : decode cX9_init 115 = .ok (.dup, 1) := by decide +kernel
theorem dX9_init_116 : decode cX9_init 116 = .ok (.aload_n 1, 1) := by decide +kernel
theorem dX9_init_117 : decode cX9_init 117 = .ok (.aload_n 0, 1) := by decide +kernel
theorem dX9_init_118 : decode cX9_init 118 = .ok (.getfield 36, 3) := by decide +kernel
theorem dX9_init_121 : decode cX9_init 121 = .ok (.invokespecial 48, 3) := by decide +kernel
theorem dX9_init_124 : decode cX9_init 124 = .ok (.putfield 51, 3) := by decide +kernel
theorem dX9_init_127 : decode cX9_init 127 = .ok (.aload_n 0, 1) := by decide +kernel
theorem dX9_init_128 : decode cX9_init 128 = .ok (.iconst 4, 1) := by decide +kernel
theorem dX9_init_129 : decode cX9_init 129 = .ok (.anewarray 55, 3) := by decide +kernel
theorem dX9_init_132 : decode cX9_init 132 = .ok (.putfield 57, 3) := by decide +kernel
theorem dX9_init_135 : decode cX9_init 135 = .ok (.iconst 0, 1) := by decide +kernel
theorem dX9_init_136 : decode cX9_init 136 = .ok (.istore_n 2, 1) := by decide +kernel
theorem dX9_init_137 : decode cX9_init 137 = .ok (.iload_n 2, 1) := by decide +kernel
theorem dX9_init_138 : decode cX9_init 138 = .ok (.iconst 4, 1) := by decide +kernel
theorem dX9_init_139 : decode cX9_init 139 = .ok (.if_icmp .ge 22, 3) := by decide +kernel
theorem dX9_init_142 : decode cX9_init 142 = .ok (.aload_n 0, 1) := by decide +kernel
theorem dX9_init_143 : decode cX9_init 143 = .ok (.getfield 57, 3) := by decide +kernel
theorem dX9_init_146 : decode cX9_init 146 = .ok (.iload_n 2, 1) := by decide +kernel
theorem dX9_init_147 : decode cX9_init 147 = .ok (.new 55, 3) := by decide +kernel
theorem dX9_init_150 : decode cX9_init 150 = .ok (.dup, 1) := by decide +kernel
theorem dX9_init_151 : decode cX9_init 151 = .ok (.invokespecial 61, 3) := by decide +kernel
theorem dX9_init_154 : decode cX9_init 154 = .ok (.aastore, 1) := by decide +kernel
theorem dX9_init_155 : decode cX9_init 155 = .ok (.iinc 2 1, 3) := by decide +kernel
theorem dX9_init_158 : decode cX9_init 158 = .ok (.goto (-21), 3) := by decide +kernel
theorem dX9_init_161 : decode cX9_init 161 = .ok (.aload_n 0, 1) := by decide +kernel
theorem dX9_init_162 : decode cX9_init 162 = .ok (.bipush 7, 2) := by decide +kernel
theorem dX9_init_164 : decode cX9_init 164 = .ok (.newarray .int, 2) := by decide +kernel
theorem dX9_init_166 : decode cX9_init 166 = .ok (.putfield 62, 3) := by decide +kernel
theorem dX9_init_169 : decode cX9_init 169 = .ok (.return_, 1) := by decide +kernel
theorem dX9_mood_0 : decode cX9_mood 0 = .ok (.iload_n 1, 1) := by decide +kernel
theorem dX9_mood_1 : decode cX9_mood 1 = .ok (.invokestatic 66, 3) := by decide +kernel
theorem dX9_mood_4 : decode cX9_mood 4 = .ok (.ifCond .eq 14, 3) := by decide +kernel
theorem dX9_mood_7 : decode cX9_mood 7 = .ok (.iload_n 2, 1) := by decide +kernel
theorem dX9_mood_8 : decode cX9_mood 8 = .ok (.bipush (-50), 2) := by decide +kernel
theorem dX9_mood_10 : decode cX9_mood 10 = .ok (.bipush 50, 2) := by decide +kernel
theorem dX9_mood_12 : decode cX9_mood 12 = .ok (.invokestatic 70, 3) := by decide +kernel
theorem dX9_mood_15 : decode cX9_mood 15 = .ok (.ifCond .ne 9, 3) := by decide +kernel
theorem dX9_mood_18 : decode cX9_mood 18 = .ok (.aload_n 0, 1) := by decide +kernel
theorem dX9_mood_19 : decode cX9_mood 19 = .ok (.iconst 0, 1) := by decide +kernel
theorem dX9_mood_20 : decode cX9_mood 20 = .ok (.invokevirtual 74, 3) := by decide +kernel
theorem dX9_mood_23 : decode cX9_mood 23 = .ok (.ireturn, 1) := by decide +kernel
theorem dX9_mood_24 : decode cX9_mood 24 = .ok (.aload_n 0, 1) := by decide +kernel
theorem dX9_mood_25 : decode cX9_mood 25 = .ok (.getfield 30, 3) := by decide +kernel
theorem dX9_mood_28 : decode cX9_mood 28 = .ok (.getfield 78, 3) := by decide +kernel
theorem dX9_mood_31 : decode cX9_mood 31 = .ok (.iload_n 1, 1) := by decide +kernel
theorem dX9_mood_32 : decode cX9_mood 32 = .ok (.iaload, 1) := by decide +kernel
theorem dX9_mood_33 : decode cX9_mood 33 = .ok (.istore_n 3, 1) := by decide +kernel
theorem dX9_mood_34 : decode cX9_mood 34 = .ok (.aload_n 0, 1) := by decide +kernel
theorem dX9_mood_35 : decode cX9_mood 35 = .ok (.getfield 30, 3) := by decide +kernel
theorem dX9_mood_38 : decode cX9_mood 38 = .ok (.getfield 78, 3) := by decide +kernel
theorem dX9_mood_41 : decode cX9_mood 41 = .ok (.iload_n 1, 1) := by decide +kernel
theorem dX9_mood_42 : decode cX9_mood 42 = .ok (.iload_n 2, 1) := by decide +kernel
theorem dX9_mood_43 : decode cX9_mood 43 = .ok (.iastore, 1) := by decide +kernel
theorem dX9_mood_44 : decode cX9_mood 44 = .ok (.iload_n 3, 1) := by decide +kernel
theorem dX9_mood_45 : decode cX9_mood 45 = .ok (.ireturn, 1) := by decide +kernel
theorem dX9_recall_0 : decode cX9_recall 0 = .ok (.iload_n 1, 1) := by decide +kernel
theorem dX9_recall_1 : decode cX9_recall 1 = .ok (.invokestatic 66, 3) := by decide +kernel
theorem dX9_recall_4 : decode cX9_recall 4 = .ok (.ifCond .eq 16, 3) := by decide +kernel
theorem dX9_recall_7 : decode cX9_recall 7 = .ok (.iload_n 2, 1) := by decide +kernel
theorem dX9_recall_8 : decode cX9_recall 8 = .ok (.iconst (-1), 1) := by decide +kernel
theorem dX9_recall_9 : decode cX9_recall 9 = .ok (.if_icmp .eq 17, 3) := by decide +kernel
theorem dX9_recall_12 : decode cX9_recall 12 = .ok (.aload_n 0, 1) := by decide +kernel
theorem dX9_recall_13 : decode cX9_recall 13 = .ok (.iload_n 2, 1) := by decide +kernel
theorem dX9_recall_14 : decode cX9_recall 14 = .ok (.invokevirtual 81, 3) := by decide +kernel
theorem dX9_recall_17 : decode cX9_recall 17 = .ok (.ifCond .ne 9, 3) := by decide +kernel
theorem dX9_recall_20 : decode cX9_recall 20 = .ok (.aload_n 0, 1) := by decide +kernel
theorem dX9_recall_21 : decode cX9_recall 21 = .ok (.iconst 0, 1) := by decide +kernel
theorem dX9_recall_22 : decode cX9_recall 22 = .ok (.invokevirtual 74, 3) := by decide +kernel
theorem dX9_recall_25 : decode cX9_recall 25 = .ok (.ireturn, 1) := by decide +kernel
theorem dX9_recall_26 : decode cX9_recall 26 = .ok (.aload_n 0, 1) := by decide +kernel
theorem dX9_recall_27 : decode cX9_recall 27 = .ok (.getfield 30, 3) := by decide +kernel
theorem dX9_recall_30 : decode cX9_recall 30 = .ok (.getfield 84, 3) := by decide +kernel
theorem dX9_recall_33 : decode cX9_recall 33 = .ok (.iload_n 1, 1) := by decide +kernel
theorem dX9_recall_34 : decode cX9_recall 34 = .ok (.iaload, 1) := by decide +kernel
theorem dX9_recall_35 : decode cX9_recall 35 = .ok (.istore_n 3, 1) := by decide +kernel
theorem dX9_recall_36 : decode cX9_recall 36 = .ok (.aload_n 0, 1) := by decide +kernel
theorem dX9_recall_37 : decode cX9_recall 37 = .ok (.getfield 30, 3) := by decide +kernel
theorem dX9_recall_40 : decode cX9_recall 40 = .ok (.getfield 84, 3) := by decide +kernel
theorem dX9_recall_43 : decode cX9_recall 43 = .ok (.iload_n 1, 1) := by decide +kernel
theorem dX9_recall_44 : decode cX9_recall 44 = .ok (.iload_n 2, 1) := by decide +kernel
theorem dX9_recall_45 : decode cX9_recall 45 = .ok (.iastore, 1) := by decide +kernel
theorem dX9_recall_46 : decode cX9_recall 46 = .ok (.iload_n 3, 1) := by decide +kernel
theorem dX9_recall_47 : decode cX9_recall 47 = .ok (.ireturn, 1) := by decide +kernel
theorem dX9_houseOf_0 : decode cX9_houseOf 0 = .ok (.iload_n 1, 1) := by decide +kernel
theorem dX9_houseOf_1 : decode cX9_houseOf 1 = .ok (.invokestatic 66, 3) := by decide +kernel
theorem dX9_houseOf_4 : decode cX9_houseOf 4 = .ok (.ifCond .ne 9, 3) := by decide +kernel
theorem dX9_houseOf_7 : decode cX9_houseOf 7 = .ok (.aload_n 0, 1) := by decide +kernel
theorem dX9_houseOf_8 : decode cX9_houseOf 8 = .ok (.iconst 0, 1) := by decide +kernel
theorem dX9_houseOf_9 : decode cX9_houseOf 9 = .ok (.invokevirtual 74, 3) := by decide +kernel
theorem dX9_houseOf_12 : decode cX9_houseOf 12 = .ok (.ireturn, 1) := by decide +kernel
theorem dX9_houseOf_13 : decode cX9_houseOf 13 = .ok (.iload_n 2, 1) := by decide +kernel
theorem dX9_houseOf_14 : decode cX9_houseOf 14 = .ok (.tableswitch 58 0 2 #[26, 39, 49], 26) := by decide +kernel
theorem dX9_houseOf_40 : decode cX9_houseOf 40 = .ok (.bipush 100, 2) := by decide +kernel
theorem dX9_houseOf_42 : decode cX9_houseOf 42 = .ok (.aload_n 0, 1) := by decide +kernel
theorem dX9_houseOf_43 : decode cX9_houseOf 43 = .ok (.getfield 30, 3) := by decide +kernel
theorem dX9_houseOf_46 : decode cX9_houseOf 46 = .ok (.getfield 78, 3) := by decide +kernel
theorem dX9_houseOf_49 : decode cX9_houseOf 49 = .ok (.iload_n 1, 1) := by decide +kernel
theorem dX9_houseOf_50 : decode cX9_houseOf 50 = .ok (.iaload, 1) := by decide +kernel
theorem dX9_houseOf_51 : decode cX9_houseOf 51 = .ok (.iadd, 1) := by decide +kernel
theorem dX9_houseOf_52 : decode cX9_houseOf 52 = .ok (.ireturn, 1) := by decide +kernel
theorem dX9_houseOf_53 : decode cX9_houseOf 53 = .ok (.aload_n 0, 1) := by decide +kernel
theorem dX9_houseOf_54 : decode cX9_houseOf 54 = .ok (.getfield 30, 3) := by decide +kernel
theorem dX9_houseOf_57 : decode cX9_houseOf 57 = .ok (.getfield 84, 3) := by decide +kernel
theorem dX9_houseOf_60 : decode cX9_houseOf 60 = .ok (.iload_n 1, 1) := by decide +kernel
theorem dX9_houseOf_61 : decode cX9_houseOf 61 = .ok (.iaload, 1) := by decide +kernel
theorem dX9_houseOf_62 : decode cX9_houseOf 62 = .ok (.ireturn, 1) := by decide +kernel
theorem dX9_houseOf_63 : decode cX9_houseOf 63 = .ok (.aload_n 0, 1) := by decide +kernel
theorem dX9_houseOf_64 : decode cX9_houseOf 64 = .ok (.getfield 30, 3) := by decide +kernel
theorem dX9_houseOf_67 : decode cX9_houseOf 67 = .ok (.iload_n 1, 1) := by decide +kernel
theorem dX9_houseOf_68 : decode cX9_houseOf 68 = .ok (.invokevirtual 87, 3) := by decide +kernel
theorem dX9_houseOf_71 : decode cX9_houseOf 71 = .ok (.ireturn, 1) := by decide +kernel
theorem dX9_houseOf_72 : decode cX9_houseOf 72 = .ok (.aload_n 0, 1) := by decide +kernel
theorem dX9_houseOf_73 : decode cX9_houseOf 73 = .ok (.iconst 0, 1) := by decide +kernel
theorem dX9_houseOf_74 : decode cX9_houseOf 74 = .ok (.invokevirtual 74, 3) := by decide +kernel
theorem dX9_houseOf_77 : decode cX9_houseOf 77 = .ok (.ireturn, 1) := by decide +kernel
theorem dX9_now_0 : decode cX9_now 0 = .ok (.iload_n 1, 1) := by decide +kernel
theorem dX9_now_1 : decode cX9_now 1 = .ok (.tableswitch 83 0 4 #[35, 43, 59, 67, 75], 35) := by decide +kernel
theorem dX9_now_36 : decode cX9_now 36 = .ok (.aload_n 0, 1) := by decide +kernel
theorem dX9_now_37 : decode cX9_now 37 = .ok (.getfield 30, 3) := by decide +kernel
theorem dX9_now_40 : decode cX9_now 40 = .ok (.getfield 90, 3) := by decide +kernel
theorem dX9_now_43 : decode cX9_now 43 = .ok (.ireturn, 1) := by decide +kernel
theorem dX9_now_44 : decode cX9_now 44 = .ok (.aload_n 0, 1) := by decide +kernel
theorem dX9_now_45 : decode cX9_now 45 = .ok (.getfield 30, 3) := by decide +kernel
theorem dX9_now_48 : decode cX9_now 48 = .ok (.invokevirtual 94, 3) := by decide +kernel
theorem dX9_now_51 : decode cX9_now 51 = .ok (.ifCond .eq 7, 3) := by decide +kernel
theorem dX9_now_54 : decode cX9_now 54 = .ok (.iconst 1, 1) := by decide +kernel
theorem dX9_now_55 : decode cX9_now 55 = .ok (.goto 4, 3) := by decide +kernel
theorem dX9_now_58 : decode cX9_now 58 = .ok (.iconst 0, 1) := by decide +kernel
theorem dX9_now_59 : decode cX9_now 59 = .ok (.ireturn, 1) := by decide +kernel
theorem dX9_now_60 : decode cX9_now 60 = .ok (.aload_n 0, 1) := by decide +kernel
theorem dX9_now_61 : decode cX9_now 61 = .ok (.getfield 30, 3) := by decide +kernel
theorem dX9_now_64 : decode cX9_now 64 = .ok (.invokevirtual 98, 3) := by decide +kernel
theorem dX9_now_67 : decode cX9_now 67 = .ok (.ireturn, 1) := by decide +kernel
theorem dX9_now_68 : decode cX9_now 68 = .ok (.aload_n 0, 1) := by decide +kernel
theorem dX9_now_69 : decode cX9_now 69 = .ok (.getfield 30, 3) := by decide +kernel
theorem dX9_now_72 : decode cX9_now 72 = .ok (.invokevirtual 102, 3) := by decide +kernel
theorem dX9_now_75 : decode cX9_now 75 = .ok (.ireturn, 1) := by decide +kernel
theorem dX9_now_76 : decode cX9_now 76 = .ok (.aload_n 0, 1) := by decide +kernel
theorem dX9_now_77 : decode cX9_now 77 = .ok (.getfield 30, 3) := by decide +kernel
theorem dX9_now_80 : decode cX9_now 80 = .ok (.invokevirtual 105, 3) := by decide +kernel
theorem dX9_now_83 : decode cX9_now 83 = .ok (.ireturn, 1) := by decide +kernel
theorem dX9_now_84 : decode cX9_now 84 = .ok (.aload_n 0, 1) := by decide +kernel
theorem dX9_now_85 : decode cX9_now 85 = .ok (.iconst 0, 1) := by decide +kernel
theorem dX9_now_86 : decode cX9_now 86 = .ok (.invokevirtual 74, 3) := by decide +kernel
theorem dX9_now_89 : decode cX9_now 89 = .ok (.ireturn, 1) := by decide +kernel
theorem dX9_beard_0 : decode cX9_beard 0 = .ok (.iload_n 1, 1) := by decide +kernel
theorem dX9_beard_1 : decode cX9_beard 1 = .ok (.invokestatic 108, 3) := by decide +kernel
theorem dX9_beard_4 : decode cX9_beard 4 = .ok (.ifCond .ne 9, 3) := by decide +kernel
theorem dX9_beard_7 : decode cX9_beard 7 = .ok (.aload_n 0, 1) := by decide +kernel
theorem dX9_beard_8 : decode cX9_beard 8 = .ok (.iconst 0, 1) := by decide +kernel
theorem dX9_beard_9 : decode cX9_beard 9 = .ok (.invokevirtual 74, 3) := by decide +kernel
theorem dX9_beard_12 : decode cX9_beard 12 = .ok (.ireturn, 1) := by decide +kernel
theorem dX9_beard_13 : decode cX9_beard 13 = .ok (.aload_n 0, 1) := by decide +kernel
theorem dX9_beard_14 : decode cX9_beard 14 = .ok (.getfield 30, 3) := by decide +kernel
theorem dX9_beard_17 : decode cX9_beard 17 = .ok (.iload_n 1, 1) := by decide +kernel
theorem dX9_beard_18 : decode cX9_beard 18 = .ok (.invokevirtual 111, 3) := by decide +kernel
theorem dX9_beard_21 : decode cX9_beard 21 = .ok (.istore_n 2, 1) := by decide +kernel
theorem dX9_beard_22 : decode cX9_beard 22 = .ok (.iload_n 2, 1) := by decide +kernel
theorem dX9_beard_23 : decode cX9_beard 23 = .ok (.ifCond .ge 11, 3) := by decide +kernel
theorem dX9_beard_26 : decode cX9_beard 26 = .ok (.aload_n 0, 1) := by decide +kernel
theorem dX9_beard_27 : decode cX9_beard 27 = .ok (.iconst 1, 1) := by decide +kernel
theorem dX9_beard_28 : decode cX9_beard 28 = .ok (.invokevirtual 74, 3) := by decide +kernel
theorem dX9_beard_31 : decode cX9_beard 31 = .ok (.goto 4, 3) := by decide +kernel
theorem dX9_beard_34 : decode cX9_beard 34 = .ok (.iload_n 2, 1) := by decide +kernel
theorem dX9_beard_35 : decode cX9_beard 35 = .ok (.ireturn, 1) := by decide +kernel
theorem dX9_of_0 : decode cX9_of 0 = .ok (.aload_n 0, 1) := by decide +kernel
theorem dX9_of_1 : decode cX9_of 1 = .ok (.iload_n 1, 1) := by decide +kernel
theorem dX9_of_2 : decode cX9_of 2 = .ok (.invokevirtual 81, 3) := by decide +kernel
theorem dX9_of_5 : decode cX9_of 5 = .ok (.ifCond .ne 9, 3) := by decide +kernel
theorem dX9_of_8 : decode cX9_of 8 = .ok (.aload_n 0, 1) := by decide +kernel
theorem dX9_of_9 : decode cX9_of 9 = .ok (.iconst 0, 1) := by decide +kernel
theorem dX9_of_10 : decode cX9_of 10 = .ok (.invokevirtual 74, 3) := by decide +kernel
theorem dX9_of_13 : decode cX9_of 13 = .ok (.ireturn, 1) := by decide +kernel
theorem dX9_of_14 : decode cX9_of 14 = .ok (.iload_n 2, 1) := by decide +kernel
theorem dX9_of_15 : decode cX9_of 15 = .ok (.tableswitch 98 0 5 #[37, 47, 57, 67, 77, 86], 37) := by decide +kernel
theorem dX9_of_52 : decode cX9_of 52 = .ok (.aload_n 0, 1) := by decide +kernel
theorem dX9_of_53 : decode cX9_of 53 = .ok (.getfield 30, 3) := by decide +kernel
theorem dX9_of_56 : decode cX9_of 56 = .ok (.getfield 114, 3) := by decide +kernel
theorem dX9_of_59 : decode cX9_of 59 = .ok (.iload_n 1, 1) := by decide +kernel
theorem dX9_of_60 : decode cX9_of 60 = .ok (.iaload, 1) := by decide +kernel
theorem dX9_of_61 : decode cX9_of 61 = .ok (.ireturn, 1) := by decide +kernel
theorem dX9_of_62 : decode cX9_of 62 = .ok (.aload_n 0, 1) := by decide +kernel
theorem dX9_of_63 : decode cX9_of 63 = .ok (.getfield 30, 3) := by decide +kernel
theorem dX9_of_66 : decode cX9_of 66 = .ok (.getfield 117, 3) := by decide +kernel
theorem dX9_of_69 : decode cX9_of 69 = .ok (.iload_n 1, 1) := by decide +kernel
theorem dX9_of_70 : decode cX9_of 70 = .ok (.iaload, 1) := by decide +kernel
theorem dX9_of_71 : decode cX9_of 71 = .ok (.ireturn, 1) := by decide +kernel
theorem dX9_of_72 : decode cX9_of 72 = .ok (.aload_n 0, 1) := by decide +kernel
theorem dX9_of_73 : decode cX9_of 73 = .ok (.getfield 30, 3) := by decide +kernel
theorem dX9_of_76 : decode cX9_of 76 = .ok (.getfield 120, 3) := by decide +kernel
theorem dX9_of_79 : decode cX9_of 79 = .ok (.iload_n 1, 1) := by decide +kernel
theorem dX9_of_80 : decode cX9_of 80 = .ok (.iaload, 1) := by decide +kernel
theorem dX9_of_81 : decode cX9_of 81 = .ok (.ireturn, 1) := by decide +kernel
theorem dX9_of_82 : decode cX9_of 82 = .ok (.aload_n 0, 1) := by decide +kernel
theorem dX9_of_83 : decode cX9_of 83 = .ok (.getfield 30, 3) := by decide +kernel
theorem dX9_of_86 : decode cX9_of 86 = .ok (.getfield 123, 3) := by decide +kernel
theorem dX9_of_89 : decode cX9_of 89 = .ok (.iload_n 1, 1) := by decide +kernel
theorem dX9_of_90 : decode cX9_of 90 = .ok (.iaload, 1) := by decide +kernel
theorem dX9_of_91 : decode cX9_of 91 = .ok (.ireturn, 1) := by decide +kernel
theorem dX9_of_92 : decode cX9_of 92 = .ok (.aload_n 0, 1) := by decide +kernel
theorem dX9_of_93 : decode cX9_of 93 = .ok (.getfield 30, 3) := by decide +kernel
theorem dX9_of_96 : decode cX9_of 96 = .ok (.iload_n 1, 1) := by decide +kernel
theorem dX9_of_97 : decode cX9_of 97 = .ok (.invokevirtual 126, 3) := by decide +kernel
theorem dX9_of_100 : decode cX9_of 100 = .ok (.ireturn, 1) := by decide +kernel
theorem dX9_of_101 : decode cX9_of 101 = .ok (.bipush 100, 2) := by decide +kernel
theorem dX9_of_103 : decode cX9_of 103 = .ok (.aload_n 0, 1) := by decide +kernel
theorem dX9_of_104 : decode cX9_of 104 = .ok (.getfield 30, 3) := by decide +kernel
theorem dX9_of_107 : decode cX9_of 107 = .ok (.iload_n 1, 1) := by decide +kernel
theorem dX9_of_108 : decode cX9_of 108 = .ok (.invokevirtual 129, 3) := by decide +kernel
theorem dX9_of_111 : decode cX9_of 111 = .ok (.iadd, 1) := by decide +kernel
theorem dX9_of_112 : decode cX9_of 112 = .ok (.ireturn, 1) := by decide +kernel
theorem dX9_of_113 : decode cX9_of 113 = .ok (.aload_n 0, 1) := by decide +kernel
theorem dX9_of_114 : decode cX9_of 114 = .ok (.iconst 0, 1) := by decide +kernel
theorem dX9_of_115 : decode cX9_of 115 = .ok (.invokevirtual 74, 3) := by decide +kernel
theorem dX9_of_118 : decode cX9_of 118 = .ok (.ireturn, 1) := by decide +kernel
theorem dX9_can_0 : decode cX9_can 0 = .ok (.aload_n 0, 1) := by decide +kernel
theorem dX9_can_1 : decode cX9_can 1 = .ok (.iload_n 1, 1) := by decide +kernel
theorem dX9_can_2 : decode cX9_can 2 = .ok (.invokevirtual 81, 3) := by decide +kernel
theorem dX9_can_5 : decode cX9_can 5 = .ok (.ifCond .eq 10, 3) := by decide +kernel
theorem dX9_can_8 : decode cX9_can 8 = .ok (.iload_n 2, 1) := by decide +kernel
theorem dX9_can_9 : decode cX9_can 9 = .ok (.invokestatic 66, 3) := by decide +kernel
theorem dX9_can_12 : decode cX9_can 12 = .ok (.ifCond .ne 9, 3) := by decide +kernel
theorem dX9_can_15 : decode cX9_can 15 = .ok (.aload_n 0, 1) := by decide +kernel
theorem dX9_can_16 : decode cX9_can 16 = .ok (.iconst 0, 1) := by decide +kernel
theorem dX9_can_17 : decode cX9_can 17 = .ok (.invokevirtual 74, 3) := by decide +kernel
theorem dX9_can_20 : decode cX9_can 20 = .ok (.ireturn, 1) := by decide +kernel
theorem dX9_can_21 : decode cX9_can 21 = .ok (.iload_n 3, 1) := by decide +kernel
theorem dX9_can_22 : decode cX9_can 22 = .ok (.lookupswitch 51 #[(0, 26), (1, 39)], 26) := by decide +kernel
theorem dX9_can_48 : decode cX9_can 48 = .ok (.bipush 100, 2) := by decide +kernel
theorem dX9_can_50 : decode cX9_can 50 = .ok (.aload_n 0, 1) := by decide +kernel
theorem dX9_can_51 : decode cX9_can 51 = .ok (.getfield 30, 3) := by decide +kernel
theorem dX9_can_54 : decode cX9_can 54 = .ok (.iload_n 1, 1) := by decide +kernel
theorem dX9_can_55 : decode cX9_can 55 = .ok (.iload_n 2, 1) := by decide +kernel
theorem dX9_can_56 : decode cX9_can 56 = .ok (.invokevirtual 132, 3) := by decide +kernel
theorem dX9_can_59 : decode cX9_can 59 = .ok (.iadd, 1) := by decide +kernel
theorem dX9_can_60 : decode cX9_can 60 = .ok (.ireturn, 1) := by decide +kernel
theorem dX9_can_61 : decode cX9_can 61 = .ok (.bipush 100, 2) := by decide +kernel
theorem dX9_can_63 : decode cX9_can 63 = .ok (.aload_n 0, 1) := by decide +kernel
theorem dX9_can_64 : decode cX9_can 64 = .ok (.getfield 30, 3) := by decide +kernel
theorem dX9_can_67 : decode cX9_can 67 = .ok (.iload_n 1, 1) := by decide +kernel
theorem dX9_can_68 : decode cX9_can 68 = .ok (.invokevirtual 136, 3) := by decide +kernel
theorem dX9_can_71 : decode cX9_can 71 = .ok (.iadd, 1) := by decide +kernel
theorem dX9_can_72 : decode cX9_can 72 = .ok (.ireturn, 1) := by decide +kernel
theorem dX9_can_73 : decode cX9_can 73 = .ok (.aload_n 0, 1) := by decide +kernel
theorem dX9_can_74 : decode cX9_can 74 = .ok (.iconst 0, 1) := by decide +kernel
theorem dX9_can_75 : decode cX9_can 75 = .ok (.invokevirtual 74, 3) := by decide +kernel
theorem dX9_can_78 : decode cX9_can 78 = .ok (.ireturn, 1) := by decide +kernel
theorem dX9_set_0 : decode cX9_set 0 = .ok (.aload_n 0, 1) := by decide +kernel
theorem dX9_set_1 : decode cX9_set 1 = .ok (.iload_n 1, 1) := by decide +kernel
theorem dX9_set_2 : decode cX9_set 2 = .ok (.invokevirtual 81, 3) := by decide +kernel
theorem dX9_set_5 : decode cX9_set 5 = .ok (.ifCond .ne 9, 3) := by decide +kernel
theorem dX9_set_8 : decode cX9_set 8 = .ok (.aload_n 0, 1) := by decide +kernel
theorem dX9_set_9 : decode cX9_set 9 = .ok (.iconst 0, 1) := by decide +kernel
theorem dX9_set_10 : decode cX9_set 10 = .ok (.invokevirtual 74, 3) := by decide +kernel
theorem dX9_set_13 : decode cX9_set 13 = .ok (.ireturn, 1) := by decide +kernel
theorem dX9_set_14 : decode cX9_set 14 = .ok (.iload_n 2, 1) := by decide +kernel
theorem dX9_set_15 : decode cX9_set 15 = .ok (.iconst 1, 1) := by decide +kernel
theorem dX9_set_16 : decode cX9_set 16 = .ok (.if_icmp .ne 37, 3) := by decide +kernel
theorem dX9_set_19 : decode cX9_set 19 = .ok (.iload_n 3, 1) := by decide +kernel
theorem dX9_set_20 : decode cX9_set 20 = .ok (.iconst 0, 1) := by decide +kernel
theorem dX9_set_21 : decode cX9_set 21 = .ok (.bipush 99, 2) := by decide +kernel
theorem dX9_set_23 : decode cX9_set 23 = .ok (.invokestatic 70, 3) := by decide +kernel
theorem dX9_set_26 : decode cX9_set 26 = .ok (.ifCond .eq 27, 3) := by decide +kernel
theorem dX9_set_29 : decode cX9_set 29 = .ok (.aload_n 0, 1) := by decide +kernel
theorem dX9_set_30 : decode cX9_set 30 = .ok (.getfield 30, 3) := by decide +kernel
theorem dX9_set_33 : decode cX9_set 33 = .ok (.getfield 117, 3) := by decide +kernel
theorem dX9_set_36 : decode cX9_set 36 = .ok (.iload_n 1, 1) := by decide +kernel
theorem dX9_set_37 : decode cX9_set 37 = .ok (.iaload, 1) := by decide +kernel
theorem dX9_set_38 : decode cX9_set 38 = .ok (.istore 4, 2) := by decide +kernel
theorem dX9_set_40 : decode cX9_set 40 = .ok (.aload_n 0, 1) := by decide +kernel
theorem dX9_set_41 : decode cX9_set 41 = .ok (.getfield 30, 3) := by decide +kernel
theorem dX9_set_44 : decode cX9_set 44 = .ok (.getfield 117, 3) := by decide +kernel
theorem dX9_set_47 : decode cX9_set 47 = .ok (.iload_n 1, 1) := by decide +kernel
theorem dX9_set_48 : decode cX9_set 48 = .ok (.iload_n 3, 1) := by decide +kernel
theorem dX9_set_49 : decode cX9_set 49 = .ok (.iastore, 1) := by decide +kernel
theorem dX9_set_50 : decode cX9_set 50 = .ok (.iload 4, 2) := by decide +kernel
theorem dX9_set_52 : decode cX9_set 52 = .ok (.ireturn, 1) := by decide +kernel
theorem dX9_set_53 : decode cX9_set 53 = .ok (.iload_n 2, 1) := by decide +kernel
theorem dX9_set_54 : decode cX9_set 54 = .ok (.iconst 2, 1) := by decide +kernel
theorem dX9_set_55 : decode cX9_set 55 = .ok (.if_icmp .ne 38, 3) := by decide +kernel
theorem dX9_set_58 : decode cX9_set 58 = .ok (.iload_n 3, 1) := by decide +kernel
theorem dX9_set_59 : decode cX9_set 59 = .ok (.iconst 0, 1) := by decide +kernel
theorem dX9_set_60 : decode cX9_set 60 = .ok (.sipush 999, 3) := by decide +kernel
theorem dX9_set_63 : decode cX9_set 63 = .ok (.invokestatic 70, 3) := by decide +kernel
theorem dX9_set_66 : decode cX9_set 66 = .ok (.ifCond .eq 27, 3) := by decide +kernel
theorem dX9_set_69 : decode cX9_set 69 = .ok (.aload_n 0, 1) := by decide +kernel
theorem dX9_set_70 : decode cX9_set 70 = .ok (.getfield 30, 3) := by decide +kernel
theorem dX9_set_73 : decode cX9_set 73 = .ok (.getfield 120, 3) := by decide +kernel
theorem dX9_set_76 : decode cX9_set 76 = .ok (.iload_n 1, 1) := by decide +kernel
theorem dX9_set_77 : decode cX9_set 77 = .ok (.iaload, 1) := by decide +kernel
theorem dX9_set_78 : decode cX9_set 78 = .ok (.istore 4, 2) := by decide +kernel
theorem dX9_set_80 : decode cX9_set 80 = .ok (.aload_n 0, 1) := by decide +kernel
theorem dX9_set_81 : decode cX9_set 81 = .ok (.getfield 30, 3) := by decide +kernel
theorem dX9_set_84 : decode cX9_set 84 = .ok (.getfield 120, 3) := by decide +kernel
theorem dX9_set_87 : decode cX9_set 87 = .ok (.iload_n 1, 1) := by decide +kernel
theorem dX9_set_88 : decode cX9_set 88 = .ok (.iload_n 3, 1) := by decide +kernel
theorem dX9_set_89 : decode cX9_set 89 = .ok (.iastore, 1) := by decide +kernel
theorem dX9_set_90 : decode cX9_set 90 = .ok (.iload 4, 2) := by decide +kernel
theorem dX9_set_92 : decode cX9_set 92 = .ok (.ireturn, 1) := by decide +kernel
theorem dX9_set_93 : decode cX9_set 93 = .ok (.aload_n 0, 1) := by decide +kernel
theorem dX9_set_94 : decode cX9_set 94 = .ok (.iconst 0, 1) := by decide +kernel
theorem dX9_set_95 : decode cX9_set 95 = .ok (.invokevirtual 74, 3) := by decide +kernel
theorem dX9_set_98 : decode cX9_set 98 = .ok (.ireturn, 1) := by decide +kernel
theorem dX9_turn_0 : decode cX9_turn 0 = .ok (.aload_n 0, 1) := by decide +kernel
theorem dX9_turn_1 : decode cX9_turn 1 = .ok (.iload_n 1, 1) := by decide +kernel
theorem dX9_turn_2 : decode cX9_turn 2 = .ok (.invokevirtual 81, 3) := by decide +kernel
theorem dX9_turn_5 : decode cX9_turn 5 = .ok (.ifCond .eq 10, 3) := by decide +kernel
theorem dX9_turn_8 : decode cX9_turn 8 = .ok (.iload_n 2, 1) := by decide +kernel
theorem dX9_turn_9 : decode cX9_turn 9 = .ok (.invokestatic 108, 3) := by decide +kernel
theorem dX9_turn_12 : decode cX9_turn 12 = .ok (.ifCond .ne 9, 3) := by decide +kernel
theorem dX9_turn_15 : decode cX9_turn 15 = .ok (.aload_n 0, 1) := by decide +kernel
theorem dX9_turn_16 : decode cX9_turn 16 = .ok (.iconst 0, 1) := by decide +kernel
theorem dX9_turn_17 : decode cX9_turn 17 = .ok (.invokevirtual 74, 3) := by decide +kernel
theorem dX9_turn_20 : decode cX9_turn 20 = .ok (.ireturn, 1) := by decide +kernel
theorem dX9_turn_21 : decode cX9_turn 21 = .ok (.aload_n 0, 1) := by decide +kernel
theorem dX9_turn_22 : decode cX9_turn 22 = .ok (.getfield 30, 3) := by decide +kernel
theorem dX9_turn_25 : decode cX9_turn 25 = .ok (.getfield 114, 3) := by decide +kernel
theorem dX9_turn_28 : decode cX9_turn 28 = .ok (.iload_n 1, 1) := by decide +kernel
theorem dX9_turn_29 : decode cX9_turn 29 = .ok (.iaload, 1) := by decide +kernel
theorem dX9_turn_30 : decode cX9_turn 30 = .ok (.istore_n 3, 1) := by decide +kernel
theorem dX9_turn_31 : decode cX9_turn 31 = .ok (.aload_n 0, 1) := by decide +kernel
theorem dX9_turn_32 : decode cX9_turn 32 = .ok (.getfield 30, 3) := by decide +kernel
theorem dX9_turn_35 : decode cX9_turn 35 = .ok (.getfield 114, 3) := by decide +kernel
theorem dX9_turn_38 : decode cX9_turn 38 = .ok (.iload_n 1, 1) := by decide +kernel
theorem dX9_turn_39 : decode cX9_turn 39 = .ok (.iload_n 2, 1) := by decide +kernel
theorem dX9_turn_40 : decode cX9_turn 40 = .ok (.iastore, 1) := by decide +kernel
theorem dX9_turn_41 : decode cX9_turn 41 = .ok (.iload_n 3, 1) := by decide +kernel
theorem dX9_turn_42 : decode cX9_turn 42 = .ok (.ireturn, 1) := by decide +kernel
theorem dX9_as_0 : decode cX9_as 0 = .ok (.aload_n 0, 1) := by decide +kernel
theorem dX9_as_1 : decode cX9_as 1 = .ok (.iload_n 1, 1) := by decide +kernel
theorem dX9_as_2 : decode cX9_as 2 = .ok (.invokevirtual 81, 3) := by decide +kernel
theorem dX9_as_5 : decode cX9_as 5 = .ok (.ifCond .eq 10, 3) := by decide +kernel
theorem dX9_as_8 : decode cX9_as 8 = .ok (.iload_n 2, 1) := by decide +kernel
theorem dX9_as_9 : decode cX9_as 9 = .ok (.invokestatic 108, 3) := by decide +kernel
theorem dX9_as_12 : decode cX9_as 12 = .ok (.ifCond .ne 9, 3) := by decide +kernel
theorem dX9_as_15 : decode cX9_as 15 = .ok (.aload_n 0, 1) := by decide +kernel
theorem dX9_as_16 : decode cX9_as 16 = .ok (.iconst 0, 1) := by decide +kernel
theorem dX9_as_17 : decode cX9_as 17 = .ok (.invokevirtual 74, 3) := by decide +kernel
theorem dX9_as_20 : decode cX9_as 20 = .ok (.ireturn, 1) := by decide +kernel
theorem dX9_as_21 : decode cX9_as 21 = .ok (.aload_n 0, 1) := by decide +kernel
theorem dX9_as_22 : decode cX9_as 22 = .ok (.getfield 30, 3) := by decide +kernel
theorem dX9_as_25 : decode cX9_as 25 = .ok (.getfield 114, 3) := by decide +kernel
theorem dX9_as_28 : decode cX9_as 28 = .ok (.iload_n 1, 1) := by decide +kernel
theorem dX9_as_29 : decode cX9_as 29 = .ok (.iaload, 1) := by decide +kernel
theorem dX9_as_30 : decode cX9_as 30 = .ok (.iload_n 2, 1) := by decide +kernel
theorem dX9_as_31 : decode cX9_as 31 = .ok (.invokestatic 139, 3) := by decide +kernel
theorem dX9_as_34 : decode cX9_as 34 = .ok (.ifCond .eq 15, 3) := by decide +kernel
theorem dX9_as_37 : decode cX9_as 37 = .ok (.aload_n 0, 1) := by decide +kernel
theorem dX9_as_38 : decode cX9_as 38 = .ok (.getfield 30, 3) := by decide +kernel
theorem dX9_as_41 : decode cX9_as 41 = .ok (.getfield 117, 3) := by decide +kernel
theorem dX9_as_44 : decode cX9_as 44 = .ok (.iload_n 1, 1) := by decide +kernel
theorem dX9_as_45 : decode cX9_as 45 = .ok (.iaload, 1) := by decide +kernel
theorem dX9_as_46 : decode cX9_as 46 = .ok (.goto 8, 3) := by decide +kernel
theorem dX9_as_49 : decode cX9_as 49 = .ok (.aload_n 0, 1) := by decide +kernel
theorem dX9_as_50 : decode cX9_as 50 = .ok (.iconst 2, 1) := by decide +kernel
theorem dX9_as_51 : decode cX9_as 51 = .ok (.invokevirtual 74, 3) := by decide +kernel
theorem dX9_as_54 : decode cX9_as 54 = .ok (.ireturn, 1) := by decide +kernel
theorem dX9_wearer_0 : decode cX9_wearer 0 = .ok (.iload_n 1, 1) := by decide +kernel
theorem dX9_wearer_1 : decode cX9_wearer 1 = .ok (.iconst 0, 1) := by decide +kernel
theorem dX9_wearer_2 : decode cX9_wearer 2 = .ok (.sipush 9999, 3) := by decide +kernel
theorem dX9_wearer_5 : decode cX9_wearer 5 = .ok (.invokestatic 70, 3) := by decide +kernel
theorem dX9_wearer_8 : decode cX9_wearer 8 = .ok (.ifCond .ne 9, 3) := by decide +kernel
theorem dX9_wearer_11 : decode cX9_wearer 11 = .ok (.aload_n 0, 1) := by decide +kernel
theorem dX9_wearer_12 : decode cX9_wearer 12 = .ok (.iconst 0, 1) := by decide +kernel
theorem dX9_wearer_13 : decode cX9_wearer 13 = .ok (.invokevirtual 74, 3) := by decide +kernel
theorem dX9_wearer_16 : decode cX9_wearer 16 = .ok (.ireturn, 1) := by decide +kernel
theorem dX9_wearer_17 : decode cX9_wearer 17 = .ok (.aload_n 0, 1) := by decide +kernel
theorem dX9_wearer_18 : decode cX9_wearer 18 = .ok (.getfield 30, 3) := by decide +kernel
theorem dX9_wearer_21 : decode cX9_wearer 21 = .ok (.iload_n 1, 1) := by decide +kernel
theorem dX9_wearer_22 : decode cX9_wearer 22 = .ok (.invokevirtual 143, 3) := by decide +kernel
theorem dX9_wearer_25 : decode cX9_wearer 25 = .ok (.istore_n 2, 1) := by decide +kernel
theorem dX9_wearer_26 : decode cX9_wearer 26 = .ok (.iload_n 2, 1) := by decide +kernel
theorem dX9_wearer_27 : decode cX9_wearer 27 = .ok (.ifCond .ge 11, 3) := by decide +kernel
theorem dX9_wearer_30 : decode cX9_wearer 30 = .ok (.aload_n 0, 1) := by decide +kernel
theorem dX9_wearer_31 : decode cX9_wearer 31 = .ok (.iconst 1, 1) := by decide +kernel
theorem dX9_wearer_32 : decode cX9_wearer 32 = .ok (.invokevirtual 74, 3) := by decide +kernel
theorem dX9_wearer_35 : decode cX9_wearer 35 = .ok (.goto 4, 3) := by decide +kernel
theorem dX9_wearer_38 : decode cX9_wearer 38 = .ok (.iload_n 2, 1) := by decide +kernel
theorem dX9_wearer_39 : decode cX9_wearer 39 = .ok (.ireturn, 1) := by decide +kernel
theorem dX9_wearerOf_0 : decode cX9_wearerOf 0 = .ok (.aload_n 0, 1) := by decide +kernel
theorem dX9_wearerOf_1 : decode cX9_wearerOf 1 = .ok (.iload_n 1, 1) := by decide +kernel
theorem dX9_wearerOf_2 : decode cX9_wearerOf 2 = .ok (.invokevirtual 146, 3) := by decide +kernel
theorem dX9_wearerOf_5 : decode cX9_wearerOf 5 = .ok (.ifCond .ne 9, 3) := by decide +kernel
theorem dX9_wearerOf_8 : decode cX9_wearerOf 8 = .ok (.aload_n 0, 1) := by decide +kernel
theorem dX9_wearerOf_9 : decode cX9_wearerOf 9 = .ok (.iconst 0, 1) := by decide +kernel
theorem dX9_wearerOf_10 : decode cX9_wearerOf 10 = .ok (.invokevirtual 74, 3) := by decide +kernel
theorem dX9_wearerOf_13 : decode cX9_wearerOf 13 = .ok (.ireturn, 1) := by decide +kernel
theorem dX9_wearerOf_14 : decode cX9_wearerOf 14 = .ok (.iload_n 2, 1) := by decide +kernel
theorem dX9_wearerOf_15 : decode cX9_wearerOf 15 = .ok (.tableswitch 68 0 3 #[29, 39, 49, 59], 29) := by decide +kernel
theorem dX9_wearerOf_44 : decode cX9_wearerOf 44 = .ok (.aload_n 0, 1) := by decide +kernel
theorem dX9_wearerOf_45 : decode cX9_wearerOf 45 = .ok (.getfield 30, 3) := by decide +kernel
theorem dX9_wearerOf_48 : decode cX9_wearerOf 48 = .ok (.getfield 149, 3) := by decide +kernel
theorem dX9_wearerOf_51 : decode cX9_wearerOf 51 = .ok (.iload_n 1, 1) := by decide +kernel
theorem dX9_wearerOf_52 : decode cX9_wearerOf 52 = .ok (.iaload, 1) := by decide +kernel
theorem dX9_wearerOf_53 : decode cX9_wearerOf 53 = .ok (.ireturn, 1) := by decide +kernel
theorem dX9_wearerOf_54 : decode cX9_wearerOf 54 = .ok (.aload_n 0, 1) := by decide +kernel
theorem dX9_wearerOf_55 : decode cX9_wearerOf 55 = .ok (.getfield 30, 3) := by decide +kernel
theorem dX9_wearerOf_58 : decode cX9_wearerOf 58 = .ok (.getfield 152, 3) := by decide +kernel
theorem dX9_wearerOf_61 : decode cX9_wearerOf 61 = .ok (.iload_n 1, 1) := by decide +kernel
theorem dX9_wearerOf_62 : decode cX9_wearerOf 62 = .ok (.iaload, 1) := by decide +kernel
theorem dX9_wearerOf_63 : decode cX9_wearerOf 63 = .ok (.ireturn, 1) := by decide +kernel
theorem dX9_wearerOf_64 : decode cX9_wearerOf 64 = .ok (.aload_n 0, 1) := by decide +kernel
theorem dX9_wearerOf_65 : decode cX9_wearerOf 65 = .ok (.getfield 30, 3) := by decide +kernel
theorem dX9_wearerOf_68 : decode cX9_wearerOf 68 = .ok (.getfield 155, 3) := by decide +kernel
theorem dX9_wearerOf_71 : decode cX9_wearerOf 71 = .ok (.iload_n 1, 1) := by decide +kernel
theorem dX9_wearerOf_72 : decode cX9_wearerOf 72 = .ok (.iaload, 1) := by decide +kernel
theorem dX9_wearerOf_73 : decode cX9_wearerOf 73 = .ok (.ireturn, 1) := by decide +kernel
theorem dX9_wearerOf_74 : decode cX9_wearerOf 74 = .ok (.aload_n 0, 1) := by decide +kernel
theorem dX9_wearerOf_75 : decode cX9_wearerOf 75 = .ok (.getfield 30, 3) := by decide +kernel
theorem dX9_wearerOf_78 : decode cX9_wearerOf 78 = .ok (.iload_n 1, 1) := by decide +kernel
theorem dX9_wearerOf_79 : decode cX9_wearerOf 79 = .ok (.invokevirtual 158, 3) := by decide +kernel
theorem dX9_wearerOf_82 : decode cX9_wearerOf 82 = .ok (.ireturn, 1) := by decide +kernel
theorem dX9_wearerOf_83 : decode cX9_wearerOf 83 = .ok (.aload_n 0, 1) := by decide +kernel
theorem dX9_wearerOf_84 : decode cX9_wearerOf 84 = .ok (.iconst 0, 1) := by decide +kernel
theorem dX9_wearerOf_85 : decode cX9_wearerOf 85 = .ok (.invokevirtual 74, 3) := by decide +kernel
theorem dX9_wearerOf_88 : decode cX9_wearerOf 88 = .ok (.ireturn, 1) := by decide +kernel
theorem dX9_give_0 : decode cX9_give 0 = .ok (.aload_n 0, 1) := by decide +kernel
theorem dX9_give_1 : decode cX9_give 1 = .ok (.iload_n 1, 1) := by decide +kernel
theorem dX9_give_2 : decode cX9_give 2 = .ok (.invokevirtual 146, 3) := by decide +kernel
theorem dX9_give_5 : decode cX9_give 5 = .ok (.ifCond .ne 9, 3) := by decide +kernel
theorem dX9_give_8 : decode cX9_give 8 = .ok (.aload_n 0, 1) := by decide +kernel
theorem dX9_give_9 : decode cX9_give 9 = .ok (.iconst 0, 1) := by decide +kernel
theorem dX9_give_10 : decode cX9_give 10 = .ok (.invokevirtual 74, 3) := by decide +kernel
theorem dX9_give_13 : decode cX9_give 13 = .ok (.ireturn, 1) := by decide +kernel
theorem dX9_give_14 : decode cX9_give 14 = .ok (.iload_n 2, 1) := by decide +kernel
theorem dX9_give_15 : decode cX9_give 15 = .ok (.ifCond .ne 38, 3) := by decide +kernel
theorem dX9_give_18 : decode cX9_give 18 = .ok (.iload_n 3, 1) := by decide +kernel
theorem dX9_give_19 : decode cX9_give 19 = .ok (.iconst 0, 1) := by decide +kernel
theorem dX9_give_20 : decode cX9_give 20 = .ok (.sipush 9999, 3) := by decide +kernel
theorem dX9_give_23 : decode cX9_give 23 = .ok (.invokestatic 70, 3) := by decide +kernel
theorem dX9_give_26 : decode cX9_give 26 = .ok (.ifCond .eq 27, 3) := by decide +kernel
theorem dX9_give_29 : decode cX9_give 29 = .ok (.aload_n 0, 1) := by decide +kernel
theorem dX9_give_30 : decode cX9_give 30 = .ok (.getfield 30, 3) := by decide +kernel
theorem dX9_give_33 : decode cX9_give 33 = .ok (.getfield 149, 3) := by decide +kernel
theorem dX9_give_36 : decode cX9_give 36 = .ok (.iload_n 1, 1) := by decide +kernel
theorem dX9_give_37 : decode cX9_give 37 = .ok (.iaload, 1) := by decide +kernel
theorem dX9_give_38 : decode cX9_give 38 = .ok (.istore 4, 2) := by decide +kernel
theorem dX9_give_40 : decode cX9_give 40 = .ok (.aload_n 0, 1) := by decide +kernel
theorem dX9_give_41 : decode cX9_give 41 = .ok (.getfield 30, 3) := by decide +kernel
theorem dX9_give_44 : decode cX9_give 44 = .ok (.getfield 149, 3) := by decide +kernel
theorem dX9_give_47 : decode cX9_give 47 = .ok (.iload_n 1, 1) := by decide +kernel
theorem dX9_give_48 : decode cX9_give 48 = .ok (.iload_n 3, 1) := by decide +kernel
theorem dX9_give_49 : decode cX9_give 49 = .ok (.iastore, 1) := by decide +kernel
theorem dX9_give_50 : decode cX9_give 50 = .ok (.iload 4, 2) := by decide +kernel
theorem dX9_give_52 : decode cX9_give 52 = .ok (.ireturn, 1) := by decide +kernel
theorem dX9_give_53 : decode cX9_give 53 = .ok (.iload_n 2, 1) := by decide +kernel
theorem dX9_give_54 : decode cX9_give 54 = .ok (.iconst 1, 1) := by decide +kernel
theorem dX9_give_55 : decode cX9_give 55 = .ok (.if_icmp .ne 34, 3) := by decide +kernel
theorem dX9_give_58 : decode cX9_give 58 = .ok (.iload_n 3, 1) := by decide +kernel
theorem dX9_give_59 : decode cX9_give 59 = .ok (.invokestatic 66, 3) := by decide +kernel
theorem dX9_give_62 : decode cX9_give 62 = .ok (.ifCond .eq 27, 3) := by decide +kernel
theorem dX9_give_65 : decode cX9_give 65 = .ok (.aload_n 0, 1) := by decide +kernel
theorem dX9_give_66 : decode cX9_give 66 = .ok (.getfield 30, 3) := by decide +kernel
theorem dX9_give_69 : decode cX9_give 69 = .ok (.getfield 152, 3) := by decide +kernel
theorem dX9_give_72 : decode cX9_give 72 = .ok (.iload_n 1, 1) := by decide +kernel
theorem dX9_give_73 : decode cX9_give 73 = .ok (.iaload, 1) := by decide +kernel
theorem dX9_give_74 : decode cX9_give 74 = .ok (.istore 4, 2) := by decide +kernel
theorem dX9_give_76 : decode cX9_give 76 = .ok (.aload_n 0, 1) := by decide +kernel
theorem dX9_give_77 : decode cX9_give 77 = .ok (.getfield 30, 3) := by decide +kernel
theorem dX9_give_80 : decode cX9_give 80 = .ok (.getfield 152, 3) := by decide +kernel
theorem dX9_give_83 : decode cX9_give 83 = .ok (.iload_n 1, 1) := by decide +kernel
theorem dX9_give_84 : decode cX9_give 84 = .ok (.iload_n 3, 1) := by decide +kernel
theorem dX9_give_85 : decode cX9_give 85 = .ok (.iastore, 1) := by decide +kernel
theorem dX9_give_86 : decode cX9_give 86 = .ok (.iload 4, 2) := by decide +kernel
theorem dX9_give_88 : decode cX9_give 88 = .ok (.ireturn, 1) := by decide +kernel
theorem dX9_give_89 : decode cX9_give 89 = .ok (.aload_n 0, 1) := by decide +kernel
theorem dX9_give_90 : decode cX9_give 90 = .ok (.iconst 0, 1) := by decide +kernel
theorem dX9_give_91 : decode cX9_give 91 = .ok (.invokevirtual 74, 3) := by decide +kernel
theorem dX9_give_94 : decode cX9_give 94 = .ok (.ireturn, 1) := by decide +kernel
theorem dX9_hire_0 : decode cX9_hire 0 = .ok (.aload_n 0, 1) := by decide +kernel
theorem dX9_hire_1 : decode cX9_hire 1 = .ok (.iload_n 1, 1) := by decide +kernel
theorem dX9_hire_2 : decode cX9_hire 2 = .ok (.invokevirtual 146, 3) := by decide +kernel
theorem dX9_hire_5 : decode cX9_hire 5 = .ok (.ifCond .eq 11, 3) := by decide +kernel
theorem dX9_hire_8 : decode cX9_hire 8 = .ok (.aload_n 0, 1) := by decide +kernel
theorem dX9_hire_9 : decode cX9_hire 9 = .ok (.iload_n 2, 1) := by decide +kernel
theorem dX9_hire_10 : decode cX9_hire 10 = .ok (.invokevirtual 81, 3) := by decide +kernel
theorem dX9_hire_13 : decode cX9_hire 13 = .ok (.ifCond .ne 9, 3) := by decide +kernel
theorem dX9_hire_16 : decode cX9_hire 16 = .ok (.aload_n 0, 1) := by decide +kernel
theorem dX9_hire_17 : decode cX9_hire 17 = .ok (.iconst 0, 1) := by decide +kernel
theorem dX9_hire_18 : decode cX9_hire 18 = .ok (.invokevirtual 74, 3) := by decide +kernel
theorem dX9_hire_21 : decode cX9_hire 21 = .ok (.ireturn, 1) := by decide +kernel
theorem dX9_hire_22 : decode cX9_hire 22 = .ok (.aload_n 0, 1) := by decide +kernel
theorem dX9_hire_23 : decode cX9_hire 23 = .ok (.getfield 30, 3) := by decide +kernel
theorem dX9_hire_26 : decode cX9_hire 26 = .ok (.getfield 155, 3) := by decide +kernel
theorem dX9_hire_29 : decode cX9_hire 29 = .ok (.iload_n 1, 1) := by decide +kernel
theorem dX9_hire_30 : decode cX9_hire 30 = .ok (.iaload, 1) := by decide +kernel
theorem dX9_hire_31 : decode cX9_hire 31 = .ok (.iconst (-1), 1) := by decide +kernel
theorem dX9_hire_32 : decode cX9_hire 32 = .ok (.if_icmp .ne 16, 3) := by decide +kernel
theorem dX9_hire_35 : decode cX9_hire 35 = .ok (.aload_n 0, 1) := by decide +kernel
theorem dX9_hire_36 : decode cX9_hire 36 = .ok (.getfield 30, 3) := by decide +kernel
theorem dX9_hire_39 : decode cX9_hire 39 = .ok (.getfield 123, 3) := by decide +kernel
theorem dX9_hire_42 : decode cX9_hire 42 = .ok (.iload_n 2, 1) := by decide +kernel
theorem dX9_hire_43 : decode cX9_hire 43 = .ok (.iaload, 1) := by decide +kernel
theorem dX9_hire_44 : decode cX9_hire 44 = .ok (.iconst (-1), 1) := by decide +kernel
theorem dX9_hire_45 : decode cX9_hire 45 = .ok (.if_icmp .eq 9, 3) := by decide +kernel
theorem dX9_hire_48 : decode cX9_hire 48 = .ok (.aload_n 0, 1) := by decide +kernel
theorem dX9_hire_49 : decode cX9_hire 49 = .ok (.iconst 4, 1) := by decide +kernel
theorem dX9_hire_50 : decode cX9_hire 50 = .ok (.invokevirtual 74, 3) := by decide +kernel
theorem dX9_hire_53 : decode cX9_hire 53 = .ok (.ireturn, 1) := by decide +kernel
theorem dX9_hire_54 : decode cX9_hire 54 = .ok (.aload_n 0, 1) := by decide +kernel
theorem dX9_hire_55 : decode cX9_hire 55 = .ok (.getfield 30, 3) := by decide +kernel
theorem dX9_hire_58 : decode cX9_hire 58 = .ok (.iload_n 1, 1) := by decide +kernel
theorem dX9_hire_59 : decode cX9_hire 59 = .ok (.iload_n 2, 1) := by decide +kernel
theorem dX9_hire_60 : decode cX9_hire 60 = .ok (.invokevirtual 161, 3) := by decide +kernel
theorem dX9_hire_63 : decode cX9_hire 63 = .ok (.aload_n 0, 1) := by decide +kernel
theorem dX9_hire_64 : decode cX9_hire 64 = .ok (.getfield 30, 3) := by decide +kernel
theorem dX9_hire_67 : decode cX9_hire 67 = .ok (.iload_n 2, 1) := by decide +kernel
theorem dX9_hire_68 : decode cX9_hire 68 = .ok (.invokevirtual 126, 3) := by decide +kernel
theorem dX9_hire_71 : decode cX9_hire 71 = .ok (.ireturn, 1) := by decide +kernel
theorem dX9_back_0 : decode cX9_back 0 = .ok (.aload_n 0, 1) := by decide +kernel
theorem dX9_back_1 : decode cX9_back 1 = .ok (.iload_n 1, 1) := by decide +kernel
theorem dX9_back_2 : decode cX9_back 2 = .ok (.invokevirtual 81, 3) := by decide +kernel
theorem dX9_back_5 : decode cX9_back 5 = .ok (.ifCond .ne 9, 3) := by decide +kernel
theorem dX9_back_8 : decode cX9_back 8 = .ok (.aload_n 0, 1) := by decide +kernel
theorem dX9_back_9 : decode cX9_back 9 = .ok (.iconst 0, 1) := by decide +kernel
theorem dX9_back_10 : decode cX9_back 10 = .ok (.invokevirtual 74, 3) := by decide +kernel
theorem dX9_back_13 : decode cX9_back 13 = .ok (.ireturn, 1) := by decide +kernel
theorem dX9_back_14 : decode cX9_back 14 = .ok (.aload_n 0, 1) := by decide +kernel
theorem dX9_back_15 : decode cX9_back 15 = .ok (.getfield 30, 3) := by decide +kernel
theorem dX9_back_18 : decode cX9_back 18 = .ok (.getfield 123, 3) := by decide +kernel
theorem dX9_back_21 : decode cX9_back 21 = .ok (.iload_n 1, 1) := by decide +kernel
theorem dX9_back_22 : decode cX9_back 22 = .ok (.iaload, 1) := by decide +kernel
theorem dX9_back_23 : decode cX9_back 23 = .ok (.istore_n 2, 1) := by decide +kernel
theorem dX9_back_24 : decode cX9_back 24 = .ok (.iload_n 2, 1) := by decide +kernel
theorem dX9_back_25 : decode cX9_back 25 = .ok (.iconst (-1), 1) := by decide +kernel
theorem dX9_back_26 : decode cX9_back 26 = .ok (.if_icmp .ne 9, 3) := by decide +kernel
theorem dX9_back_29 : decode cX9_back 29 = .ok (.aload_n 0, 1) := by decide +kernel
theorem dX9_back_30 : decode cX9_back 30 = .ok (.iconst 4, 1) := by decide +kernel
theorem dX9_back_31 : decode cX9_back 31 = .ok (.invokevirtual 74, 3) := by decide +kernel
theorem dX9_back_34 : decode cX9_back 34 = .ok (.ireturn, 1) := by decide +kernel
theorem dX9_back_35 : decode cX9_back 35 = .ok (.aload_n 0, 1) := by decide +kernel
theorem dX9_back_36 : decode cX9_back 36 = .ok (.getfield 30, 3) := by decide +kernel
theorem dX9_back_39 : decode cX9_back 39 = .ok (.iload_n 2, 1) := by decide +kernel
theorem dX9_back_40 : decode cX9_back 40 = .ok (.iload_n 1, 1) := by decide +kernel
theorem dX9_back_41 : decode cX9_back 41 = .ok (.invokevirtual 165, 3) := by decide +kernel
theorem dX9_back_44 : decode cX9_back 44 = .ok (.iload_n 2, 1) := by decide +kernel
theorem dX9_back_45 : decode cX9_back 45 = .ok (.ireturn, 1) := by decide +kernel
theorem dX9_nights_0 : decode cX9_nights 0 = .ok (.iload_n 1, 1) := by decide +kernel
theorem dX9_nights_1 : decode cX9_nights 1 = .ok (.iconst 1, 1) := by decide +kernel
theorem dX9_nights_2 : decode cX9_nights 2 = .ok (.bipush 100, 2) := by decide +kernel
theorem dX9_nights_4 : decode cX9_nights 4 = .ok (.invokestatic 70, 3) := by decide +kernel
theorem dX9_nights_7 : decode cX9_nights 7 = .ok (.ifCond .ne 9, 3) := by decide +kernel
theorem dX9_nights_10 : decode cX9_nights 10 = .ok (.aload_n 0, 1) := by decide +kernel
theorem dX9_nights_11 : decode cX9_nights 11 = .ok (.iconst 0, 1) := by decide +kernel
theorem dX9_nights_12 : decode cX9_nights 12 = .ok (.invokevirtual 74, 3) := by decide +kernel
theorem dX9_nights_15 : decode cX9_nights 15 = .ok (.ireturn, 1) := by decide +kernel
theorem dX9_nights_16 : decode cX9_nights 16 = .ok (.aload_n 0, 1) := by decide +kernel
theorem dX9_nights_17 : decode cX9_nights 17 = .ok (.getfield 30, 3) := by decide +kernel
theorem dX9_nights_20 : decode cX9_nights 20 = .ok (.getfield 90, 3) := by decide +kernel
theorem dX9_nights_23 : decode cX9_nights 23 = .ok (.iload_n 1, 1) := by decide +kernel
theorem dX9_nights_24 : decode cX9_nights 24 = .ok (.iadd, 1) := by decide +kernel
theorem dX9_nights_25 : decode cX9_nights 25 = .ok (.ldc 168, 2) := by decide +kernel
theorem dX9_nights_27 : decode cX9_nights 27 = .ok (.if_icmp .le 9, 3) := by decide +kernel
theorem dX9_nights_30 : decode cX9_nights 30 = .ok (.aload_n 0, 1) := by decide +kernel
theorem dX9_nights_31 : decode cX9_nights 31 = .ok (.iconst 4, 1) := by decide +kernel
theorem dX9_nights_32 : decode cX9_nights 32 = .ok (.invokevirtual 74, 3) := by decide +kernel
theorem dX9_nights_35 : decode cX9_nights 35 = .ok (.ireturn, 1) := by decide +kernel
theorem dX9_nights_36 : decode cX9_nights 36 = .ok (.aload_n 0, 1) := by decide +kernel
theorem dX9_nights_37 : decode cX9_nights 37 = .ok (.getfield 30, 3) := by decide +kernel
theorem dX9_nights_40 : decode cX9_nights 40 = .ok (.iload_n 1, 1) := by decide +kernel
theorem dX9_nights_41 : decode cX9_nights 41 = .ok (.invokevirtual 169, 3) := by decide +kernel
theorem dX9_nights_44 : decode cX9_nights 44 = .ok (.aload_n 0, 1) := by decide +kernel
theorem dX9_nights_45 : decode cX9_nights 45 = .ok (.getfield 30, 3) := by decide +kernel
theorem dX9_nights_48 : decode cX9_nights 48 = .ok (.invokevirtual 105, 3) := by decide +kernel
theorem dX9_nights_51 : decode cX9_nights 51 = .ok (.ireturn, 1) := by decide +kernel
theorem dX9_on_0 : decode cX9_on 0 = .ok (.aload_n 0, 1) := by decide +kernel
theorem dX9_on_1 : decode cX9_on 1 = .ok (.iload_n 1, 1) := by decide +kernel
theorem dX9_on_2 : decode cX9_on 2 = .ok (.invokevirtual 146, 3) := by decide +kernel
theorem dX9_on_5 : decode cX9_on 5 = .ok (.ifCond .eq 23, 3) := by decide +kernel
theorem dX9_on_8 : decode cX9_on 8 = .ok (.iload_n 2, 1) := by decide +kernel
theorem dX9_on_9 : decode cX9_on 9 = .ok (.iconst 0, 1) := by decide +kernel
theorem dX9_on_10 : decode cX9_on 10 = .ok (.sipush 200, 3) := by decide +kernel
theorem dX9_on_13 : decode cX9_on 13 = .ok (.invokestatic 70, 3) := by decide +kernel
theorem dX9_on_16 : decode cX9_on 16 = .ok (.ifCond .eq 12, 3) := by decide +kernel
theorem dX9_on_19 : decode cX9_on 19 = .ok (.iload_n 3, 1) := by decide +kernel
theorem dX9_on_20 : decode cX9_on 20 = .ok (.iconst 0, 1) := by decide +kernel
theorem dX9_on_21 : decode cX9_on 21 = .ok (.iconst 1, 1) := by decide +kernel
theorem dX9_on_22 : decode cX9_on 22 = .ok (.invokestatic 70, 3) := by decide +kernel
theorem dX9_on_25 : decode cX9_on 25 = .ok (.ifCond .ne 9, 3) := by decide +kernel
theorem dX9_on_28 : decode cX9_on 28 = .ok (.aload_n 0, 1) := by decide +kernel
theorem dX9_on_29 : decode cX9_on 29 = .ok (.iconst 0, 1) := by decide +kernel
theorem dX9_on_30 : decode cX9_on 30 = .ok (.invokevirtual 74, 3) := by decide +kernel
theorem dX9_on_33 : decode cX9_on 33 = .ok (.ireturn, 1) := by decide +kernel
theorem dX9_on_34 : decode cX9_on 34 = .ok (.aload_n 0, 1) := by decide +kernel
theorem dX9_on_35 : decode cX9_on 35 = .ok (.getfield 36, 3) := by decide +kernel
theorem dX9_on_38 : decode cX9_on 38 = .ok (.aload_n 0, 1) := by decide +kernel
theorem dX9_on_39 : decode cX9_on 39 = .ok (.getfield 30, 3) := by decide +kernel
theorem dX9_on_42 : decode cX9_on 42 = .ok (.invokevirtual 173, 3) := by decide +kernel
theorem dX9_on_45 : decode cX9_on 45 = .ok (.aload_n 0, 1) := by decide +kernel
theorem dX9_on_46 : decode cX9_on 46 = .ok (.getfield 36, 3) := by decide +kernel
theorem dX9_on_49 : decode cX9_on 49 = .ok (.iload_n 1, 1) := by decide +kernel
theorem dX9_on_50 : decode cX9_on 50 = .ok (.iload_n 2, 1) := by decide +kernel
theorem dX9_on_51 : decode cX9_on 51 = .ok (.invokevirtual 177, 3) := by decide +kernel
theorem dX9_on_54 : decode cX9_on 54 = .ok (.iload_n 3, 1) := by decide +kernel
theorem dX9_on_55 : decode cX9_on 55 = .ok (.ifCond .ne 15, 3) := by decide +kernel
theorem dX9_on_58 : decode cX9_on 58 = .ok (.aload_n 0, 1) := by decide +kernel
theorem dX9_on_59 : decode cX9_on 59 = .ok (.getfield 36, 3) := by decide +kernel
theorem dX9_on_62 : decode cX9_on 62 = .ok (.getfield 149, 3) := by decide +kernel
theorem dX9_on_65 : decode cX9_on 65 = .ok (.iload_n 1, 1) := by decide +kernel
theorem dX9_on_66 : decode cX9_on 66 = .ok (.iaload, 1) := by decide +kernel
theorem dX9_on_67 : decode cX9_on 67 = .ok (.goto 12, 3) := by decide +kernel
theorem dX9_on_70 : decode cX9_on 70 = .ok (.aload_n 0, 1) := by decide +kernel
theorem dX9_on_71 : decode cX9_on 71 = .ok (.getfield 36, 3) := by decide +kernel
theorem dX9_on_74 : decode cX9_on 74 = .ok (.getfield 155, 3) := by decide +kernel
theorem dX9_on_77 : decode cX9_on 77 = .ok (.iload_n 1, 1) := by decide +kernel
theorem dX9_on_78 : decode cX9_on 78 = .ok (.iaload, 1) := by decide +kernel
theorem dX9_on_79 : decode cX9_on 79 = .ok (.ireturn, 1) := by decide +kernel
theorem dX9_then_0 : decode cX9_then 0 = .ok (.aload_n 0, 1) := by decide +kernel
theorem dX9_then_1 : decode cX9_then 1 = .ok (.iload_n 1, 1) := by decide +kernel
theorem dX9_then_2 : decode cX9_then 2 = .ok (.invokevirtual 81, 3) := by decide +kernel
theorem dX9_then_5 : decode cX9_then 5 = .ok (.ifCond .eq 23, 3) := by decide +kernel
theorem dX9_then_8 : decode cX9_then 8 = .ok (.iload_n 2, 1) := by decide +kernel
theorem dX9_then_9 : decode cX9_then 9 = .ok (.iconst 0, 1) := by decide +kernel
theorem dX9_then_10 : decode cX9_then 10 = .ok (.sipush 200, 3) := by decide +kernel
theorem dX9_then_13 : decode cX9_then 13 = .ok (.invokestatic 70, 3) := by decide +kernel
theorem dX9_then_16 : decode cX9_then 16 = .ok (.ifCond .eq 12, 3) := by decide +kernel
theorem dX9_then_19 : decode cX9_then 19 = .ok (.iload_n 3, 1) := by decide +kernel
theorem dX9_then_20 : decode cX9_then 20 = .ok (.iconst 0, 1) := by decide +kernel
theorem dX9_then_21 : decode cX9_then 21 = .ok (.iconst 1, 1) := by decide +kernel
theorem dX9_then_22 : decode cX9_then 22 = .ok (.invokestatic 70, 3) := by decide +kernel
theorem dX9_then_25 : decode cX9_then 25 = .ok (.ifCond .ne 9, 3) := by decide +kernel
theorem dX9_then_28 : decode cX9_then 28 = .ok (.aload_n 0, 1) := by decide +kernel
theorem dX9_then_29 : decode cX9_then 29 = .ok (.iconst 0, 1) := by decide +kernel
theorem dX9_then_30 : decode cX9_then 30 = .ok (.invokevirtual 74, 3) := by decide +kernel
theorem dX9_then_33 : decode cX9_then 33 = .ok (.ireturn, 1) := by decide +kernel
theorem dX9_then_34 : decode cX9_then 34 = .ok (.aload_n 0, 1) := by decide +kernel
theorem dX9_then_35 : decode cX9_then 35 = .ok (.getfield 36, 3) := by decide +kernel
theorem dX9_then_38 : decode cX9_then 38 = .ok (.aload_n 0, 1) := by decide +kernel
theorem dX9_then_39 : decode cX9_then 39 = .ok (.getfield 30, 3) := by decide +kernel
theorem dX9_then_42 : decode cX9_then 42 = .ok (.invokevirtual 173, 3) := by decide +kernel
theorem dX9_then_45 : decode cX9_then 45 = .ok (.aload_n 0, 1) := by decide +kernel
theorem dX9_then_46 : decode cX9_then 46 = .ok (.getfield 36, 3) := by decide +kernel
theorem dX9_then_49 : decode cX9_then 49 = .ok (.iload_n 2, 1) := by decide +kernel
theorem dX9_then_50 : decode cX9_then 50 = .ok (.invokevirtual 169, 3) := by decide +kernel
theorem dX9_then_53 : decode cX9_then 53 = .ok (.iload_n 3, 1) := by decide +kernel
theorem dX9_then_54 : decode cX9_then 54 = .ok (.ifCond .ne 15, 3) := by decide +kernel
theorem dX9_then_57 : decode cX9_then 57 = .ok (.aload_n 0, 1) := by decide +kernel
theorem dX9_then_58 : decode cX9_then 58 = .ok (.getfield 36, 3) := by decide +kernel
theorem dX9_then_61 : decode cX9_then 61 = .ok (.getfield 117, 3) := by decide +kernel
theorem dX9_then_64 : decode cX9_then 64 = .ok (.iload_n 1, 1) := by decide +kernel
theorem dX9_then_65 : decode cX9_then 65 = .ok (.iaload, 1) := by decide +kernel
theorem dX9_then_66 : decode cX9_then 66 = .ok (.goto 12, 3) := by decide +kernel
theorem dX9_then_69 : decode cX9_then 69 = .ok (.aload_n 0, 1) := by decide +kernel
theorem dX9_then_70 : decode cX9_then 70 = .ok (.getfield 36, 3) := by decide +kernel
theorem dX9_then_73 : decode cX9_then 73 = .ok (.getfield 120, 3) := by decide +kernel
theorem dX9_then_76 : decode cX9_then 76 = .ok (.iload_n 1, 1) := by decide +kernel
theorem dX9_then_77 : decode cX9_then 77 = .ok (.iaload, 1) := by decide +kernel
theorem dX9_then_78 : decode cX9_then 78 = .ok (.ireturn, 1) := by decide +kernel
theorem dX9_fond_0 : decode cX9_fond 0 = .ok (.iload_n 1, 1) := by decide +kernel
theorem dX9_fond_1 : decode cX9_fond 1 = .ok (.invokestatic 66, 3) := by decide +kernel
theorem dX9_fond_4 : decode cX9_fond 4 = .ok (.ifCond .eq 14, 3) := by decide +kernel
theorem dX9_fond_7 : decode cX9_fond 7 = .ok (.iload_n 2, 1) := by decide +kernel
theorem dX9_fond_8 : decode cX9_fond 8 = .ok (.iconst 0, 1) := by decide +kernel
theorem dX9_fond_9 : decode cX9_fond 9 = .ok (.sipush 200, 3) := by decide +kernel
theorem dX9_fond_12 : decode cX9_fond 12 = .ok (.invokestatic 70, 3) := by decide +kernel
theorem dX9_fond_15 : decode cX9_fond 15 = .ok (.ifCond .ne 9, 3) := by decide +kernel
theorem dX9_fond_18 : decode cX9_fond 18 = .ok (.aload_n 0, 1) := by decide +kernel
theorem dX9_fond_19 : decode cX9_fond 19 = .ok (.iconst 0, 1) := by decide +kernel
theorem dX9_fond_20 : decode cX9_fond 20 = .ok (.invokevirtual 74, 3) := by decide +kernel
theorem dX9_fond_23 : decode cX9_fond 23 = .ok (.ireturn, 1) := by decide +kernel
theorem dX9_fond_24 : decode cX9_fond 24 = .ok (.aload_n 0, 1) := by decide +kernel
theorem dX9_fond_25 : decode cX9_fond 25 = .ok (.getfield 36, 3) := by decide +kernel
theorem dX9_fond_28 : decode cX9_fond 28 = .ok (.aload_n 0, 1) := by decide +kernel
theorem dX9_fond_29 : decode cX9_fond 29 = .ok (.getfield 30, 3) := by decide +kernel
theorem dX9_fond_32 : decode cX9_fond 32 = .ok (.invokevirtual 173, 3) := by decide +kernel
theorem dX9_fond_35 : decode cX9_fond 35 = .ok (.aload_n 0, 1) := by decide +kernel
theorem dX9_fond_36 : decode cX9_fond 36 = .ok (.getfield 36, 3) := by decide +kernel
theorem dX9_fond_39 : decode cX9_fond 39 = .ok (.iload_n 2, 1) := by decide +kernel
theorem dX9_fond_40 : decode cX9_fond 40 = .ok (.invokevirtual 169, 3) := by decide +kernel
theorem dX9_fond_43 : decode cX9_fond 43 = .ok (.aload_n 0, 1) := by decide +kernel
theorem dX9_fond_44 : decode cX9_fond 44 = .ok (.getfield 36, 3) := by decide +kernel
theorem dX9_fond_47 : decode cX9_fond 47 = .ok (.getfield 78, 3) := by decide +kernel
theorem dX9_fond_50 : decode cX9_fond 50 = .ok (.iload_n 1, 1) := by decide +kernel
theorem dX9_fond_51 : decode cX9_fond 51 = .ok (.iaload, 1) := by decide +kernel
theorem dX9_fond_52 : decode cX9_fond 52 = .ok (.ireturn, 1) := by decide +kernel
theorem dX9_home_0 : decode cX9_home 0 = .ok (.aload_n 0, 1) := by decide +kernel
theorem dX9_home_1 : decode cX9_home 1 = .ok (.iload_n 1, 1) := by decide +kernel
theorem dX9_home_2 : decode cX9_home 2 = .ok (.invokevirtual 81, 3) := by decide +kernel
theorem dX9_home_5 : decode cX9_home 5 = .ok (.ifCond .ne 9, 3) := by decide +kernel
theorem dX9_home_8 : decode cX9_home 8 = .ok (.aload_n 0, 1) := by decide +kernel
theorem dX9_home_9 : decode cX9_home 9 = .ok (.iconst 0, 1) := by decide +kernel
theorem dX9_home_10 : decode cX9_home 10 = .ok (.invokevirtual 74, 3) := by decide +kernel
theorem dX9_home_13 : decode cX9_home 13 = .ok (.ireturn, 1) := by decide +kernel
theorem dX9_home_14 : decode cX9_home 14 = .ok (.aload_n 0, 1) := by decide +kernel
theorem dX9_home_15 : decode cX9_home 15 = .ok (.getfield 36, 3) := by decide +kernel
theorem dX9_home_18 : decode cX9_home 18 = .ok (.aload_n 0, 1) := by decide +kernel
theorem dX9_home_19 : decode cX9_home 19 = .ok (.getfield 30, 3) := by decide +kernel
theorem dX9_home_22 : decode cX9_home 22 = .ok (.invokevirtual 173, 3) := by decide +kernel
theorem dX9_home_25 : decode cX9_home 25 = .ok (.iconst 0, 1) := by decide +kernel
theorem dX9_home_26 : decode cX9_home 26 = .ok (.istore_n 2, 1) := by decide +kernel
theorem dX9_home_27 : decode cX9_home 27 = .ok (.iload_n 2, 1) := by decide +kernel
theorem dX9_home_28 : decode cX9_home 28 = .ok (.sipush 200, 3) := by decide +kernel
theorem dX9_home_31 : decode cX9_home 31 = .ok (.if_icmp .gt 31, 3) := by decide +kernel
theorem dX9_home_34 : decode cX9_home 34 = .ok (.aload_n 0, 1) := by decide +kernel
theorem dX9_home_35 : decode cX9_home 35 = .ok (.getfield 36, 3) := by decide +kernel
theorem dX9_home_38 : decode cX9_home 38 = .ok (.getfield 123, 3) := by decide +kernel
theorem dX9_home_41 : decode cX9_home 41 = .ok (.iload_n 1, 1) := by decide +kernel
theorem dX9_home_42 : decode cX9_home 42 = .ok (.iaload, 1) := by decide +kernel
theorem dX9_home_43 : decode cX9_home 43 = .ok (.iconst (-1), 1) := by decide +kernel
theorem dX9_home_44 : decode cX9_home 44 = .ok (.if_icmp .ne 5, 3) := by decide +kernel
theorem dX9_home_47 : decode cX9_home 47 = .ok (.iload_n 2, 1) := by decide +kernel
theorem dX9_home_48 : decode cX9_home 48 = .ok (.ireturn, 1) := by decide +kernel
theorem dX9_home_49 : decode cX9_home 49 = .ok (.aload_n 0, 1) := by decide +kernel
theorem dX9_home_50 : decode cX9_home 50 = .ok (.getfield 36, 3) := by decide +kernel
theorem dX9_home_53 : decode cX9_home 53 = .ok (.invokevirtual 180, 3) := by decide +kernel
theorem dX9_home_56 : decode cX9_home 56 = .ok (.iinc 2 1, 3) := by decide +kernel
theorem dX9_home_59 : decode cX9_home 59 = .ok (.goto (-32), 3) := by decide +kernel
theorem dX9_home_62 : decode cX9_home 62 = .ok (.aload_n 0, 1) := by decide +kernel
theorem dX9_home_63 : decode cX9_home 63 = .ok (.iconst 3, 1) := by decide +kernel
theorem dX9_home_64 : decode cX9_home 64 = .ok (.invokevirtual 74, 3) := by decide +kernel
theorem dX9_home_67 : decode cX9_home 67 = .ok (.ireturn, 1) := by decide +kernel
theorem dX9_falls_0 : decode cX9_falls 0 = .ok (.aload_n 0, 1) := by decide +kernel
theorem dX9_falls_1 : decode cX9_falls 1 = .ok (.iload_n 1, 1) := by decide +kernel
theorem dX9_falls_2 : decode cX9_falls 2 = .ok (.invokevirtual 146, 3) := by decide +kernel
theorem dX9_falls_5 : decode cX9_falls 5 = .ok (.ifCond .eq 14, 3) := by decide +kernel
theorem dX9_falls_8 : decode cX9_falls 8 = .ok (.iload_n 2, 1) := by decide +kernel
theorem dX9_falls_9 : decode cX9_falls 9 = .ok (.iconst 0, 1) := by decide +kernel
theorem dX9_falls_10 : decode cX9_falls 10 = .ok (.sipush 9999, 3) := by decide +kernel
theorem dX9_falls_13 : decode cX9_falls 13 = .ok (.invokestatic 70, 3) := by decide +kernel
theorem dX9_falls_16 : decode cX9_falls 16 = .ok (.ifCond .ne 9, 3) := by decide +kernel
theorem dX9_falls_19 : decode cX9_falls 19 = .ok (.aload_n 0, 1) := by decide +kernel
theorem dX9_falls_20 : decode cX9_falls 20 = .ok (.iconst 0, 1) := by decide +kernel
theorem dX9_falls_21 : decode cX9_falls 21 = .ok (.invokevirtual 74, 3) := by decide +kernel
theorem dX9_falls_24 : decode cX9_falls 24 = .ok (.ireturn, 1) := by decide +kernel
theorem dX9_falls_25 : decode cX9_falls 25 = .ok (.aload_n 0, 1) := by decide +kernel
theorem dX9_falls_26 : decode cX9_falls 26 = .ok (.getfield 36, 3) := by decide +kernel
theorem dX9_falls_29 : decode cX9_falls 29 = .ok (.aload_n 0, 1) := by decide +kernel
theorem dX9_falls_30 : decode cX9_falls 30 = .ok (.getfield 30, 3) := by decide +kernel
theorem dX9_falls_33 : decode cX9_falls 33 = .ok (.invokevirtual 173, 3) := by decide +kernel
theorem dX9_falls_36 : decode cX9_falls 36 = .ok (.iconst 0, 1) := by decide +kernel
theorem dX9_falls_37 : decode cX9_falls 37 = .ok (.istore_n 3, 1) := by decide +kernel
theorem dX9_falls_38 : decode cX9_falls 38 = .ok (.iload_n 3, 1) := by decide +kernel
theorem dX9_falls_39 : decode cX9_falls 39 = .ok (.sipush 200, 3) := by decide +kernel
theorem dX9_falls_42 : decode cX9_falls 42 = .ok (.if_icmp .gt 31, 3) := by decide +kernel
theorem dX9_falls_45 : decode cX9_falls 45 = .ok (.aload_n 0, 1) := by decide +kernel
theorem dX9_falls_46 : decode cX9_falls 46 = .ok (.getfield 36, 3) := by decide +kernel
theorem dX9_falls_49 : decode cX9_falls 49 = .ok (.getfield 149, 3) := by decide +kernel
theorem dX9_falls_52 : decode cX9_falls 52 = .ok (.iload_n 1, 1) := by decide +kernel
theorem dX9_falls_53 : decode cX9_falls 53 = .ok (.iaload, 1) := by decide +kernel
theorem dX9_falls_54 : decode cX9_falls 54 = .ok (.iload_n 2, 1) := by decide +kernel
theorem dX9_falls_55 : decode cX9_falls 55 = .ok (.if_icmp .gt 5, 3) := by decide +kernel
theorem dX9_falls_58 : decode cX9_falls 58 = .ok (.iload_n 3, 1) := by decide +kernel
theorem dX9_falls_59 : decode cX9_falls 59 = .ok (.ireturn, 1) := by decide +kernel
theorem dX9_falls_60 : decode cX9_falls 60 = .ok (.aload_n 0, 1) := by decide +kernel
theorem dX9_falls_61 : decode cX9_falls 61 = .ok (.getfield 36, 3) := by decide +kernel
theorem dX9_falls_64 : decode cX9_falls 64 = .ok (.invokevirtual 180, 3) := by decide +kernel
theorem dX9_falls_67 : decode cX9_falls 67 = .ok (.iinc 3 1, 3) := by decide +kernel
theorem dX9_falls_70 : decode cX9_falls 70 = .ok (.goto (-32), 3) := by decide +kernel
theorem dX9_falls_73 : decode cX9_falls 73 = .ok (.aload_n 0, 1) := by decide +kernel
theorem dX9_falls_74 : decode cX9_falls 74 = .ok (.iconst 3, 1) := by decide +kernel
theorem dX9_falls_75 : decode cX9_falls 75 = .ok (.invokevirtual 74, 3) := by decide +kernel
theorem dX9_falls_78 : decode cX9_falls 78 = .ok (.ireturn, 1) := by decide +kernel
theorem dX9_best_0 : decode cX9_best 0 = .ok (.aload_n 0, 1) := by decide +kernel
theorem dX9_best_1 : decode cX9_best 1 = .ok (.iload_n 1, 1) := by decide +kernel
theorem dX9_best_2 : decode cX9_best 2 = .ok (.invokevirtual 146, 3) := by decide +kernel
theorem dX9_best_5 : decode cX9_best 5 = .ok (.ifCond .eq 13, 3) := by decide +kernel
theorem dX9_best_8 : decode cX9_best 8 = .ok (.iload_n 2, 1) := by decide +kernel
theorem dX9_best_9 : decode cX9_best 9 = .ok (.iconst 1, 1) := by decide +kernel
theorem dX9_best_10 : decode cX9_best 10 = .ok (.bipush 60, 2) := by decide +kernel
theorem dX9_best_12 : decode cX9_best 12 = .ok (.invokestatic 70, 3) := by decide +kernel
theorem dX9_best_15 : decode cX9_best 15 = .ok (.ifCond .ne 9, 3) := by decide +kernel
theorem dX9_best_18 : decode cX9_best 18 = .ok (.aload_n 0, 1) := by decide +kernel
theorem dX9_best_19 : decode cX9_best 19 = .ok (.iconst 0, 1) := by decide +kernel
theorem dX9_best_20 : decode cX9_best 20 = .ok (.invokevirtual 74, 3) := by decide +kernel
theorem dX9_best_23 : decode cX9_best 23 = .ok (.ireturn, 1) := by decide +kernel
theorem dX9_best_24 : decode cX9_best 24 = .ok (.aload_n 0, 1) := by decide +kernel
theorem dX9_best_25 : decode cX9_best 25 = .ok (.getfield 30, 3) := by decide +kernel
theorem dX9_best_28 : decode cX9_best 28 = .ok (.getfield 155, 3) := by decide +kernel
theorem dX9_best_31 : decode cX9_best 31 = .ok (.iload_n 1, 1) := by decide +kernel
theorem dX9_best_32 : decode cX9_best 32 = .ok (.iaload, 1) := by decide +kernel
theorem dX9_best_33 : decode cX9_best 33 = .ok (.iconst (-1), 1) := by decide +kernel
theorem dX9_best_34 : decode cX9_best 34 = .ok (.if_icmp .eq 9, 3) := by decide +kernel
theorem dX9_best_37 : decode cX9_best 37 = .ok (.aload_n 0, 1) := by decide +kernel
theorem dX9_best_38 : decode cX9_best 38 = .ok (.iconst 4, 1) := by decide +kernel
theorem dX9_best_39 : decode cX9_best 39 = .ok (.invokevirtual 74, 3) := by decide +kernel
theorem dX9_best_42 : decode cX9_best 42 = .ok (.ireturn, 1) := by decide +kernel
theorem dX9_best_43 : decode cX9_best 43 = .ok (.iconst (-1), 1) := by decide +kernel
theorem dX9_best_44 : decode cX9_best 44 = .ok (.istore_n 3, 1) := by decide +kernel
theorem dX9_best_45 : decode cX9_best 45 = .ok (.iconst (-1), 1) := by decide +kernel
theorem dX9_best_46 : decode cX9_best 46 = .ok (.istore 4, 2) := by decide +kernel
theorem dX9_best_48 : decode cX9_best 48 = .ok (.iconst 0, 1) := by decide +kernel
theorem dX9_best_49 : decode cX9_best 49 = .ok (.istore 5, 2) := by decide +kernel
theorem dX9_best_51 : decode cX9_best 51 = .ok (.iload 5, 2) := by decide +kernel
theorem dX9_best_53 : decode cX9_best 53 = .ok (.aload_n 0, 1) := by decide +kernel
theorem dX9_best_54 : decode cX9_best 54 = .ok (.getfield 30, 3) := by decide +kernel
theorem dX9_best_57 : decode cX9_best 57 = .ok (.getfield 183, 3) := by decide +kernel
theorem dX9_best_60 : decode cX9_best 60 = .ok (.if_icmp .ge 81, 3) := by decide +kernel
theorem dX9_best_63 : decode cX9_best 63 = .ok (.aload_n 0, 1) := by decide +kernel
theorem dX9_best_64 : decode cX9_best 64 = .ok (.getfield 30, 3) := by decide +kernel
theorem dX9_best_67 : decode cX9_best 67 = .ok (.getfield 123, 3) := by decide +kernel
theorem dX9_best_70 : decode cX9_best 70 = .ok (.iload 5, 2) := by decide +kernel
theorem dX9_best_72 : decode cX9_best 72 = .ok (.iaload, 1) := by decide +kernel
theorem dX9_best_73 : decode cX9_best 73 = .ok (.iconst (-1), 1) := by decide +kernel
theorem dX9_best_74 : decode cX9_best 74 = .ok (.if_icmp .ne 61, 3) := by decide +kernel
theorem dX9_best_77 : decode cX9_best 77 = .ok (.aload_n 0, 1) := by decide +kernel
theorem dX9_best_78 : decode cX9_best 78 = .ok (.getfield 36, 3) := by decide +kernel
theorem dX9_best_81 : decode cX9_best 81 = .ok (.aload_n 0, 1) := by decide +kernel
theorem dX9_best_82 : decode cX9_best 82 = .ok (.getfield 30, 3) := by decide +kernel
theorem dX9_best_85 : decode cX9_best 85 = .ok (.invokevirtual 173, 3) := by decide +kernel
theorem dX9_best_88 : decode cX9_best 88 = .ok (.aload_n 0, 1) := by decide +kernel
theorem dX9_best_89 : decode cX9_best 89 = .ok (.getfield 36, 3) := by decide +kernel
theorem dX9_best_92 : decode cX9_best 92 = .ok (.iload_n 1, 1) := by decide +kernel
theorem dX9_best_93 : decode cX9_best 93 = .ok (.iload 5, 2) := by decide +kernel
theorem dX9_best_95 : decode cX9_best 95 = .ok (.invokevirtual 161, 3) := by decide +kernel
theorem dX9_best_98 : decode cX9_best 98 = .ok (.aload_n 0, 1) := by decide +kernel
theorem dX9_best_99 : decode cX9_best 99 = .ok (.getfield 36, 3) := by decide +kernel
theorem dX9_best_102 : decode cX9_best 102 = .ok (.iload_n 1, 1) := by decide +kernel
theorem dX9_best_103 : decode cX9_best 103 = .ok (.iload_n 2, 1) := by decide +kernel
theorem dX9_best_104 : decode cX9_best 104 = .ok (.invokevirtual 177, 3) := by decide +kernel
theorem dX9_best_107 : decode cX9_best 107 = .ok (.aload_n 0, 1) := by decide +kernel
theorem dX9_best_108 : decode cX9_best 108 = .ok (.getfield 36, 3) := by decide +kernel
theorem dX9_best_111 : decode cX9_best 111 = .ok (.getfield 149, 3) := by decide +kernel
theorem dX9_best_114 : decode cX9_best 114 = .ok (.iload_n 1, 1) := by decide +kernel
theorem dX9_best_115 : decode cX9_best 115 = .ok (.iaload, 1) := by decide +kernel
theorem dX9_best_116 : decode cX9_best 116 = .ok (.iload 4, 2) := by decide +kernel
theorem dX9_best_118 : decode cX9_best 118 = .ok (.if_icmp .le 17, 3) := by decide +kernel
theorem dX9_best_121 : decode cX9_best 121 = .ok (.iload 5, 2) := by decide +kernel
theorem dX9_best_123 : decode cX9_best 123 = .ok (.istore_n 3, 1) := by decide +kernel
theorem dX9_best_124 : decode cX9_best 124 = .ok (.aload_n 0, 1) := by decide +kernel
theorem dX9_best_125 : decode cX9_best 125 = .ok (.getfield 36, 3) := by decide +kernel
theorem dX9_best_128 : decode cX9_best 128 = .ok (.getfield 149, 3) := by decide +kernel
theorem dX9_best_131 : decode cX9_best 131 = .ok (.iload_n 1, 1) := by decide +kernel
theorem dX9_best_132 : decode cX9_best 132 = .ok (.iaload, 1) := by decide +kernel
theorem dX9_best_133 : decode cX9_best 133 = .ok (.istore 4, 2) := by decide +kernel
theorem dX9_best_135 : decode cX9_best 135 = .ok (.iinc 5 1, 3) := by decide +kernel
theorem dX9_best_138 : decode cX9_best 138 = .ok (.goto (-87), 3) := by decide +kernel
theorem dX9_best_141 : decode cX9_best 141 = .ok (.iload_n 3, 1) := by decide +kernel
theorem dX9_best_142 : decode cX9_best 142 = .ok (.iconst (-1), 1) := by decide +kernel
theorem dX9_best_143 : decode cX9_best 143 = .ok (.if_icmp .ne 11, 3) := by decide +kernel
theorem dX9_best_146 : decode cX9_best 146 = .ok (.aload_n 0, 1) := by decide +kernel
theorem dX9_best_147 : decode cX9_best 147 = .ok (.iconst 3, 1) := by decide +kernel
theorem dX9_best_148 : decode cX9_best 148 = .ok (.invokevirtual 74, 3) := by decide +kernel
theorem dX9_best_151 : decode cX9_best 151 = .ok (.goto 4, 3) := by decide +kernel
theorem dX9_best_154 : decode cX9_best 154 = .ok (.iload_n 3, 1) := by decide +kernel
theorem dX9_best_155 : decode cX9_best 155 = .ok (.ireturn, 1) := by decide +kernel
theorem dX9_round_0 : decode cX9_round 0 = .ok (.aload_n 0, 1) := by decide +kernel
theorem dX9_round_1 : decode cX9_round 1 = .ok (.iload_n 1, 1) := by decide +kernel
theorem dX9_round_2 : decode cX9_round 2 = .ok (.invokevirtual 146, 3) := by decide +kernel
theorem dX9_round_5 : decode cX9_round 5 = .ok (.ifCond .eq 13, 3) := by decide +kernel
theorem dX9_round_8 : decode cX9_round 8 = .ok (.iload_n 2, 1) := by decide +kernel
theorem dX9_round_9 : decode cX9_round 9 = .ok (.iconst 1, 1) := by decide +kernel
theorem dX9_round_10 : decode cX9_round 10 = .ok (.bipush 60, 2) := by decide +kernel
theorem dX9_round_12 : decode cX9_round 12 = .ok (.invokestatic 70, 3) := by decide +kernel
theorem dX9_round_15 : decode cX9_round 15 = .ok (.ifCond .ne 9, 3) := by decide +kernel
theorem dX9_round_18 : decode cX9_round 18 = .ok (.aload_n 0, 1) := by decide +kernel
theorem dX9_round_19 : decode cX9_round 19 = .ok (.iconst 0, 1) := by decide +kernel
theorem dX9_round_20 : decode cX9_round 20 = .ok (.invokevirtual 74, 3) := by decide +kernel
theorem dX9_round_23 : decode cX9_round 23 = .ok (.ireturn, 1) := by decide +kernel
theorem dX9_round_24 : decode cX9_round 24 = .ok (.iconst 0, 1) := by decide +kernel
theorem dX9_round_25 : decode cX9_round 25 = .ok (.istore_n 3, 1) := by decide +kernel
theorem dX9_round_26 : decode cX9_round 26 = .ok (.iconst (-1), 1) := by decide +kernel
theorem dX9_round_27 : decode cX9_round 27 = .ok (.istore 4, 2) := by decide +kernel
theorem dX9_round_29 : decode cX9_round 29 = .ok (.iconst 0, 1) := by decide +kernel
theorem dX9_round_30 : decode cX9_round 30 = .ok (.istore 5, 2) := by decide +kernel
theorem dX9_round_32 : decode cX9_round 32 = .ok (.iload 5, 2) := by decide +kernel
theorem dX9_round_34 : decode cX9_round 34 = .ok (.bipush 6, 2) := by decide +kernel
theorem dX9_round_36 : decode cX9_round 36 = .ok (.if_icmp .ge 68, 3) := by decide +kernel
theorem dX9_round_39 : decode cX9_round 39 = .ok (.aload_n 0, 1) := by decide +kernel
theorem dX9_round_40 : decode cX9_round 40 = .ok (.getfield 36, 3) := by decide +kernel
theorem dX9_round_43 : decode cX9_round 43 = .ok (.aload_n 0, 1) := by decide +kernel
theorem dX9_round_44 : decode cX9_round 44 = .ok (.getfield 30, 3) := by decide +kernel
theorem dX9_round_47 : decode cX9_round 47 = .ok (.invokevirtual 173, 3) := by decide +kernel
theorem dX9_round_50 : decode cX9_round 50 = .ok (.aload_n 0, 1) := by decide +kernel
theorem dX9_round_51 : decode cX9_round 51 = .ok (.getfield 36, 3) := by decide +kernel
theorem dX9_round_54 : decode cX9_round 54 = .ok (.getfield 152, 3) := by decide +kernel
theorem dX9_round_57 : decode cX9_round 57 = .ok (.iload_n 1, 1) := by decide +kernel
theorem dX9_round_58 : decode cX9_round 58 = .ok (.iload 5, 2) := by decide +kernel
theorem dX9_round_60 : decode cX9_round 60 = .ok (.iastore, 1) := by decide +kernel
theorem dX9_round_61 : decode cX9_round 61 = .ok (.aload_n 0, 1) := by decide +kernel
theorem dX9_round_62 : decode cX9_round 62 = .ok (.getfield 36, 3) := by decide +kernel
theorem dX9_round_65 : decode cX9_round 65 = .ok (.iload_n 1, 1) := by decide +kernel
theorem dX9_round_66 : decode cX9_round 66 = .ok (.iload_n 2, 1) := by decide +kernel
theorem dX9_round_67 : decode cX9_round 67 = .ok (.invokevirtual 177, 3) := by decide +kernel
theorem dX9_round_70 : decode cX9_round 70 = .ok (.aload_n 0, 1) := by decide +kernel
theorem dX9_round_71 : decode cX9_round 71 = .ok (.getfield 36, 3) := by decide +kernel
theorem dX9_round_74 : decode cX9_round 74 = .ok (.getfield 149, 3) := by decide +kernel
theorem dX9_round_77 : decode cX9_round 77 = .ok (.iload_n 1, 1) := by decide +kernel
theorem dX9_round_78 : decode cX9_round 78 = .ok (.iaload, 1) := by decide +kernel
theorem dX9_round_79 : decode cX9_round 79 = .ok (.iload 4, 2) := by decide +kernel
theorem dX9_round_81 : decode cX9_round 81 = .ok (.if_icmp .le 17, 3) := by decide +kernel
theorem dX9_round_84 : decode cX9_round 84 = .ok (.iload 5, 2) := by decide +kernel
theorem dX9_round_86 : decode cX9_round 86 = .ok (.istore_n 3, 1) := by decide +kernel
theorem dX9_round_87 : decode cX9_round 87 = .ok (.aload_n 0, 1) := by decide +kernel
theorem dX9_round_88 : decode cX9_round 88 = .ok (.getfield 36, 3) := by decide +kernel
theorem dX9_round_91 : decode cX9_round 91 = .ok (.getfield 149, 3) := by decide +kernel
theorem dX9_round_94 : decode cX9_round 94 = .ok (.iload_n 1, 1) := by decide +kernel
theorem dX9_round_95 : decode cX9_round 95 = .ok (.iaload, 1) := by decide +kernel
theorem dX9_round_96 : decode cX9_round 96 = .ok (.istore 4, 2) := by decide +kernel
theorem dX9_round_98 : decode cX9_round 98 = .ok (.iinc 5 1, 3) := by decide +kernel
theorem dX9_round_101 : decode cX9_round 101 = .ok (.goto (-69), 3) := by decide +kernel
theorem dX9_round_104 : decode cX9_round 104 = .ok (.iload_n 3, 1) := by decide +kernel
theorem dX9_round_105 : decode cX9_round 105 = .ok (.ireturn, 1) := by decide +kernel
theorem dX9_kind_0 : decode cX9_kind 0 = .ok (.aload_n 0, 1) := by decide +kernel
theorem dX9_kind_1 : decode cX9_kind 1 = .ok (.iload_n 1, 1) := by decide +kernel
theorem dX9_kind_2 : decode cX9_kind 2 = .ok (.invokevirtual 81, 3) := by decide +kernel
theorem dX9_kind_5 : decode cX9_kind 5 = .ok (.ifCond .eq 13, 3) := by decide +kernel
theorem dX9_kind_8 : decode cX9_kind 8 = .ok (.iload_n 2, 1) := by decide +kernel
theorem dX9_kind_9 : decode cX9_kind 9 = .ok (.iconst 1, 1) := by decide +kernel
theorem dX9_kind_10 : decode cX9_kind 10 = .ok (.bipush 60, 2) := by decide +kernel
theorem dX9_kind_12 : decode cX9_kind 12 = .ok (.invokestatic 70, 3) := by decide +kernel
theorem dX9_kind_15 : decode cX9_kind 15 = .ok (.ifCond .ne 9, 3) := by decide +kernel
theorem dX9_kind_18 : decode cX9_kind 18 = .ok (.aload_n 0, 1) := by decide +kernel
theorem dX9_kind_19 : decode cX9_kind 19 = .ok (.iconst 0, 1) := by decide +kernel
theorem dX9_kind_20 : decode cX9_kind 20 = .ok (.invokevirtual 74, 3) := by decide +kernel
theorem dX9_kind_23 : decode cX9_kind 23 = .ok (.ireturn, 1) := by decide +kernel
theorem dX9_kind_24 : decode cX9_kind 24 = .ok (.iconst 0, 1) := by decide +kernel
theorem dX9_kind_25 : decode cX9_kind 25 = .ok (.istore_n 3, 1) := by decide +kernel
theorem dX9_kind_26 : decode cX9_kind 26 = .ok (.iconst (-1), 1) := by decide +kernel
theorem dX9_kind_27 : decode cX9_kind 27 = .ok (.istore 4, 2) := by decide +kernel
theorem dX9_kind_29 : decode cX9_kind 29 = .ok (.iconst 0, 1) := by decide +kernel
theorem dX9_kind_30 : decode cX9_kind 30 = .ok (.istore 5, 2) := by decide +kernel
theorem dX9_kind_32 : decode cX9_kind 32 = .ok (.iload 5, 2) := by decide +kernel
theorem dX9_kind_34 : decode cX9_kind 34 = .ok (.bipush 6, 2) := by decide +kernel
theorem dX9_kind_36 : decode cX9_kind 36 = .ok (.if_icmp .ge 62, 3) := by decide +kernel
theorem dX9_kind_39 : decode cX9_kind 39 = .ok (.aload_n 0, 1) := by decide +kernel
theorem dX9_kind_40 : decode cX9_kind 40 = .ok (.getfield 36, 3) := by decide +kernel
theorem dX9_kind_43 : decode cX9_kind 43 = .ok (.aload_n 0, 1) := by decide +kernel
theorem dX9_kind_44 : decode cX9_kind 44 = .ok (.getfield 30, 3) := by decide +kernel
theorem dX9_kind_47 : decode cX9_kind 47 = .ok (.invokevirtual 173, 3) := by decide +kernel
theorem dX9_kind_50 : decode cX9_kind 50 = .ok (.aload_n 0, 1) := by decide +kernel
theorem dX9_kind_51 : decode cX9_kind 51 = .ok (.getfield 36, 3) := by decide +kernel
theorem dX9_kind_54 : decode cX9_kind 54 = .ok (.getfield 114, 3) := by decide +kernel
theorem dX9_kind_57 : decode cX9_kind 57 = .ok (.iload_n 1, 1) := by decide +kernel
theorem dX9_kind_58 : decode cX9_kind 58 = .ok (.iload 5, 2) := by decide +kernel
theorem dX9_kind_60 : decode cX9_kind 60 = .ok (.iastore, 1) := by decide +kernel
theorem dX9_kind_61 : decode cX9_kind 61 = .ok (.aload_n 0, 1) := by decide +kernel
theorem dX9_kind_62 : decode cX9_kind 62 = .ok (.getfield 36, 3) := by decide +kernel
theorem dX9_kind_65 : decode cX9_kind 65 = .ok (.iload_n 2, 1) := by decide +kernel
theorem dX9_kind_66 : decode cX9_kind 66 = .ok (.invokevirtual 169, 3) := by decide +kernel
theorem dX9_kind_69 : decode cX9_kind 69 = .ok (.aload_n 0, 1) := by decide +kernel
theorem dX9_kind_70 : decode cX9_kind 70 = .ok (.getfield 36, 3) := by decide +kernel
theorem dX9_kind_73 : decode cX9_kind 73 = .ok (.invokevirtual 105, 3) := by decide +kernel
theorem dX9_kind_76 : decode cX9_kind 76 = .ok (.istore 6, 2) := by decide +kernel
theorem dX9_kind_78 : decode cX9_kind 78 = .ok (.iload 6, 2) := by decide +kernel
theorem dX9_kind_80 : decode cX9_kind 80 = .ok (.iload 4, 2) := by decide +kernel
theorem dX9_kind_82 : decode cX9_kind 82 = .ok (.if_icmp .le 10, 3) := by decide +kernel
theorem dX9_kind_85 : decode cX9_kind 85 = .ok (.iload 5, 2) := by decide +kernel
theorem dX9_kind_87 : decode cX9_kind 87 = .ok (.istore_n 3, 1) := by decide +kernel
theorem dX9_kind_88 : decode cX9_kind 88 = .ok (.iload 6, 2) := by decide +kernel
theorem dX9_kind_90 : decode cX9_kind 90 = .ok (.istore 4, 2) := by decide +kernel
theorem dX9_kind_92 : decode cX9_kind 92 = .ok (.iinc 5 1, 3) := by decide +kernel
theorem dX9_kind_95 : decode cX9_kind 95 = .ok (.goto (-63), 3) := by decide +kernel
theorem dX9_kind_98 : decode cX9_kind 98 = .ok (.iload_n 3, 1) := by decide +kernel
theorem dX9_kind_99 : decode cX9_kind 99 = .ok (.ireturn, 1) := by decide +kernel
theorem dX9_enough_0 : decode cX9_enough 0 = .ok (.aload_n 0, 1) := by decide +kernel
theorem dX9_enough_1 : decode cX9_enough 1 = .ok (.iload_n 1, 1) := by decide +kernel
theorem dX9_enough_2 : decode cX9_enough 2 = .ok (.invokevirtual 146, 3) := by decide +kernel
theorem dX9_enough_5 : decode cX9_enough 5 = .ok (.ifCond .eq 13, 3) := by decide +kernel
theorem dX9_enough_8 : decode cX9_enough 8 = .ok (.iload_n 2, 1) := by decide +kernel
theorem dX9_enough_9 : decode cX9_enough 9 = .ok (.iconst 1, 1) := by decide +kernel
theorem dX9_enough_10 : decode cX9_enough 10 = .ok (.bipush 60, 2) := by decide +kernel
theorem dX9_enough_12 : decode cX9_enough 12 = .ok (.invokestatic 70, 3) := by decide +kernel
theorem dX9_enough_15 : decode cX9_enough 15 = .ok (.ifCond .ne 9, 3) := by decide +kernel
theorem dX9_enough_18 : decode cX9_enough 18 = .ok (.aload_n 0, 1) := by decide +kernel
theorem dX9_enough_19 : decode cX9_enough 19 = .ok (.iconst 0, 1) := by decide +kernel
theorem dX9_enough_20 : decode cX9_enough 20 = .ok (.invokevirtual 74, 3) := by decide +kernel
theorem dX9_enough_23 : decode cX9_enough 23 = .ok (.ireturn, 1) := by decide +kernel
theorem dX9_enough_24 : decode cX9_enough 24 = .ok (.aload_n 0, 1) := by decide +kernel
theorem dX9_enough_25 : decode cX9_enough 25 = .ok (.getfield 30, 3) := by decide +kernel
theorem dX9_enough_28 : decode cX9_enough 28 = .ok (.getfield 155, 3) := by decide +kernel
theorem dX9_enough_31 : decode cX9_enough 31 = .ok (.iload_n 1, 1) := by decide +kernel
theorem dX9_enough_32 : decode cX9_enough 32 = .ok (.iaload, 1) := by decide +kernel
theorem dX9_enough_33 : decode cX9_enough 33 = .ok (.iconst (-1), 1) := by decide +kernel
theorem dX9_enough_34 : decode cX9_enough 34 = .ok (.if_icmp .ne 9, 3) := by decide +kernel
theorem dX9_enough_37 : decode cX9_enough 37 = .ok (.aload_n 0, 1) := by decide +kernel
theorem dX9_enough_38 : decode cX9_enough 38 = .ok (.iconst 4, 1) := by decide +kernel
theorem dX9_enough_39 : decode cX9_enough 39 = .ok (.invokevirtual 74, 3) := by decide +kernel
theorem dX9_enough_42 : decode cX9_enough 42 = .ok (.ireturn, 1) := by decide +kernel
theorem dX9_enough_43 : decode cX9_enough 43 = .ok (.iconst 0, 1) := by decide +kernel
theorem dX9_enough_44 : decode cX9_enough 44 = .ok (.istore_n 3, 1) := by decide +kernel
theorem dX9_enough_45 : decode cX9_enough 45 = .ok (.iload_n 3, 1) := by decide +kernel
theorem dX9_enough_46 : decode cX9_enough 46 = .ok (.sipush 2000, 3) := by decide +kernel
theorem dX9_enough_49 : decode cX9_enough 49 = .ok (.if_icmp .gt 54, 3) := by decide +kernel
theorem dX9_enough_52 : decode cX9_enough 52 = .ok (.aload_n 0, 1) := by decide +kernel
theorem dX9_enough_53 : decode cX9_enough 53 = .ok (.getfield 36, 3) := by decide +kernel
theorem dX9_enough_56 : decode cX9_enough 56 = .ok (.aload_n 0, 1) := by decide +kernel
theorem dX9_enough_57 : decode cX9_enough 57 = .ok (.getfield 30, 3) := by decide +kernel
theorem dX9_enough_60 : decode cX9_enough 60 = .ok (.invokevirtual 173, 3) := by decide +kernel
theorem dX9_enough_63 : decode cX9_enough 63 = .ok (.aload_n 0, 1) := by decide +kernel
theorem dX9_enough_64 : decode cX9_enough 64 = .ok (.getfield 36, 3) := by decide +kernel
theorem dX9_enough_67 : decode cX9_enough 67 = .ok (.getfield 149, 3) := by decide +kernel
theorem dX9_enough_70 : decode cX9_enough 70 = .ok (.iload_n 1, 1) := by decide +kernel
theorem dX9_enough_71 : decode cX9_enough 71 = .ok (.iload_n 3, 1) := by decide +kernel
theorem dX9_enough_72 : decode cX9_enough 72 = .ok (.iastore, 1) := by decide +kernel
theorem dX9_enough_73 : decode cX9_enough 73 = .ok (.aload_n 0, 1) := by decide +kernel
theorem dX9_enough_74 : decode cX9_enough 74 = .ok (.getfield 36, 3) := by decide +kernel
theorem dX9_enough_77 : decode cX9_enough 77 = .ok (.iload_n 1, 1) := by decide +kernel
theorem dX9_enough_78 : decode cX9_enough 78 = .ok (.iload_n 2, 1) := by decide +kernel
theorem dX9_enough_79 : decode cX9_enough 79 = .ok (.invokevirtual 177, 3) := by decide +kernel
theorem dX9_enough_82 : decode cX9_enough 82 = .ok (.aload_n 0, 1) := by decide +kernel
theorem dX9_enough_83 : decode cX9_enough 83 = .ok (.getfield 36, 3) := by decide +kernel
theorem dX9_enough_86 : decode cX9_enough 86 = .ok (.getfield 155, 3) := by decide +kernel
theorem dX9_enough_89 : decode cX9_enough 89 = .ok (.iload_n 1, 1) := by decide +kernel
theorem dX9_enough_90 : decode cX9_enough 90 = .ok (.iaload, 1) := by decide +kernel
theorem dX9_enough_91 : decode cX9_enough 91 = .ok (.iconst (-1), 1) := by decide +kernel
theorem dX9_enough_92 : decode cX9_enough 92 = .ok (.if_icmp .eq 5, 3) := by decide +kernel
theorem dX9_enough_95 : decode cX9_enough 95 = .ok (.iload_n 3, 1) := by decide +kernel
theorem dX9_enough_96 : decode cX9_enough 96 = .ok (.ireturn, 1) := by decide +kernel
theorem dX9_enough_97 : decode cX9_enough 97 = .ok (.iinc 3 10, 3) := by decide +kernel
theorem dX9_enough_100 : decode cX9_enough 100 = .ok (.goto (-55), 3) := by decide +kernel
theorem dX9_enough_103 : decode cX9_enough 103 = .ok (.aload_n 0, 1) := by decide +kernel
theorem dX9_enough_104 : decode cX9_enough 104 = .ok (.iconst 3, 1) := by decide +kernel
theorem dX9_enough_105 : decode cX9_enough 105 = .ok (.invokevirtual 74, 3) := by decide +kernel
theorem dX9_enough_108 : decode cX9_enough 108 = .ok (.ireturn, 1) := by decide +kernel
theorem dX9_please_0 : decode cX9_please 0 = .ok (.aload_n 0, 1) := by decide +kernel
theorem dX9_please_1 : decode cX9_please 1 = .ok (.iload_n 1, 1) := by decide +kernel
theorem dX9_please_2 : decode cX9_please 2 = .ok (.invokevirtual 146, 3) := by decide +kernel
theorem dX9_please_5 : decode cX9_please 5 = .ok (.ifCond .eq 32, 3) := by decide +kernel
theorem dX9_please_8 : decode cX9_please 8 = .ok (.iload_n 2, 1) := by decide +kernel
theorem dX9_please_9 : decode cX9_please 9 = .ok (.invokestatic 66, 3) := by decide +kernel
theorem dX9_please_12 : decode cX9_please 12 = .ok (.ifCond .eq 25, 3) := by decide +kernel
theorem dX9_please_15 : decode cX9_please 15 = .ok (.iload_n 3, 1) := by decide +kernel
theorem dX9_please_16 : decode cX9_please 16 = .ok (.iconst 1, 1) := by decide +kernel
theorem dX9_please_17 : decode cX9_please 17 = .ok (.bipush 60, 2) := by decide +kernel
theorem dX9_please_19 : decode cX9_please 19 = .ok (.invokestatic 70, 3) := by decide +kernel
theorem dX9_please_22 : decode cX9_please 22 = .ok (.ifCond .eq 15, 3) := by decide +kernel
theorem dX9_please_25 : decode cX9_please 25 = .ok (.iload 4, 2) := by decide +kernel
theorem dX9_please_27 : decode cX9_please 27 = .ok (.iconst 0, 1) := by decide +kernel
theorem dX9_please_28 : decode cX9_please 28 = .ok (.sipush 9999, 3) := by decide +kernel
theorem dX9_please_31 : decode cX9_please 31 = .ok (.invokestatic 70, 3) := by decide +kernel
theorem dX9_please_34 : decode cX9_please 34 = .ok (.ifCond .ne 9, 3) := by decide +kernel
theorem dX9_please_37 : decode cX9_please 37 = .ok (.aload_n 0, 1) := by decide +kernel
theorem dX9_please_38 : decode cX9_please 38 = .ok (.iconst 0, 1) := by decide +kernel
theorem dX9_please_39 : decode cX9_please 39 = .ok (.invokevirtual 74, 3) := by decide +kernel
theorem dX9_please_42 : decode cX9_please 42 = .ok (.ireturn, 1) := by decide +kernel
theorem dX9_please_43 : decode cX9_please 43 = .ok (.bipush (-50), 2) := by decide +kernel
theorem dX9_please_45 : decode cX9_please 45 = .ok (.istore 5, 2) := by decide +kernel
theorem dX9_please_47 : decode cX9_please 47 = .ok (.iload 5, 2) := by decide +kernel
theorem dX9_please_49 : decode cX9_please 49 = .ok (.bipush 50, 2) := by decide +kernel
theorem dX9_please_51 : decode cX9_please 51 = .ok (.if_icmp .gt 57, 3) := by decide +kernel
theorem dX9_please_54 : decode cX9_please 54 = .ok (.aload_n 0, 1) := by decide +kernel
theorem dX9_please_55 : decode cX9_please 55 = .ok (.getfield 36, 3) := by decide +kernel
theorem dX9_please_58 : decode cX9_please 58 = .ok (.aload_n 0, 1) := by decide +kernel
theorem dX9_please_59 : decode cX9_please 59 = .ok (.getfield 30, 3) := by decide +kernel
theorem dX9_please_62 : decode cX9_please 62 = .ok (.invokevirtual 173, 3) := by decide +kernel
theorem dX9_please_65 : decode cX9_please 65 = .ok (.aload_n 0, 1) := by decide +kernel
theorem dX9_please_66 : decode cX9_please 66 = .ok (.getfield 36, 3) := by decide +kernel
theorem dX9_please_69 : decode cX9_please 69 = .ok (.getfield 78, 3) := by decide +kernel
theorem dX9_please_72 : decode cX9_please 72 = .ok (.iload_n 2, 1) := by decide +kernel
theorem dX9_please_73 : decode cX9_please 73 = .ok (.iload 5, 2) := by decide +kernel
theorem dX9_please_75 : decode cX9_please 75 = .ok (.iastore, 1) := by decide +kernel
theorem dX9_please_76 : decode cX9_please 76 = .ok (.aload_n 0, 1) := by decide +kernel
theorem dX9_please_77 : decode cX9_please 77 = .ok (.getfield 36, 3) := by decide +kernel
theorem dX9_please_80 : decode cX9_please 80 = .ok (.iload_n 1, 1) := by decide +kernel
theorem dX9_please_81 : decode cX9_please 81 = .ok (.iload_n 3, 1) := by decide +kernel
theorem dX9_please_82 : decode cX9_please 82 = .ok (.invokevirtual 177, 3) := by decide +kernel
theorem dX9_please_85 : decode cX9_please 85 = .ok (.aload_n 0, 1) := by decide +kernel
theorem dX9_please_86 : decode cX9_please 86 = .ok (.getfield 36, 3) := by decide +kernel
theorem dX9_please_89 : decode cX9_please 89 = .ok (.getfield 149, 3) := by decide +kernel
theorem dX9_please_92 : decode cX9_please 92 = .ok (.iload_n 1, 1) := by decide +kernel
theorem dX9_please_93 : decode cX9_please 93 = .ok (.iaload, 1) := by decide +kernel
theorem dX9_please_94 : decode cX9_please 94 = .ok (.iload 4, 2) := by decide +kernel
theorem dX9_please_96 : decode cX9_please 96 = .ok (.if_icmp .lt 6, 3) := by decide +kernel
theorem dX9_please_99 : decode cX9_please 99 = .ok (.iload 5, 2) := by decide +kernel
theorem dX9_please_101 : decode cX9_please 101 = .ok (.ireturn, 1) := by decide +kernel
theorem dX9_please_102 : decode cX9_please 102 = .ok (.iinc 5 1, 3) := by decide +kernel
theorem dX9_please_105 : decode cX9_please 105 = .ok (.goto (-58), 3) := by decide +kernel
theorem dX9_please_108 : decode cX9_please 108 = .ok (.aload_n 0, 1) := by decide +kernel
theorem dX9_please_109 : decode cX9_please 109 = .ok (.iconst 3, 1) := by decide +kernel
theorem dX9_please_110 : decode cX9_please 110 = .ok (.invokevirtual 74, 3) := by decide +kernel
theorem dX9_please_113 : decode cX9_please 113 = .ok (.ireturn, 1) := by decide +kernel
theorem dX9_richest_0 : decode cX9_richest 0 = .ok (.iload_n 1, 1) := by decide +kernel
theorem dX9_richest_1 : decode cX9_richest 1 = .ok (.iconst 0, 1) := by decide +kernel
theorem dX9_richest_2 : decode cX9_richest 2 = .ok (.sipush 200, 3) := by decide +kernel
theorem dX9_richest_5 : decode cX9_richest 5 = .ok (.invokestatic 70, 3) := by decide +kernel
theorem dX9_richest_8 : decode cX9_richest 8 = .ok (.ifCond .ne 9, 3) := by decide +kernel
theorem dX9_richest_11 : decode cX9_richest 11 = .ok (.aload_n 0, 1) := by decide +kernel
theorem dX9_richest_12 : decode cX9_richest 12 = .ok (.iconst 0, 1) := by decide +kernel
theorem dX9_richest_13 : decode cX9_richest 13 = .ok (.invokevirtual 74, 3) := by decide +kernel
theorem dX9_richest_16 : decode cX9_richest 16 = .ok (.ireturn, 1) := by decide +kernel
theorem dX9_richest_17 : decode cX9_richest 17 = .ok (.aload_n 0, 1) := by decide +kernel
theorem dX9_richest_18 : decode cX9_richest 18 = .ok (.getfield 36, 3) := by decide +kernel
theorem dX9_richest_21 : decode cX9_richest 21 = .ok (.aload_n 0, 1) := by decide +kernel
theorem dX9_richest_22 : decode cX9_richest 22 = .ok (.getfield 30, 3) := by decide +kernel
theorem dX9_richest_25 : decode cX9_richest 25 = .ok (.invokevirtual 173, 3) := by decide +kernel
theorem dX9_richest_28 : decode cX9_richest 28 = .ok (.aload_n 0, 1) := by decide +kernel
theorem dX9_richest_29 : decode cX9_richest 29 = .ok (.getfield 36, 3) := by decide +kernel
theorem dX9_richest_32 : decode cX9_richest 32 = .ok (.iload_n 1, 1) := by decide +kernel
theorem dX9_richest_33 : decode cX9_richest 33 = .ok (.invokevirtual 169, 3) := by decide +kernel
theorem dX9_richest_36 : decode cX9_richest 36 = .ok (.iconst (-1), 1) := by decide +kernel
theorem dX9_richest_37 : decode cX9_richest 37 = .ok (.istore_n 2, 1) := by decide +kernel
theorem dX9_richest_38 : decode cX9_richest 38 = .ok (.iconst (-1), 1) := by decide +kernel
theorem dX9_richest_39 : decode cX9_richest 39 = .ok (.istore_n 3, 1) := by decide +kernel
theorem dX9_richest_40 : decode cX9_richest 40 = .ok (.iconst 0, 1) := by decide +kernel
theorem dX9_richest_41 : decode cX9_richest 41 = .ok (.istore 4, 2) := by decide +kernel
theorem dX9_richest_43 : decode cX9_richest 43 = .ok (.iload 4, 2) := by decide +kernel
theorem dX9_richest_45 : decode cX9_richest 45 = .ok (.aload_n 0, 1) := by decide +kernel
theorem dX9_richest_46 : decode cX9_richest 46 = .ok (.getfield 36, 3) := by decide +kernel
theorem dX9_richest_49 : decode cX9_richest 49 = .ok (.getfield 183, 3) := by decide +kernel
theorem dX9_richest_52 : decode cX9_richest 52 = .ok (.if_icmp .ge 37, 3) := by decide +kernel
theorem dX9_richest_55 : decode cX9_richest 55 = .ok (.aload_n 0, 1) := by decide +kernel
theorem dX9_richest_56 : decode cX9_richest 56 = .ok (.getfield 36, 3) := by decide +kernel
theorem dX9_richest_59 : decode cX9_richest 59 = .ok (.getfield 120, 3) := by decide +kernel
theorem dX9_richest_62 : decode cX9_richest 62 = .ok (.iload 4, 2) := by decide +kernel
theorem dX9_richest_64 : decode cX9_richest 64 = .ok (.iaload, 1) := by decide +kernel
theorem dX9_richest_65 : decode cX9_richest 65 = .ok (.iload_n 3, 1) := by decide +kernel
theorem dX9_richest_66 : decode cX9_richest 66 = .ok (.if_icmp .le 17, 3) := by decide +kernel
theorem dX9_richest_69 : decode cX9_richest 69 = .ok (.iload 4, 2) := by decide +kernel
theorem dX9_richest_71 : decode cX9_richest 71 = .ok (.istore_n 2, 1) := by decide +kernel
theorem dX9_richest_72 : decode cX9_richest 72 = .ok (.aload_n 0, 1) := by decide +kernel
theorem dX9_richest_73 : decode cX9_richest 73 = .ok (.getfield 36, 3) := by decide +kernel
theorem dX9_richest_76 : decode cX9_richest 76 = .ok (.getfield 120, 3) := by decide +kernel
theorem dX9_richest_79 : decode cX9_richest 79 = .ok (.iload 4, 2) := by decide +kernel
theorem dX9_richest_81 : decode cX9_richest 81 = .ok (.iaload, 1) := by decide +kernel
theorem dX9_richest_82 : decode cX9_richest 82 = .ok (.istore_n 3, 1) := by decide +kernel
theorem dX9_richest_83 : decode cX9_richest 83 = .ok (.iinc 4 1, 3) := by decide +kernel
theorem dX9_richest_86 : decode cX9_richest 86 = .ok (.goto (-43), 3) := by decide +kernel
theorem dX9_richest_89 : decode cX9_richest 89 = .ok (.iload_n 2, 1) := by decide +kernel
theorem dX9_richest_90 : decode cX9_richest 90 = .ok (.iconst (-1), 1) := by decide +kernel
theorem dX9_richest_91 : decode cX9_richest 91 = .ok (.if_icmp .ne 11, 3) := by decide +kernel
theorem dX9_richest_94 : decode cX9_richest 94 = .ok (.aload_n 0, 1) := by decide +kernel
theorem dX9_richest_95 : decode cX9_richest 95 = .ok (.iconst 3, 1) := by decide +kernel
theorem dX9_richest_96 : decode cX9_richest 96 = .ok (.invokevirtual 74, 3) := by decide +kernel
theorem dX9_richest_99 : decode cX9_richest 99 = .ok (.goto 4, 3) := by decide +kernel
theorem dX9_richest_102 : decode cX9_richest 102 = .ok (.iload_n 2, 1) := by decide +kernel
theorem dX9_richest_103 : decode cX9_richest 103 = .ok (.ireturn, 1) := by decide +kernel
theorem dX9_feed_0 : decode cX9_feed 0 = .ok (.iload_n 2, 1) := by decide +kernel
theorem dX9_feed_1 : decode cX9_feed 1 = .ok (.iconst 1, 1) := by decide +kernel
theorem dX9_feed_2 : decode cX9_feed 2 = .ok (.iconst 4, 1) := by decide +kernel
theorem dX9_feed_3 : decode cX9_feed 3 = .ok (.invokestatic 70, 3) := by decide +kernel
theorem dX9_feed_6 : decode cX9_feed 6 = .ok (.ifCond .ne 9, 3) := by decide +kernel
theorem dX9_feed_9 : decode cX9_feed 9 = .ok (.aload_n 0, 1) := by decide +kernel
theorem dX9_feed_10 : decode cX9_feed 10 = .ok (.iconst 0, 1) := by decide +kernel
theorem dX9_feed_11 : decode cX9_feed 11 = .ok (.invokevirtual 74, 3) := by decide +kernel
theorem dX9_feed_14 : decode cX9_feed 14 = .ok (.ireturn, 1) := by decide +kernel
theorem dX9_feed_15 : decode cX9_feed 15 = .ok (.aload_n 0, 1) := by decide +kernel
theorem dX9_feed_16 : decode cX9_feed 16 = .ok (.getfield 51, 3) := by decide +kernel
theorem dX9_feed_19 : decode cX9_feed 19 = .ok (.getfield 186, 3) := by decide +kernel
theorem dX9_feed_22 : decode cX9_feed 22 = .ok (.iload_n 2, 1) := by decide +kernel
theorem dX9_feed_23 : decode cX9_feed 23 = .ok (.iadd, 1) := by decide +kernel
theorem dX9_feed_24 : decode cX9_feed 24 = .ok (.bipush 120, 2) := by decide +kernel
theorem dX9_feed_26 : decode cX9_feed 26 = .ok (.if_icmp .le 9, 3) := by decide +kernel
theorem dX9_feed_29 : decode cX9_feed 29 = .ok (.aload_n 0, 1) := by decide +kernel
theorem dX9_feed_30 : decode cX9_feed 30 = .ok (.iconst 1, 1) := by decide +kernel
theorem dX9_feed_31 : decode cX9_feed 31 = .ok (.invokevirtual 74, 3) := by decide +kernel
theorem dX9_feed_34 : decode cX9_feed 34 = .ok (.ireturn, 1) := by decide +kernel
theorem dX9_feed_35 : decode cX9_feed 35 = .ok (.iload_n 2, 1) := by decide +kernel
theorem dX9_feed_36 : decode cX9_feed 36 = .ok (.iconst 1, 1) := by decide +kernel
theorem dX9_feed_37 : decode cX9_feed 37 = .ok (.isub, 1) := by decide +kernel
theorem dX9_feed_38 : decode cX9_feed 38 = .ok (.istore_n 3, 1) := by decide +kernel
theorem dX9_feed_39 : decode cX9_feed 39 = .ok (.iload_n 3, 1) := by decide +kernel
theorem dX9_feed_40 : decode cX9_feed 40 = .ok (.ifCond .lt 26, 3) := by decide +kernel
theorem dX9_feed_43 : decode cX9_feed 43 = .ok (.aload_n 0, 1) := by decide +kernel
theorem dX9_feed_44 : decode cX9_feed 44 = .ok (.getfield 51, 3) := by decide +kernel
theorem dX9_feed_47 : decode cX9_feed 47 = .ok (.iload_n 1, 1) := by decide +kernel
theorem dX9_feed_48 : decode cX9_feed 48 = .ok (.bipush 8, 2) := by decide +kernel
theorem dX9_feed_50 : decode cX9_feed 50 = .ok (.iload_n 3, 1) := by decide +kernel
theorem dX9_feed_51 : decode cX9_feed 51 = .ok (.imul, 1) := by decide +kernel
theorem dX9_feed_52 : decode cX9_feed 52 = .ok (.iushr, 1) := by decide +kernel
theorem dX9_feed_53 : decode cX9_feed 53 = .ok (.sipush 255, 3) := by decide +kernel
theorem dX9_feed_56 : decode cX9_feed 56 = .ok (.iand, 1) := by decide +kernel
theorem dX9_feed_57 : decode cX9_feed 57 = .ok (.invokevirtual 189, 3) := by decide +kernel
theorem dX9_feed_60 : decode cX9_feed 60 = .ok (.iinc 3 (-1), 3) := by decide +kernel
theorem dX9_feed_63 : decode cX9_feed 63 = .ok (.goto (-24), 3) := by decide +kernel
theorem dX9_feed_66 : decode cX9_feed 66 = .ok (.aload_n 0, 1) := by decide +kernel
theorem dX9_feed_67 : decode cX9_feed 67 = .ok (.getfield 51, 3) := by decide +kernel
theorem dX9_feed_70 : decode cX9_feed 70 = .ok (.getfield 186, 3) := by decide +kernel
theorem dX9_feed_73 : decode cX9_feed 73 = .ok (.ireturn, 1) := by decide +kernel
theorem dX9_wipe_0 : decode cX9_wipe 0 = .ok (.aload_n 0, 1) := by decide +kernel
theorem dX9_wipe_1 : decode cX9_wipe 1 = .ok (.getfield 51, 3) := by decide +kernel
theorem dX9_wipe_4 : decode cX9_wipe 4 = .ok (.getfield 186, 3) := by decide +kernel
theorem dX9_wipe_7 : decode cX9_wipe 7 = .ok (.istore_n 1, 1) := by decide +kernel
theorem dX9_wipe_8 : decode cX9_wipe 8 = .ok (.aload_n 0, 1) := by decide +kernel
theorem dX9_wipe_9 : decode cX9_wipe 9 = .ok (.getfield 51, 3) := by decide +kernel
theorem dX9_wipe_12 : decode cX9_wipe 12 = .ok (.iconst 0, 1) := by decide +kernel
theorem dX9_wipe_13 : decode cX9_wipe 13 = .ok (.putfield 186, 3) := by decide +kernel
theorem dX9_wipe_16 : decode cX9_wipe 16 = .ok (.iload_n 1, 1) := by decide +kernel
theorem dX9_wipe_17 : decode cX9_wipe 17 = .ok (.ireturn, 1) := by decide +kernel
theorem dX9_shop_0 : decode cX9_shop 0 = .ok (.aload_n 0, 1) := by decide +kernel
theorem dX9_shop_1 : decode cX9_shop 1 = .ok (.getfield 36, 3) := by decide +kernel
theorem dX9_shop_4 : decode cX9_shop 4 = .ok (.aload_n 0, 1) := by decide +kernel
theorem dX9_shop_5 : decode cX9_shop 5 = .ok (.getfield 30, 3) := by decide +kernel
theorem dX9_shop_8 : decode cX9_shop 8 = .ok (.invokevirtual 173, 3) := by decide +kernel
theorem dX9_shop_11 : decode cX9_shop 11 = .ok (.aload_n 0, 1) := by decide +kernel
theorem dX9_shop_12 : decode cX9_shop 12 = .ok (.getfield 51, 3) := by decide +kernel
theorem dX9_shop_15 : decode cX9_shop 15 = .ok (.invokevirtual 192, 3) := by decide +kernel
theorem dX9_shop_18 : decode cX9_shop 18 = .ok (.istore_n 1, 1) := by decide +kernel
theorem dX9_shop_19 : decode cX9_shop 19 = .ok (.aload_n 0, 1) := by decide +kernel
theorem dX9_shop_20 : decode cX9_shop 20 = .ok (.getfield 51, 3) := by decide +kernel
theorem dX9_shop_23 : decode cX9_shop 23 = .ok (.iconst 0, 1) := by decide +kernel
theorem dX9_shop_24 : decode cX9_shop 24 = .ok (.putfield 186, 3) := by decide +kernel
theorem dX9_shop_27 : decode cX9_shop 27 = .ok (.iload_n 1, 1) := by decide +kernel
theorem dX9_shop_28 : decode cX9_shop 28 = .ok (.ifCond .le 14, 3) := by decide +kernel
theorem dX9_shop_31 : decode cX9_shop 31 = .ok (.aload_n 0, 1) := by decide +kernel
theorem dX9_shop_32 : decode cX9_shop 32 = .ok (.getfield 30, 3) := by decide +kernel
theorem dX9_shop_35 : decode cX9_shop 35 = .ok (.aload_n 0, 1) := by decide +kernel
theorem dX9_shop_36 : decode cX9_shop 36 = .ok (.getfield 36, 3) := by decide +kernel
theorem dX9_shop_39 : decode cX9_shop 39 = .ok (.invokevirtual 173, 3) := by decide +kernel
theorem dX9_shop_42 : decode cX9_shop 42 = .ok (.iload_n 1, 1) := by decide +kernel
theorem dX9_shop_43 : decode cX9_shop 43 = .ok (.ireturn, 1) := by decide +kernel
theorem dX9_sheet_0 : decode cX9_sheet 0 = .ok (.iload_n 1, 1) := by decide +kernel
theorem dX9_sheet_1 : decode cX9_sheet 1 = .ok (.invokestatic 195, 3) := by decide +kernel
theorem dX9_sheet_4 : decode cX9_sheet 4 = .ok (.ifCond .eq 25, 3) := by decide +kernel
theorem dX9_sheet_7 : decode cX9_sheet 7 = .ok (.iload_n 2, 1) := by decide +kernel
theorem dX9_sheet_8 : decode cX9_sheet 8 = .ok (.ifCond .eq 27, 3) := by decide +kernel
theorem dX9_sheet_11 : decode cX9_sheet 11 = .ok (.iload_n 2, 1) := by decide +kernel
theorem dX9_sheet_12 : decode cX9_sheet 12 = .ok (.bipush 8, 2) := by decide +kernel
theorem dX9_sheet_14 : decode cX9_sheet 14 = .ok (.if_icmp .eq 21, 3) := by decide +kernel
theorem dX9_sheet_17 : decode cX9_sheet 17 = .ok (.iload_n 2, 1) := by decide +kernel
theorem dX9_sheet_18 : decode cX9_sheet 18 = .ok (.bipush 16, 2) := by decide +kernel
theorem dX9_sheet_20 : decode cX9_sheet 20 = .ok (.if_icmp .eq 15, 3) := by decide +kernel
theorem dX9_sheet_23 : decode cX9_sheet 23 = .ok (.iload_n 2, 1) := by decide +kernel
theorem dX9_sheet_24 : decode cX9_sheet 24 = .ok (.bipush 64, 2) := by decide +kernel
theorem dX9_sheet_26 : decode cX9_sheet 26 = .ok (.if_icmp .eq 9, 3) := by decide +kernel
theorem dX9_sheet_29 : decode cX9_sheet 29 = .ok (.aload_n 0, 1) := by decide +kernel
theorem dX9_sheet_30 : decode cX9_sheet 30 = .ok (.iconst 0, 1) := by decide +kernel
theorem dX9_sheet_31 : decode cX9_sheet 31 = .ok (.invokevirtual 74, 3) := by decide +kernel
theorem dX9_sheet_34 : decode cX9_sheet 34 = .ok (.ireturn, 1) := by decide +kernel
theorem dX9_sheet_35 : decode cX9_sheet 35 = .ok (.iload_n 3, 1) := by decide +kernel
theorem dX9_sheet_36 : decode cX9_sheet 36 = .ok (.ifCond .ge 10, 3) := by decide +kernel
theorem dX9_sheet_39 : decode cX9_sheet 39 = .ok (.aload_n 0, 1) := by decide +kernel
theorem dX9_sheet_40 : decode cX9_sheet 40 = .ok (.bipush 6, 2) := by decide +kernel
theorem dX9_sheet_42 : decode cX9_sheet 42 = .ok (.invokevirtual 74, 3) := by decide +kernel
theorem dX9_sheet_45 : decode cX9_sheet 45 = .ok (.ireturn, 1) := by decide +kernel
theorem dX9_sheet_46 : decode cX9_sheet 46 = .ok (.iload_n 3, 1) := by decide +kernel
theorem dX9_sheet_47 : decode cX9_sheet 47 = .ok (.bipush 40, 2) := by decide +kernel
theorem dX9_sheet_49 : decode cX9_sheet 49 = .ok (.if_icmp .le 9, 3) := by decide +kernel
theorem dX9_sheet_52 : decode cX9_sheet 52 = .ok (.aload_n 0, 1) := by decide +kernel
theorem dX9_sheet_53 : decode cX9_sheet 53 = .ok (.iconst 0, 1) := by decide +kernel
theorem dX9_sheet_54 : decode cX9_sheet 54 = .ok (.invokevirtual 74, 3) := by decide +kernel
theorem dX9_sheet_57 : decode cX9_sheet 57 = .ok (.ireturn, 1) := by decide +kernel
theorem dX9_sheet_58 : decode cX9_sheet 58 = .ok (.aload_n 0, 1) := by decide +kernel
theorem dX9_sheet_59 : decode cX9_sheet 59 = .ok (.getfield 57, 3) := by decide +kernel
theorem dX9_sheet_62 : decode cX9_sheet 62 = .ok (.iload_n 1, 1) := by decide +kernel
theorem dX9_sheet_63 : decode cX9_sheet 63 = .ok (.aaload, 1) := by decide +kernel
theorem dX9_sheet_64 : decode cX9_sheet 64 = .ok (.iload_n 2, 1) := by decide +kernel
theorem dX9_sheet_65 : decode cX9_sheet 65 = .ok (.iload_n 2, 1) := by decide +kernel
theorem dX9_sheet_66 : decode cX9_sheet 66 = .ok (.ifCond .ne 7, 3) := by decide +kernel
theorem dX9_sheet_69 : decode cX9_sheet 69 = .ok (.iconst 0, 1) := by decide +kernel
theorem dX9_sheet_70 : decode cX9_sheet 70 = .ok (.goto 4, 3) := by decide +kernel
theorem dX9_sheet_73 : decode cX9_sheet 73 = .ok (.iload_n 3, 1) := by decide +kernel
theorem dX9_sheet_74 : decode cX9_sheet 74 = .ok (.invokevirtual 198, 3) := by decide +kernel
theorem dX9_sheet_77 : decode cX9_sheet 77 = .ok (.aload_n 0, 1) := by decide +kernel
theorem dX9_sheet_78 : decode cX9_sheet 78 = .ok (.getfield 57, 3) := by decide +kernel
theorem dX9_sheet_81 : decode cX9_sheet 81 = .ok (.iload_n 1, 1) := by decide +kernel
theorem dX9_sheet_82 : decode cX9_sheet 82 = .ok (.aaload, 1) := by decide +kernel
theorem dX9_sheet_83 : decode cX9_sheet 83 = .ok (.getfield 201, 3) := by decide +kernel
theorem dX9_sheet_86 : decode cX9_sheet 86 = .ok (.ireturn, 1) := by decide +kernel
theorem dX9_write_0 : decode cX9_write 0 = .ok (.iload_n 1, 1) := by decide +kernel
theorem dX9_write_1 : decode cX9_write 1 = .ok (.invokestatic 195, 3) := by decide +kernel
theorem dX9_write_4 : decode cX9_write 4 = .ok (.ifCond .ne 10, 3) := by decide +kernel
theorem dX9_write_7 : decode cX9_write 7 = .ok (.aload_n 0, 1) := by decide +kernel
theorem dX9_write_8 : decode cX9_write 8 = .ok (.iconst 0, 1) := by decide +kernel
theorem dX9_write_9 : decode cX9_write 9 = .ok (.invokevirtual 74, 3) := by decide +kernel
theorem dX9_write_12 : decode cX9_write 12 = .ok (.i2l, 1) := by decide +kernel
theorem dX9_write_13 : decode cX9_write 13 = .ok (.lreturn, 1) := by decide +kernel
theorem dX9_write_14 : decode cX9_write 14 = .ok (.aload_n 0, 1) := by decide +kernel
theorem dX9_write_15 : decode cX9_write 15 = .ok (.getfield 57, 3) := by decide +kernel
theorem dX9_write_18 : decode cX9_write 18 = .ok (.iload_n 1, 1) := by decide +kernel
theorem dX9_write_19 : decode cX9_write 19 = .ok (.aaload, 1) := by decide +kernel
theorem dX9_write_20 : decode cX9_write 20 = .ok (.astore 5, 2) := by decide +kernel
theorem dX9_write_22 : decode cX9_write 22 = .ok (.aload 5, 2) := by decide +kernel
theorem dX9_write_24 : decode cX9_write 24 = .ok (.invokevirtual 202, 3) := by decide +kernel
theorem dX9_write_27 : decode cX9_write 27 = .ok (.ifCond .eq 10, 3) := by decide +kernel
theorem dX9_write_30 : decode cX9_write 30 = .ok (.aload_n 0, 1) := by decide +kernel
theorem dX9_write_31 : decode cX9_write 31 = .ok (.iconst 5, 1) := by decide +kernel
theorem dX9_write_32 : decode cX9_write 32 = .ok (.invokevirtual 74, 3) := by decide +kernel
theorem dX9_write_35 : decode cX9_write 35 = .ok (.i2l, 1) := by decide +kernel
theorem dX9_write_36 : decode cX9_write 36 = .ok (.lreturn, 1) := by decide +kernel
theorem dX9_write_37 : decode cX9_write 37 = .ok (.iload_n 2, 1) := by decide +kernel
theorem dX9_write_38 : decode cX9_write 38 = .ok (.ifCond .lt 12, 3) := by decide +kernel
theorem dX9_write_41 : decode cX9_write 41 = .ok (.iload_n 2, 1) := by decide +kernel
theorem dX9_write_42 : decode cX9_write 42 = .ok (.aload 5, 2) := by decide +kernel
theorem dX9_write_44 : decode cX9_write 44 = .ok (.getfield 201, 3) := by decide +kernel
theorem dX9_write_47 : decode cX9_write 47 = .ok (.if_icmp .lt 10, 3) := by decide +kernel
theorem dX9_write_50 : decode cX9_write 50 = .ok (.aload_n 0, 1) := by decide +kernel
theorem dX9_write_51 : decode cX9_write 51 = .ok (.iconst 0, 1) := by decide +kernel
theorem dX9_write_52 : decode cX9_write 52 = .ok (.invokevirtual 74, 3) := by decide +kernel
theorem dX9_write_55 : decode cX9_write 55 = .ok (.i2l, 1) := by decide +kernel
theorem dX9_write_56 : decode cX9_write 56 = .ok (.lreturn, 1) := by decide +kernel
theorem dX9_write_57 : decode cX9_write 57 = .ok (.aload 5, 2) := by decide +kernel
theorem dX9_write_59 : decode cX9_write 59 = .ok (.getfield 205, 3) := by decide +kernel
theorem dX9_write_62 : decode cX9_write 62 = .ok (.iload_n 2, 1) := by decide +kernel
theorem dX9_write_63 : decode cX9_write 63 = .ok (.laload, 1) := by decide +kernel
theorem dX9_write_64 : decode cX9_write 64 = .ok (.lstore 6, 2) := by decide +kernel
theorem dX9_write_66 : decode cX9_write 66 = .ok (.aload 5, 2) := by decide +kernel
theorem dX9_write_68 : decode cX9_write 68 = .ok (.iload_n 2, 1) := by decide +kernel
theorem dX9_write_69 : decode cX9_write 69 = .ok (.lload_n 3, 1) := by decide +kernel
theorem dX9_write_70 : decode cX9_write 70 = .ok (.invokevirtual 209, 3) := by decide +kernel
theorem dX9_write_73 : decode cX9_write 73 = .ok (.lload 6, 2) := by decide +kernel
theorem dX9_write_75 : decode cX9_write 75 = .ok (.lreturn, 1) := by decide +kernel
theorem dX9_copy_0 : decode cX9_copy 0 = .ok (.iload_n 1, 1) := by decide +kernel
theorem dX9_copy_1 : decode cX9_copy 1 = .ok (.invokestatic 195, 3) := by decide +kernel
theorem dX9_copy_4 : decode cX9_copy 4 = .ok (.ifCond .eq 10, 3) := by decide +kernel
theorem dX9_copy_7 : decode cX9_copy 7 = .ok (.iload_n 3, 1) := by decide +kernel
theorem dX9_copy_8 : decode cX9_copy 8 = .ok (.invokestatic 195, 3) := by decide +kernel
theorem dX9_copy_11 : decode cX9_copy 11 = .ok (.ifCond .ne 9, 3) := by decide +kernel
theorem dX9_copy_14 : decode cX9_copy 14 = .ok (.aload_n 0, 1) := by decide +kernel
theorem dX9_copy_15 : decode cX9_copy 15 = .ok (.iconst 0, 1) := by decide +kernel
theorem dX9_copy_16 : decode cX9_copy 16 = .ok (.invokevirtual 74, 3) := by decide +kernel
theorem dX9_copy_19 : decode cX9_copy 19 = .ok (.ireturn, 1) := by decide +kernel
theorem dX9_copy_20 : decode cX9_copy 20 = .ok (.aload_n 0, 1) := by decide +kernel
theorem dX9_copy_21 : decode cX9_copy 21 = .ok (.getfield 57, 3) := by decide +kernel
theorem dX9_copy_24 : decode cX9_copy 24 = .ok (.iload_n 1, 1) := by decide +kernel
theorem dX9_copy_25 : decode cX9_copy 25 = .ok (.aaload, 1) := by decide +kernel
theorem dX9_copy_26 : decode cX9_copy 26 = .ok (.astore 6, 2) := by decide +kernel
theorem dX9_copy_28 : decode cX9_copy 28 = .ok (.aload_n 0, 1) := by decide +kernel
theorem dX9_copy_29 : decode cX9_copy 29 = .ok (.getfield 57, 3) := by decide +kernel
theorem dX9_copy_32 : decode cX9_copy 32 = .ok (.iload_n 3, 1) := by decide +kernel
theorem dX9_copy_33 : decode cX9_copy 33 = .ok (.aaload, 1) := by decide +kernel
theorem dX9_copy_34 : decode cX9_copy 34 = .ok (.astore 7, 2) := by decide +kernel
theorem dX9_copy_36 : decode cX9_copy 36 = .ok (.aload 6, 2) := by decide +kernel
theorem dX9_copy_38 : decode cX9_copy 38 = .ok (.invokevirtual 202, 3) := by decide +kernel
theorem dX9_copy_41 : decode cX9_copy 41 = .ok (.ifCond .ne 11, 3) := by decide +kernel
theorem dX9_copy_44 : decode cX9_copy 44 = .ok (.aload 7, 2) := by decide +kernel
theorem dX9_copy_46 : decode cX9_copy 46 = .ok (.invokevirtual 202, 3) := by decide +kernel
theorem dX9_copy_49 : decode cX9_copy 49 = .ok (.ifCond .eq 9, 3) := by decide +kernel
theorem dX9_copy_52 : decode cX9_copy 52 = .ok (.aload_n 0, 1) := by decide +kernel
theorem dX9_copy_53 : decode cX9_copy 53 = .ok (.iconst 5, 1) := by decide +kernel
theorem dX9_copy_54 : decode cX9_copy 54 = .ok (.invokevirtual 74, 3) := by decide +kernel
theorem dX9_copy_57 : decode cX9_copy 57 = .ok (.ireturn, 1) := by decide +kernel
theorem dX9_copy_58 : decode cX9_copy 58 = .ok (.aload 6, 2) := by decide +kernel
theorem dX9_copy_60 : decode cX9_copy 60 = .ok (.getfield 213, 3) := by decide +kernel
theorem dX9_copy_63 : decode cX9_copy 63 = .ok (.aload 7, 2) := by decide +kernel
theorem dX9_copy_65 : decode cX9_copy 65 = .ok (.getfield 213, 3) := by decide +kernel
theorem dX9_copy_68 : decode cX9_copy 68 = .ok (.if_icmp .eq 9, 3) := by decide +kernel
theorem dX9_copy_71 : decode cX9_copy 71 = .ok (.aload_n 0, 1) := by decide +kernel
theorem dX9_copy_72 : decode cX9_copy 72 = .ok (.iconst 2, 1) := by decide +kernel
theorem dX9_copy_73 : decode cX9_copy 73 = .ok (.invokevirtual 74, 3) := by decide +kernel
theorem dX9_copy_76 : decode cX9_copy 76 = .ok (.ireturn, 1) := by decide +kernel
theorem dX9_copy_77 : decode cX9_copy 77 = .ok (.aload 6, 2) := by decide +kernel
theorem dX9_copy_79 : decode cX9_copy 79 = .ok (.iload_n 2, 1) := by decide +kernel
theorem dX9_copy_80 : decode cX9_copy 80 = .ok (.iload 5, 2) := by decide +kernel
theorem dX9_copy_82 : decode cX9_copy 82 = .ok (.invokevirtual 216, 3) := by decide +kernel
theorem dX9_copy_85 : decode cX9_copy 85 = .ok (.ifCond .eq 15, 3) := by decide +kernel
theorem dX9_copy_88 : decode cX9_copy 88 = .ok (.aload 7, 2) := by decide +kernel
theorem dX9_copy_90 : decode cX9_copy 90 = .ok (.iload 4, 2) := by decide +kernel
theorem dX9_copy_92 : decode cX9_copy 92 = .ok (.iload 5, 2) := by decide +kernel
theorem dX9_copy_94 : decode cX9_copy 94 = .ok (.invokevirtual 216, 3) := by decide +kernel
theorem dX9_copy_97 : decode cX9_copy 97 = .ok (.ifCond .ne 9, 3) := by decide +kernel
theorem dX9_copy_100 : decode cX9_copy 100 = .ok (.aload_n 0, 1) := by decide +kernel
theorem dX9_copy_101 : decode cX9_copy 101 = .ok (.iconst 0, 1) := by decide +kernel
theorem dX9_copy_102 : decode cX9_copy 102 = .ok (.invokevirtual 74, 3) := by decide +kernel
theorem dX9_copy_105 : decode cX9_copy 105 = .ok (.ireturn, 1) := by decide +kernel
theorem dX9_copy_106 : decode cX9_copy 106 = .ok (.aload 6, 2) := by decide +kernel
theorem dX9_copy_108 : decode cX9_copy 108 = .ok (.getfield 205, 3) := by decide +kernel
theorem dX9_copy_111 : decode cX9_copy 111 = .ok (.iload_n 2, 1) := by decide +kernel
theorem dX9_copy_112 : decode cX9_copy 112 = .ok (.aload 7, 2) := by decide +kernel
theorem dX9_copy_114 : decode cX9_copy 114 = .ok (.getfield 205, 3) := by decide +kernel
theorem dX9_copy_117 : decode cX9_copy 117 = .ok (.iload 4, 2) := by decide +kernel
theorem dX9_copy_119 : decode cX9_copy 119 = .ok (.iload 5, 2) := by decide +kernel
theorem dX9_copy_121 : decode cX9_copy 121 = .ok (.invokestatic 219, 3) := by decide +kernel
theorem dX9_copy_124 : decode cX9_copy 124 = .ok (.iload 5, 2) := by decide +kernel
theorem dX9_copy_126 : decode cX9_copy 126 = .ok (.ireturn, 1) := by decide +kernel
theorem dX9_lays_0 : decode cX9_lays 0 = .ok (.iload_n 1, 1) := by decide +kernel
theorem dX9_lays_1 : decode cX9_lays 1 = .ok (.invokestatic 195, 3) := by decide +kernel
theorem dX9_lays_4 : decode cX9_lays 4 = .ok (.ifCond .ne 9, 3) := by decide +kernel
theorem dX9_lays_7 : decode cX9_lays 7 = .ok (.aload_n 0, 1) := by decide +kernel
theorem dX9_lays_8 : decode cX9_lays 8 = .ok (.iconst 0, 1) := by decide +kernel
theorem dX9_lays_9 : decode cX9_lays 9 = .ok (.invokevirtual 74, 3) := by decide +kernel
theorem dX9_lays_12 : decode cX9_lays 12 = .ok (.ireturn, 1) := by decide +kernel
theorem dX9_lays_13 : decode cX9_lays 13 = .ok (.aload_n 0, 1) := by decide +kernel
theorem dX9_lays_14 : decode cX9_lays 14 = .ok (.getfield 57, 3) := by decide +kernel
theorem dX9_lays_17 : decode cX9_lays 17 = .ok (.iload_n 1, 1) := by decide +kernel
theorem dX9_lays_18 : decode cX9_lays 18 = .ok (.aaload, 1) := by decide +kernel
theorem dX9_lays_19 : decode cX9_lays 19 = .ok (.astore_n 2, 1) := by decide +kernel
theorem dX9_lays_20 : decode cX9_lays 20 = .ok (.aload_n 2, 1) := by decide +kernel
theorem dX9_lays_21 : decode cX9_lays 21 = .ok (.invokevirtual 202, 3) := by decide +kernel
theorem dX9_lays_24 : decode cX9_lays 24 = .ok (.ifCond .eq 9, 3) := by decide +kernel
theorem dX9_lays_27 : decode cX9_lays 27 = .ok (.aload_n 0, 1) := by decide +kernel
theorem dX9_lays_28 : decode cX9_lays 28 = .ok (.iconst 5, 1) := by decide +kernel
theorem dX9_lays_29 : decode cX9_lays 29 = .ok (.invokevirtual 74, 3) := by decide +kernel
theorem dX9_lays_32 : decode cX9_lays 32 = .ok (.ireturn, 1) := by decide +kernel
theorem dX9_lays_33 : decode cX9_lays 33 = .ok (.iconst 0, 1) := by decide +kernel
theorem dX9_lays_34 : decode cX9_lays 34 = .ok (.istore_n 3, 1) := by decide +kernel
theorem dX9_lays_35 : decode cX9_lays 35 = .ok (.iconst 0, 1) := by decide +kernel
theorem dX9_lays_36 : decode cX9_lays 36 = .ok (.istore 4, 2) := by decide +kernel
theorem dX9_lays_38 : decode cX9_lays 38 = .ok (.iload 4, 2) := by decide +kernel
theorem dX9_lays_40 : decode cX9_lays 40 = .ok (.aload_n 2, 1) := by decide +kernel
theorem dX9_lays_41 : decode cX9_lays 41 = .ok (.getfield 201, 3) := by decide +kernel
theorem dX9_lays_44 : decode cX9_lays 44 = .ok (.if_icmp .ge 62, 3) := by decide +kernel
theorem dX9_lays_47 : decode cX9_lays 47 = .ok (.iload 4, 2) := by decide +kernel
theorem dX9_lays_49 : decode cX9_lays 49 = .ok (.aload_n 0, 1) := by decide +kernel
theorem dX9_lays_50 : decode cX9_lays 50 = .ok (.getfield 30, 3) := by decide +kernel
theorem dX9_lays_53 : decode cX9_lays 53 = .ok (.getfield 225, 3) := by decide +kernel
theorem dX9_lays_56 : decode cX9_lays 56 = .ok (.if_icmp .ge 50, 3) := by decide +kernel
theorem dX9_lays_59 : decode cX9_lays 59 = .ok (.aload_n 2, 1) := by decide +kernel
theorem dX9_lays_60 : decode cX9_lays 60 = .ok (.getfield 205, 3) := by decide +kernel
theorem dX9_lays_63 : decode cX9_lays 63 = .ok (.iload 4, 2) := by decide +kernel
theorem dX9_lays_65 : decode cX9_lays 65 = .ok (.laload, 1) := by decide +kernel
theorem dX9_lays_66 : decode cX9_lays 66 = .ok (.lstore 5, 2) := by decide +kernel
theorem dX9_lays_68 : decode cX9_lays 68 = .ok (.lload 5, 2) := by decide +kernel
theorem dX9_lays_70 : decode cX9_lays 70 = .ok (.lconst 0, 1) := by decide +kernel
theorem dX9_lays_71 : decode cX9_lays 71 = .ok (.lcmp, 1) := by decide +kernel
theorem dX9_lays_72 : decode cX9_lays 72 = .ok (.ifCond .lt 28, 3) := by decide +kernel
theorem dX9_lays_75 : decode cX9_lays 75 = .ok (.lload 5, 2) := by decide +kernel
theorem dX9_lays_77 : decode cX9_lays 77 = .ok (.ldc2_w 228, 3) := by decide +kernel
theorem dX9_lays_80 : decode cX9_lays 80 = .ok (.lcmp, 1) := by decide +kernel
theorem dX9_lays_81 : decode cX9_lays 81 = .ok (.ifCond .gt 19, 3) := by decide +kernel
theorem dX9_lays_84 : decode cX9_lays 84 = .ok (.aload_n 0, 1) := by decide +kernel
theorem dX9_lays_85 : decode cX9_lays 85 = .ok (.getfield 30, 3) := by decide +kernel
theorem dX9_lays_88 : decode cX9_lays 88 = .ok (.getfield 149, 3) := by decide +kernel
theorem dX9_lays_91 : decode cX9_lays 91 = .ok (.iload 4, 2) := by decide +kernel
theorem dX9_lays_93 : decode cX9_lays 93 = .ok (.lload 5, 2) := by decide +kernel
theorem dX9_lays_95 : decode cX9_lays 95 = .ok (.l2i, 1) := by decide +kernel
theorem dX9_lays_96 : decode cX9_lays 96 = .ok (.iastore, 1) := by decide +kernel
theorem dX9_lays_97 : decode cX9_lays 97 = .ok (.iinc 3 1, 3) := by decide +kernel
theorem dX9_lays_100 : decode cX9_lays 100 = .ok (.iinc 4 1, 3) := by decide +kernel
theorem dX9_lays_103 : decode cX9_lays 103 = .ok (.goto (-65), 3) := by decide +kernel
theorem dX9_lays_106 : decode cX9_lays 106 = .ok (.iload_n 3, 1) := by decide +kernel
theorem dX9_lays_107 : decode cX9_lays 107 = .ok (.ireturn, 1) := by decide +kernel
theorem dX9_book_0 : decode cX9_book 0 = .ok (.iload_n 1, 1) := by decide +kernel
theorem dX9_book_1 : decode cX9_book 1 = .ok (.invokestatic 195, 3) := by decide +kernel
theorem dX9_book_4 : decode cX9_book 4 = .ok (.ifCond .ne 9, 3) := by decide +kernel
theorem dX9_book_7 : decode cX9_book 7 = .ok (.aload_n 0, 1) := by decide +kernel
theorem dX9_book_8 : decode cX9_book 8 = .ok (.iconst 0, 1) := by decide +kernel
theorem dX9_book_9 : decode cX9_book 9 = .ok (.invokevirtual 74, 3) := by decide +kernel
theorem dX9_book_12 : decode cX9_book 12 = .ok (.ireturn, 1) := by decide +kernel
theorem dX9_book_13 : decode cX9_book 13 = .ok (.aload_n 0, 1) := by decide +kernel
theorem dX9_book_14 : decode cX9_book 14 = .ok (.getfield 57, 3) := by decide +kernel
theorem dX9_book_17 : decode cX9_book 17 = .ok (.iload_n 1, 1) := by decide +kernel
theorem dX9_book_18 : decode cX9_book 18 = .ok (.aaload, 1) := by decide +kernel
theorem dX9_book_19 : decode cX9_book 19 = .ok (.astore_n 3, 1) := by decide +kernel
theorem dX9_book_20 : decode cX9_book 20 = .ok (.aload_n 3, 1) := by decide +kernel
theorem dX9_book_21 : decode cX9_book 21 = .ok (.invokevirtual 202, 3) := by decide +kernel
theorem dX9_book_24 : decode cX9_book 24 = .ok (.ifCond .eq 9, 3) := by decide +kernel
theorem dX9_book_27 : decode cX9_book 27 = .ok (.aload_n 0, 1) := by decide +kernel
theorem dX9_book_28 : decode cX9_book 28 = .ok (.iconst 5, 1) := by decide +kernel
theorem dX9_book_29 : decode cX9_book 29 = .ok (.invokevirtual 74, 3) := by decide +kernel
theorem dX9_book_32 : decode cX9_book 32 = .ok (.ireturn, 1) := by decide +kernel
theorem dX9_book_33 : decode cX9_book 33 = .ok (.aload_n 0, 1) := by decide +kernel
theorem dX9_book_34 : decode cX9_book 34 = .ok (.iload_n 2, 1) := by decide +kernel
theorem dX9_book_35 : decode cX9_book 35 = .ok (.invokevirtual 146, 3) := by decide +kernel
theorem dX9_book_38 : decode cX9_book 38 = .ok (.ifCond .ne 9, 3) := by decide +kernel
theorem dX9_book_41 : decode cX9_book 41 = .ok (.aload_n 0, 1) := by decide +kernel
theorem dX9_book_42 : decode cX9_book 42 = .ok (.iconst 0, 1) := by decide +kernel
theorem dX9_book_43 : decode cX9_book 43 = .ok (.invokevirtual 74, 3) := by decide +kernel
theorem dX9_book_46 : decode cX9_book 46 = .ok (.ireturn, 1) := by decide +kernel
theorem dX9_book_47 : decode cX9_book 47 = .ok (.aload_n 0, 1) := by decide +kernel
theorem dX9_book_48 : decode cX9_book 48 = .ok (.getfield 36, 3) := by decide +kernel
theorem dX9_book_51 : decode cX9_book 51 = .ok (.aload_n 0, 1) := by decide +kernel
theorem dX9_book_52 : decode cX9_book 52 = .ok (.getfield 30, 3) := by decide +kernel
theorem dX9_book_55 : decode cX9_book 55 = .ok (.invokevirtual 173, 3) := by decide +kernel
theorem dX9_book_58 : decode cX9_book 58 = .ok (.iconst 0, 1) := by decide +kernel
theorem dX9_book_59 : decode cX9_book 59 = .ok (.istore 4, 2) := by decide +kernel
theorem dX9_book_61 : decode cX9_book 61 = .ok (.iload 4, 2) := by decide +kernel
theorem dX9_book_63 : decode cX9_book 63 = .ok (.aload_n 3, 1) := by decide +kernel
theorem dX9_book_64 : decode cX9_book 64 = .ok (.getfield 201, 3) := by decide +kernel
theorem dX9_book_67 : decode cX9_book 67 = .ok (.if_icmp .ge 32, 3) := by decide +kernel
theorem dX9_book_70 : decode cX9_book 70 = .ok (.aload_n 3, 1) := by decide +kernel
theorem dX9_book_71 : decode cX9_book 71 = .ok (.iload 4, 2) := by decide +kernel
theorem dX9_book_73 : decode cX9_book 73 = .ok (.aload_n 0, 1) := by decide +kernel
theorem dX9_book_74 : decode cX9_book 74 = .ok (.getfield 36, 3) := by decide +kernel
theorem dX9_book_77 : decode cX9_book 77 = .ok (.getfield 149, 3) := by decide +kernel
theorem dX9_book_80 : decode cX9_book 80 = .ok (.iload_n 2, 1) := by decide +kernel
theorem dX9_book_81 : decode cX9_book 81 = .ok (.iaload, 1) := by decide +kernel
theorem dX9_book_82 : decode cX9_book 82 = .ok (.i2l, 1) := by decide +kernel
theorem dX9_book_83 : decode cX9_book 83 = .ok (.invokevirtual 209, 3) := by decide +kernel
theorem dX9_book_86 : decode cX9_book 86 = .ok (.aload_n 0, 1) := by decide +kernel
theorem dX9_book_87 : decode cX9_book 87 = .ok (.getfield 36, 3) := by decide +kernel
theorem dX9_book_90 : decode cX9_book 90 = .ok (.invokevirtual 180, 3) := by decide +kernel
theorem dX9_book_93 : decode cX9_book 93 = .ok (.iinc 4 1, 3) := by decide +kernel
theorem dX9_book_96 : decode cX9_book 96 = .ok (.goto (-35), 3) := by decide +kernel
theorem dX9_book_99 : decode cX9_book 99 = .ok (.aload_n 3, 1) := by decide +kernel
theorem dX9_book_100 : decode cX9_book 100 = .ok (.getfield 201, 3) := by decide +kernel
theorem dX9_book_103 : decode cX9_book 103 = .ok (.ireturn, 1) := by decide +kernel
theorem dX9_read_0 : decode cX9_read 0 = .ok (.iload_n 1, 1) := by decide +kernel
theorem dX9_read_1 : decode cX9_read 1 = .ok (.invokestatic 195, 3) := by decide +kernel
theorem dX9_read_4 : decode cX9_read 4 = .ok (.ifCond .ne 9, 3) := by decide +kernel
theorem dX9_read_7 : decode cX9_read 7 = .ok (.aload_n 0, 1) := by decide +kernel
theorem dX9_read_8 : decode cX9_read 8 = .ok (.iconst 0, 1) := by decide +kernel
theorem dX9_read_9 : decode cX9_read 9 = .ok (.invokevirtual 74, 3) := by decide +kernel
theorem dX9_read_12 : decode cX9_read 12 = .ok (.ireturn, 1) := by decide +kernel
theorem dX9_read_13 : decode cX9_read 13 = .ok (.aload_n 0, 1) := by decide +kernel
theorem dX9_read_14 : decode cX9_read 14 = .ok (.getfield 57, 3) := by decide +kernel
theorem dX9_read_17 : decode cX9_read 17 = .ok (.iload_n 1, 1) := by decide +kernel
theorem dX9_read_18 : decode cX9_read 18 = .ok (.aaload, 1) := by decide +kernel
theorem dX9_read_19 : decode cX9_read 19 = .ok (.invokevirtual 202, 3) := by decide +kernel
theorem dX9_read_22 : decode cX9_read 22 = .ok (.ifCond .eq 9, 3) := by decide +kernel
theorem dX9_read_25 : decode cX9_read 25 = .ok (.aload_n 0, 1) := by decide +kernel
theorem dX9_read_26 : decode cX9_read 26 = .ok (.iconst 5, 1) := by decide +kernel
theorem dX9_read_27 : decode cX9_read 27 = .ok (.invokevirtual 74, 3) := by decide +kernel
theorem dX9_read_30 : decode cX9_read 30 = .ok (.ireturn, 1) := by decide +kernel
theorem dX9_read_31 : decode cX9_read 31 = .ok (.aload_n 0, 1) := by decide +kernel
theorem dX9_read_32 : decode cX9_read 32 = .ok (.iload_n 2, 1) := by decide +kernel
theorem dX9_read_33 : decode cX9_read 33 = .ok (.invokevirtual 146, 3) := by decide +kernel
theorem dX9_read_36 : decode cX9_read 36 = .ok (.ifCond .eq 11, 3) := by decide +kernel
theorem dX9_read_39 : decode cX9_read 39 = .ok (.aload_n 0, 1) := by decide +kernel
theorem dX9_read_40 : decode cX9_read 40 = .ok (.iload_n 3, 1) := by decide +kernel
theorem dX9_read_41 : decode cX9_read 41 = .ok (.invokevirtual 81, 3) := by decide +kernel
theorem dX9_read_44 : decode cX9_read 44 = .ok (.ifCond .ne 9, 3) := by decide +kernel
theorem dX9_read_47 : decode cX9_read 47 = .ok (.aload_n 0, 1) := by decide +kernel
theorem dX9_read_48 : decode cX9_read 48 = .ok (.iconst 0, 1) := by decide +kernel
theorem dX9_read_49 : decode cX9_read 49 = .ok (.invokevirtual 74, 3) := by decide +kernel
theorem dX9_read_52 : decode cX9_read 52 = .ok (.ireturn, 1) := by decide +kernel
theorem dX9_read_53 : decode cX9_read 53 = .ok (.iconst 0, 1) := by decide +kernel
theorem dX9_read_54 : decode cX9_read 54 = .ok (.istore 4, 2) := by decide +kernel
theorem dX9_read_56 : decode cX9_read 56 = .ok (.iconst 0, 1) := by decide +kernel
theorem dX9_read_57 : decode cX9_read 57 = .ok (.istore 5, 2) := by decide +kernel
theorem dX9_read_59 : decode cX9_read 59 = .ok (.iload 5, 2) := by decide +kernel
theorem dX9_read_61 : decode cX9_read 61 = .ok (.bipush 6, 2) := by decide +kernel
theorem dX9_read_63 : decode cX9_read 63 = .ok (.if_icmp .ge 75, 3) := by decide +kernel
theorem dX9_read_66 : decode cX9_read 66 = .ok (.iconst 0, 1) := by decide +kernel
theorem dX9_read_67 : decode cX9_read 67 = .ok (.istore 6, 2) := by decide +kernel
theorem dX9_read_69 : decode cX9_read 69 = .ok (.iload 6, 2) := by decide +kernel
theorem dX9_read_71 : decode cX9_read 71 = .ok (.bipush 6, 2) := by decide +kernel
theorem dX9_read_73 : decode cX9_read 73 = .ok (.if_icmp .ge 59, 3) := by decide +kernel
theorem dX9_read_76 : decode cX9_read 76 = .ok (.aload_n 0, 1) := by decide +kernel
theorem dX9_read_77 : decode cX9_read 77 = .ok (.getfield 36, 3) := by decide +kernel
theorem dX9_read_80 : decode cX9_read 80 = .ok (.aload_n 0, 1) := by decide +kernel
theorem dX9_read_81 : decode cX9_read 81 = .ok (.getfield 30, 3) := by decide +kernel
theorem dX9_read_84 : decode cX9_read 84 = .ok (.invokevirtual 173, 3) := by decide +kernel
theorem dX9_read_87 : decode cX9_read 87 = .ok (.aload_n 0, 1) := by decide +kernel
theorem dX9_read_88 : decode cX9_read 88 = .ok (.getfield 36, 3) := by decide +kernel
theorem dX9_read_91 : decode cX9_read 91 = .ok (.getfield 114, 3) := by decide +kernel
theorem dX9_read_94 : decode cX9_read 94 = .ok (.iload_n 3, 1) := by decide +kernel
theorem dX9_read_95 : decode cX9_read 95 = .ok (.iload 5, 2) := by decide +kernel
theorem dX9_read_97 : decode cX9_read 97 = .ok (.iastore, 1) := by decide +kernel
theorem dX9_read_98 : decode cX9_read 98 = .ok (.aload_n 0, 1) := by decide +kernel
theorem dX9_read_99 : decode cX9_read 99 = .ok (.getfield 36, 3) := by decide +kernel
theorem dX9_read_102 : decode cX9_read 102 = .ok (.getfield 152, 3) := by decide +kernel
theorem dX9_read_105 : decode cX9_read 105 = .ok (.iload_n 2, 1) := by decide +kernel
theorem dX9_read_106 : decode cX9_read 106 = .ok (.iload 6, 2) := by decide +kernel
theorem dX9_read_108 : decode cX9_read 108 = .ok (.iastore, 1) := by decide +kernel
theorem dX9_read_109 : decode cX9_read 109 = .ok (.aload_n 0, 1) := by decide +kernel
theorem dX9_read_110 : decode cX9_read 110 = .ok (.aload_n 0, 1) := by decide +kernel
theorem dX9_read_111 : decode cX9_read 111 = .ok (.getfield 57, 3) := by decide +kernel
theorem dX9_read_114 : decode cX9_read 114 = .ok (.iload_n 1, 1) := by decide +kernel
theorem dX9_read_115 : decode cX9_read 115 = .ok (.aaload, 1) := by decide +kernel
theorem dX9_read_116 : decode cX9_read 116 = .ok (.iload_n 2, 1) := by decide +kernel
theorem dX9_read_117 : decode cX9_read 117 = .ok (.invokevirtual 230, 3) := by decide +kernel
theorem dX9_read_120 : decode cX9_read 120 = .ok (.ifCond .eq 6, 3) := by decide +kernel
theorem dX9_read_123 : decode cX9_read 123 = .ok (.iinc 4 1, 3) := by decide +kernel
theorem dX9_read_126 : decode cX9_read 126 = .ok (.iinc 6 1, 3) := by decide +kernel
theorem dX9_read_129 : decode cX9_read 129 = .ok (.goto (-60), 3) := by decide +kernel
theorem dX9_read_132 : decode cX9_read 132 = .ok (.iinc 5 1, 3) := by decide +kernel
theorem dX9_read_135 : decode cX9_read 135 = .ok (.goto (-76), 3) := by decide +kernel
theorem dX9_read_138 : decode cX9_read 138 = .ok (.iload 4, 2) := by decide +kernel
theorem dX9_read_140 : decode cX9_read 140 = .ok (.ireturn, 1) := by decide +kernel
theorem dX9_image_0 : decode cX9_image 0 = .ok (.aload_n 0, 1) := by decide +kernel
theorem dX9_image_1 : decode cX9_image 1 = .ok (.getfield 39, 3) := by decide +kernel
theorem dX9_image_4 : decode cX9_image 4 = .ok (.aload_n 0, 1) := by decide +kernel
theorem dX9_image_5 : decode cX9_image 5 = .ok (.getfield 30, 3) := by decide +kernel
theorem dX9_image_8 : decode cX9_image 8 = .ok (.invokevirtual 173, 3) := by decide +kernel
theorem dX9_image_11 : decode cX9_image 11 = .ok (.aload_n 0, 1) := by decide +kernel
theorem dX9_image_12 : decode cX9_image 12 = .ok (.iconst 1, 1) := by decide +kernel
theorem dX9_image_13 : decode cX9_image 13 = .ok (.putfield 42, 3) := by decide +kernel
theorem dX9_image_16 : decode cX9_image 16 = .ok (.iconst 1, 1) := by decide +kernel
theorem dX9_image_17 : decode cX9_image 17 = .ok (.ireturn, 1) := by decide +kernel
theorem dX9_undo_0 : decode cX9_undo 0 = .ok (.aload_n 0, 1) := by decide +kernel
theorem dX9_undo_1 : decode cX9_undo 1 = .ok (.getfield 42, 3) := by decide +kernel
theorem dX9_undo_4 : decode cX9_undo 4 = .ok (.ifCond .ne 9, 3) := by decide +kernel
theorem dX9_undo_7 : decode cX9_undo 7 = .ok (.aload_n 0, 1) := by decide +kernel
theorem dX9_undo_8 : decode cX9_undo 8 = .ok (.iconst 3, 1) := by decide +kernel
theorem dX9_undo_9 : decode cX9_undo 9 = .ok (.invokevirtual 74, 3) := by decide +kernel
theorem dX9_undo_12 : decode cX9_undo 12 = .ok (.ireturn, 1) := by decide +kernel
theorem dX9_undo_13 : decode cX9_undo 13 = .ok (.aload_n 0, 1) := by decide +kernel
theorem dX9_undo_14 : decode cX9_undo 14 = .ok (.getfield 30, 3) := by decide +kernel
theorem dX9_undo_17 : decode cX9_undo 17 = .ok (.aload_n 0, 1) := by decide +kernel
theorem dX9_undo_18 : decode cX9_undo 18 = .ok (.getfield 39, 3) := by decide +kernel
theorem dX9_undo_21 : decode cX9_undo 21 = .ok (.invokevirtual 173, 3) := by decide +kernel
theorem dX9_undo_24 : decode cX9_undo 24 = .ok (.aload_n 0, 1) := by decide +kernel
theorem dX9_undo_25 : decode cX9_undo 25 = .ok (.getfield 30, 3) := by decide +kernel
theorem dX9_undo_28 : decode cX9_undo 28 = .ok (.getfield 183, 3) := by decide +kernel
theorem dX9_undo_31 : decode cX9_undo 31 = .ok (.ireturn, 1) := by decide +kernel
theorem dX9_tear_0 : decode cX9_tear 0 = .ok (.aload_n 0, 1) := by decide +kernel
theorem dX9_tear_1 : decode cX9_tear 1 = .ok (.getfield 42, 3) := by decide +kernel
theorem dX9_tear_4 : decode cX9_tear 4 = .ok (.ifCond .eq 7, 3) := by decide +kernel
theorem dX9_tear_7 : decode cX9_tear 7 = .ok (.iconst 1, 1) := by decide +kernel
theorem dX9_tear_8 : decode cX9_tear 8 = .ok (.goto 4, 3) := by decide +kernel
theorem dX9_tear_11 : decode cX9_tear 11 = .ok (.iconst 0, 1) := by decide +kernel
theorem dX9_tear_12 : decode cX9_tear 12 = .ok (.istore_n 1, 1) := by decide +kernel
theorem dX9_tear_13 : decode cX9_tear 13 = .ok (.aload_n 0, 1) := by decide +kernel
theorem dX9_tear_14 : decode cX9_tear 14 = .ok (.iconst 0, 1) := by decide +kernel
theorem dX9_tear_15 : decode cX9_tear 15 = .ok (.putfield 42, 3) := by decide +kernel
theorem dX9_tear_18 : decode cX9_tear 18 = .ok (.iload_n 1, 1) := by decide +kernel
theorem dX9_tear_19 : decode cX9_tear 19 = .ok (.ireturn, 1) := by decide +kernel
theorem dX9_count_0 : decode cX9_count 0 = .ok (.iload_n 1, 1) := by decide +kernel
theorem dX9_count_1 : decode cX9_count 1 = .ok (.tableswitch 63 0 3 #[31, 39, 47, 55], 31) := by decide +kernel
theorem dX9_count_32 : decode cX9_count 32 = .ok (.aload_n 0, 1) := by decide +kernel
theorem dX9_count_33 : decode cX9_count 33 = .ok (.getfield 30, 3) := by decide +kernel
theorem dX9_count_36 : decode cX9_count 36 = .ok (.getfield 183, 3) := by decide +kernel
theorem dX9_count_39 : decode cX9_count 39 = .ok (.ireturn, 1) := by decide +kernel
theorem dX9_count_40 : decode cX9_count 40 = .ok (.aload_n 0, 1) := by decide +kernel
theorem dX9_count_41 : decode cX9_count 41 = .ok (.getfield 30, 3) := by decide +kernel
theorem dX9_count_44 : decode cX9_count 44 = .ok (.getfield 225, 3) := by decide +kernel
theorem dX9_count_47 : decode cX9_count 47 = .ok (.ireturn, 1) := by decide +kernel
theorem dX9_count_48 : decode cX9_count 48 = .ok (.aload_n 0, 1) := by decide +kernel
theorem dX9_count_49 : decode cX9_count 49 = .ok (.getfield 51, 3) := by decide +kernel
theorem dX9_count_52 : decode cX9_count 52 = .ok (.getfield 186, 3) := by decide +kernel
theorem dX9_count_55 : decode cX9_count 55 = .ok (.ireturn, 1) := by decide +kernel
theorem dX9_count_56 : decode cX9_count 56 = .ok (.aload_n 0, 1) := by decide +kernel
theorem dX9_count_57 : decode cX9_count 57 = .ok (.getfield 30, 3) := by decide +kernel
theorem dX9_count_60 : decode cX9_count 60 = .ok (.invokevirtual 234, 3) := by decide +kernel
theorem dX9_count_63 : decode cX9_count 63 = .ok (.ireturn, 1) := by decide +kernel
theorem dX9_count_64 : decode cX9_count 64 = .ok (.aload_n 0, 1) := by decide +kernel
theorem dX9_count_65 : decode cX9_count 65 = .ok (.iconst 0, 1) := by decide +kernel
theorem dX9_count_66 : decode cX9_count 66 = .ok (.invokevirtual 74, 3) := by decide +kernel
theorem dX9_count_69 : decode cX9_count 69 = .ok (.ireturn, 1) := by decide +kernel
theorem dX9_status_0 : decode cX9_status 0 = .ok (.iload_n 1, 1) := by decide +kernel
theorem dX9_status_1 : decode cX9_status 1 = .ok (.iconst (-1), 1) := by decide +kernel
theorem dX9_status_2 : decode cX9_status 2 = .ok (.if_icmp .ne 30, 3) := by decide +kernel
theorem dX9_status_5 : decode cX9_status 5 = .ok (.iconst 0, 1) := by decide +kernel
theorem dX9_status_6 : decode cX9_status 6 = .ok (.istore_n 2, 1) := by decide +kernel
theorem dX9_status_7 : decode cX9_status 7 = .ok (.iconst 0, 1) := by decide +kernel
theorem dX9_status_8 : decode cX9_status 8 = .ok (.istore_n 3, 1) := by decide +kernel
theorem dX9_status_9 : decode cX9_status 9 = .ok (.iload_n 3, 1) := by decide +kernel
theorem dX9_status_10 : decode cX9_status 10 = .ok (.bipush 7, 2) := by decide +kernel
theorem dX9_status_12 : decode cX9_status 12 = .ok (.if_icmp .ge 18, 3) := by decide +kernel
theorem dX9_status_15 : decode cX9_status 15 = .ok (.iload_n 2, 1) := by decide +kernel
theorem dX9_status_16 : decode cX9_status 16 = .ok (.aload_n 0, 1) := by decide +kernel
theorem dX9_status_17 : decode cX9_status 17 = .ok (.getfield 62, 3) := by decide +kernel
theorem dX9_status_20 : decode cX9_status 20 = .ok (.iload_n 3, 1) := by decide +kernel
theorem dX9_status_21 : decode cX9_status 21 = .ok (.iaload, 1) := by decide +kernel
theorem dX9_status_22 : decode cX9_status 22 = .ok (.iadd, 1) := by decide +kernel
theorem dX9_status_23 : decode cX9_status 23 = .ok (.istore_n 2, 1) := by decide +kernel
theorem dX9_status_24 : decode cX9_status 24 = .ok (.iinc 3 1, 3) := by decide +kernel
theorem dX9_status_27 : decode cX9_status 27 = .ok (.goto (-18), 3) := by decide +kernel
theorem dX9_status_30 : decode cX9_status 30 = .ok (.iload_n 2, 1) := by decide +kernel
theorem dX9_status_31 : decode cX9_status 31 = .ok (.ireturn, 1) := by decide +kernel
theorem dX9_status_32 : decode cX9_status 32 = .ok (.iload_n 1, 1) := by decide +kernel
theorem dX9_status_33 : decode cX9_status 33 = .ok (.ifCond .lt 18, 3) := by decide +kernel
theorem dX9_status_36 : decode cX9_status 36 = .ok (.iload_n 1, 1) := by decide +kernel
theorem dX9_status_37 : decode cX9_status 37 = .ok (.bipush 7, 2) := by decide +kernel
theorem dX9_status_39 : decode cX9_status 39 = .ok (.if_icmp .ge 12, 3) := by decide +kernel
theorem dX9_status_42 : decode cX9_status 42 = .ok (.aload_n 0, 1) := by decide +kernel
theorem dX9_status_43 : decode cX9_status 43 = .ok (.getfield 62, 3) := by decide +kernel
theorem dX9_status_46 : decode cX9_status 46 = .ok (.iload_n 1, 1) := by decide +kernel
theorem dX9_status_47 : decode cX9_status 47 = .ok (.iaload, 1) := by decide +kernel
theorem dX9_status_48 : decode cX9_status 48 = .ok (.goto 8, 3) := by decide +kernel
theorem dX9_status_51 : decode cX9_status 51 = .ok (.aload_n 0, 1) := by decide +kernel
theorem dX9_status_52 : decode cX9_status 52 = .ok (.iconst 0, 1) := by decide +kernel
theorem dX9_status_53 : decode cX9_status 53 = .ok (.invokevirtual 74, 3) := by decide +kernel
theorem dX9_status_56 : decode cX9_status 56 = .ok (.ireturn, 1) := by decide +kernel
theorem dX9_finding_0 : decode cX9_finding 0 = .ok (.aload_n 0, 1) := by decide +kernel
theorem dX9_finding_1 : decode cX9_finding 1 = .ok (.getfield 62, 3) := by decide +kernel
theorem dX9_finding_4 : decode cX9_finding 4 = .ok (.iload_n 1, 1) := by decide +kernel
theorem dX9_finding_5 : decode cX9_finding 5 = .ok (.dup2, 1) := by decide +kernel
theorem dX9_finding_6 : decode cX9_finding 6 = .ok (.iaload, 1) := by decide +kernel
theorem dX9_finding_7 : decode cX9_finding 7 = .ok (.iconst 1, 1) := by decide +kernel
theorem dX9_finding_8 : decode cX9_finding 8 = .ok (.iadd, 1) := by decide +kernel
theorem dX9_finding_9 : decode cX9_finding 9 = .ok (.iastore, 1) := by decide +kernel
theorem dX9_finding_10 : decode cX9_finding 10 = .ok (.ldc 237, 2) := by decide +kernel
theorem dX9_finding_12 : decode cX9_finding 12 = .ok (.iload_n 1, 1) := by decide +kernel
theorem dX9_finding_13 : decode cX9_finding 13 = .ok (.isub, 1) := by decide +kernel
theorem dX9_finding_14 : decode cX9_finding 14 = .ok (.ireturn, 1) := by decide +kernel
theorem dX9_isBeard_0 : decode cX9_isBeard 0 = .ok (.iload_n 1, 1) := by decide +kernel
theorem dX9_isBeard_1 : decode cX9_isBeard 1 = .ok (.ifCond .lt 18, 3) := by decide +kernel
theorem dX9_isBeard_4 : decode cX9_isBeard 4 = .ok (.iload_n 1, 1) := by decide +kernel
theorem dX9_isBeard_5 : decode cX9_isBeard 5 = .ok (.aload_n 0, 1) := by decide +kernel
theorem dX9_isBeard_6 : decode cX9_isBeard 6 = .ok (.getfield 30, 3) := by decide +kernel
theorem dX9_isBeard_9 : decode cX9_isBeard 9 = .ok (.getfield 183, 3) := by decide +kernel
theorem dX9_isBeard_12 : decode cX9_isBeard 12 = .ok (.if_icmp .ge 7, 3) := by decide +kernel
theorem dX9_isBeard_15 : decode cX9_isBeard 15 = .ok (.iconst 1, 1) := by decide +kernel
theorem dX9_isBeard_16 : decode cX9_isBeard 16 = .ok (.goto 4, 3) := by decide +kernel
theorem dX9_isBeard_19 : decode cX9_isBeard 19 = .ok (.iconst 0, 1) := by decide +kernel
theorem dX9_isBeard_20 : decode cX9_isBeard 20 = .ok (.ireturn, 1) := by decide +kernel
theorem dX9_isWearer_0 : decode cX9_isWearer 0 = .ok (.iload_n 1, 1) := by decide +kernel
theorem dX9_isWearer_1 : decode cX9_isWearer 1 = .ok (.ifCond .lt 18, 3) := by decide +kernel
theorem dX9_isWearer_4 : decode cX9_isWearer 4 = .ok (.iload_n 1, 1) := by decide +kernel
theorem dX9_isWearer_5 : decode cX9_isWearer 5 = .ok (.aload_n 0, 1) := by decide +kernel
theorem dX9_isWearer_6 : decode cX9_isWearer 6 = .ok (.getfield 30, 3) := by decide +kernel
theorem dX9_isWearer_9 : decode cX9_isWearer 9 = .ok (.getfield 225, 3) := by decide +kernel
theorem dX9_isWearer_12 : decode cX9_isWearer 12 = .ok (.if_icmp .ge 7, 3) := by decide +kernel
theorem dX9_isWearer_15 : decode cX9_isWearer 15 = .ok (.iconst 1, 1) := by decide +kernel
theorem dX9_isWearer_16 : decode cX9_isWearer 16 = .ok (.goto 4, 3) := by decide +kernel
theorem dX9_isWearer_19 : decode cX9_isWearer 19 = .ok (.iconst 0, 1) := by decide +kernel
theorem dX9_isWearer_20 : decode cX9_isWearer 20 = .ok (.ireturn, 1) := by decide +kernel
theorem dX9_isHouse_0 : decode cX9_isHouse 0 = .ok (.iload_n 0, 1) := by decide +kernel
theorem dX9_isHouse_1 : decode cX9_isHouse 1 = .ok (.ifCond .lt 13, 3) := by decide +kernel
theorem dX9_isHouse_4 : decode cX9_isHouse 4 = .ok (.iload_n 0, 1) := by decide +kernel
theorem dX9_isHouse_5 : decode cX9_isHouse 5 = .ok (.bipush 6, 2) := by decide +kernel
theorem dX9_isHouse_7 : decode cX9_isHouse 7 = .ok (.if_icmp .ge 7, 3) := by decide +kernel
theorem dX9_isHouse_10 : decode cX9_isHouse 10 = .ok (.iconst 1, 1) := by decide +kernel
theorem dX9_isHouse_11 : decode cX9_isHouse 11 = .ok (.goto 4, 3) := by decide +kernel
theorem dX9_isHouse_14 : decode cX9_isHouse 14 = .ok (.iconst 0, 1) := by decide +kernel
theorem dX9_isHouse_15 : decode cX9_isHouse 15 = .ok (.ireturn, 1) := by decide +kernel
theorem dX9_isKind_0 : decode cX9_isKind 0 = .ok (.iload_n 0, 1) := by decide +kernel
theorem dX9_isKind_1 : decode cX9_isKind 1 = .ok (.ifCond .lt 13, 3) := by decide +kernel
theorem dX9_isKind_4 : decode cX9_isKind 4 = .ok (.iload_n 0, 1) := by decide +kernel
theorem dX9_isKind_5 : decode cX9_isKind 5 = .ok (.bipush 6, 2) := by decide +kernel
theorem dX9_isKind_7 : decode cX9_isKind 7 = .ok (.if_icmp .ge 7, 3) := by decide +kernel
theorem dX9_isKind_10 : decode cX9_isKind 10 = .ok (.iconst 1, 1) := by decide +kernel
theorem dX9_isKind_11 : decode cX9_isKind 11 = .ok (.goto 4, 3) := by decide +kernel
theorem dX9_isKind_14 : decode cX9_isKind 14 = .ok (.iconst 0, 1) := by decide +kernel
theorem dX9_isKind_15 : decode cX9_isKind 15 = .ok (.ireturn, 1) := by decide +kernel
theorem dX9_isSheet_0 : decode cX9_isSheet 0 = .ok (.iload_n 0, 1) := by decide +kernel
theorem dX9_isSheet_1 : decode cX9_isSheet 1 = .ok (.ifCond .lt 12, 3) := by decide +kernel
theorem dX9_isSheet_4 : decode cX9_isSheet 4 = .ok (.iload_n 0, 1) := by decide +kernel
theorem dX9_isSheet_5 : decode cX9_isSheet 5 = .ok (.iconst 4, 1) := by decide +kernel
theorem dX9_isSheet_6 : decode cX9_isSheet 6 = .ok (.if_icmp .ge 7, 3) := by decide +kernel
theorem dX9_isSheet_9 : decode cX9_isSheet 9 = .ok (.iconst 1, 1) := by decide +kernel
theorem dX9_isSheet_10 : decode cX9_isSheet 10 = .ok (.goto 4, 3) := by decide +kernel
theorem dX9_isSheet_13 : decode cX9_isSheet 13 = .ok (.iconst 0, 1) := by decide +kernel
theorem dX9_isSheet_14 : decode cX9_isSheet 14 = .ok (.ireturn, 1) := by decide +kernel
theorem dX9_isWithin_0 : decode cX9_isWithin 0 = .ok (.iload_n 0, 1) := by decide +kernel
theorem dX9_isWithin_1 : decode cX9_isWithin 1 = .ok (.iload_n 1, 1) := by decide +kernel
theorem dX9_isWithin_2 : decode cX9_isWithin 2 = .ok (.if_icmp .lt 12, 3) := by decide +kernel
theorem dX9_isWithin_5 : decode cX9_isWithin 5 = .ok (.iload_n 0, 1) := by decide +kernel
theorem dX9_isWithin_6 : decode cX9_isWithin 6 = .ok (.iload_n 2, 1) := by decide +kernel
theorem dX9_isWithin_7 : decode cX9_isWithin 7 = .ok (.if_icmp .gt 7, 3) := by decide +kernel
theorem dX9_isWithin_10 : decode cX9_isWithin 10 = .ok (.iconst 1, 1) := by decide +kernel
theorem dX9_isWithin_11 : decode cX9_isWithin 11 = .ok (.goto 4, 3) := by decide +kernel
theorem dX9_isWithin_14 : decode cX9_isWithin 14 = .ok (.iconst 0, 1) := by decide +kernel
theorem dX9_isWithin_15 : decode cX9_isWithin 15 = .ok (.ireturn, 1) := by decide +kernel
theorem dX9_isUnder_0 : decode cX9_isUnder 0 = .ok (.iload_n 0, 1) := by decide +kernel
theorem dX9_isUnder_1 : decode cX9_isUnder 1 = .ok (.istore_n 2, 1) := by decide +kernel
theorem dX9_isUnder_2 : decode cX9_isUnder 2 = .ok (.iconst 0, 1) := by decide +kernel
theorem dX9_isUnder_3 : decode cX9_isUnder 3 = .ok (.istore_n 3, 1) := by decide +kernel
theorem dX9_isUnder_4 : decode cX9_isUnder 4 = .ok (.iload_n 3, 1) := by decide +kernel
theorem dX9_isUnder_5 : decode cX9_isUnder 5 = .ok (.bipush 6, 2) := by decide +kernel
theorem dX9_isUnder_7 : decode cX9_isUnder 7 = .ok (.if_icmp .ge 29, 3) := by decide +kernel
theorem dX9_isUnder_10 : decode cX9_isUnder 10 = .ok (.iload_n 2, 1) := by decide +kernel
theorem dX9_isUnder_11 : decode cX9_isUnder 11 = .ok (.invokestatic 108, 3) := by decide +kernel
theorem dX9_isUnder_14 : decode cX9_isUnder 14 = .ok (.ifCond .eq 22, 3) := by decide +kernel
theorem dX9_isUnder_17 : decode cX9_isUnder 17 = .ok (.iload_n 2, 1) := by decide +kernel
theorem dX9_isUnder_18 : decode cX9_isUnder 18 = .ok (.iload_n 1, 1) := by decide +kernel
theorem dX9_isUnder_19 : decode cX9_isUnder 19 = .ok (.if_icmp .ne 5, 3) := by decide +kernel
theorem dX9_isUnder_22 : decode cX9_isUnder 22 = .ok (.iconst 1, 1) := by decide +kernel
theorem dX9_isUnder_23 : decode cX9_isUnder 23 = .ok (.ireturn, 1) := by decide +kernel
theorem dX9_isUnder_24 : decode cX9_isUnder 24 = .ok (.getstatic 238, 3) := by decide +kernel
theorem dX9_isUnder_27 : decode cX9_isUnder 27 = .ok (.iload_n 2, 1) := by decide +kernel
theorem dX9_isUnder_28 : decode cX9_isUnder 28 = .ok (.iaload, 1) := by decide +kernel
theorem dX9_isUnder_29 : decode cX9_isUnder 29 = .ok (.istore_n 2, 1) := by decide +kernel
theorem dX9_isUnder_30 : decode cX9_isUnder 30 = .ok (.iinc 3 1, 3) := by decide +kernel
theorem dX9_isUnder_33 : decode cX9_isUnder 33 = .ok (.goto (-29), 3) := by decide +kernel
theorem dX9_isUnder_36 : decode cX9_isUnder 36 = .ok (.iconst 0, 1) := by decide +kernel
theorem dX9_isUnder_37 : decode cX9_isUnder 37 = .ok (.ireturn, 1) := by decide +kernel
theorem dX9_trialFollows_0 : decode cX9_trialFollows 0 = .ok (.iconst 0, 1) := by decide +kernel
theorem dX9_trialFollows_1 : decode cX9_trialFollows 1 = .ok (.istore_n 3, 1) := by decide +kernel
theorem dX9_trialFollows_2 : decode cX9_trialFollows 2 = .ok (.iload_n 3, 1) := by decide +kernel
theorem dX9_trialFollows_3 : decode cX9_trialFollows 3 = .ok (.aload_n 1, 1) := by decide +kernel
theorem dX9_trialFollows_4 : decode cX9_trialFollows 4 = .ok (.getfield 201, 3) := by decide +kernel
theorem dX9_trialFollows_7 : decode cX9_trialFollows 7 = .ok (.if_icmp .ge 38, 3) := by decide +kernel
theorem dX9_trialFollows_10 : decode cX9_trialFollows 10 = .ok (.aload_n 0, 1) := by decide +kernel
theorem dX9_trialFollows_11 : decode cX9_trialFollows 11 = .ok (.getfield 36, 3) := by decide +kernel
theorem dX9_trialFollows_14 : decode cX9_trialFollows 14 = .ok (.getfield 149, 3) := by decide +kernel
theorem dX9_trialFollows_17 : decode cX9_trialFollows 17 = .ok (.iload_n 2, 1) := by decide +kernel
theorem dX9_trialFollows_18 : decode cX9_trialFollows 18 = .ok (.iaload, 1) := by decide +kernel
theorem dX9_trialFollows_19 : decode cX9_trialFollows 19 = .ok (.i2l, 1) := by decide +kernel
theorem dX9_trialFollows_20 : decode cX9_trialFollows 20 = .ok (.aload_n 1, 1) := by decide +kernel
theorem dX9_trialFollows_21 : decode cX9_trialFollows 21 = .ok (.getfield 205, 3) := by decide +kernel
theorem dX9_trialFollows_24 : decode cX9_trialFollows 24 = .ok (.iload_n 3, 1) := by decide +kernel
theorem dX9_trialFollows_25 : decode cX9_trialFollows 25 = .ok (.laload, 1) := by decide +kernel
theorem dX9_trialFollows_26 : decode cX9_trialFollows 26 = .ok (.lcmp, 1) := by decide +kernel
theorem dX9_trialFollows_27 : decode cX9_trialFollows 27 = .ok (.ifCond .eq 5, 3) := by decide +kernel
theorem dX9_trialFollows_30 : decode cX9_trialFollows 30 = .ok (.iconst 0, 1) := by decide +kernel
theorem dX9_trialFollows_31 : decode cX9_trialFollows 31 = .ok (.ireturn, 1) := by decide +kernel
theorem dX9_trialFollows_32 : decode cX9_trialFollows 32 = .ok (.aload_n 0, 1) := by decide +kernel
theorem dX9_trialFollows_33 : decode cX9_trialFollows 33 = .ok (.getfield 36, 3) := by decide +kernel
theorem dX9_trialFollows_36 : decode cX9_trialFollows 36 = .ok (.invokevirtual 180, 3) := by decide +kernel
theorem dX9_trialFollows_39 : decode cX9_trialFollows 39 = .ok (.iinc 3 1, 3) := by decide +kernel
theorem dX9_trialFollows_42 : decode cX9_trialFollows 42 = .ok (.goto (-40), 3) := by decide +kernel
theorem dX9_trialFollows_45 : decode cX9_trialFollows 45 = .ok (.iconst 1, 1) := by decide +kernel
theorem dX9_trialFollows_46 : decode cX9_trialFollows 46 = .ok (.ireturn, 1) := by decide +kernel
end
section
theorem dX10_init_0 : decode cX10_init 0 = .ok (.aload_n 0, 1) := by decide +kernel
theorem dX10_init_1 : decode cX10_init 1 = .ok (.invokespecial 1, 3) := by decide +kernel
theorem dX10_init_4 : decode cX10_init 4 = .ok (.aload_n 0, 1) := by decide +kernel
theorem dX10_init_5 : decode cX10_init 5 = .ok (.bipush 59, 2) := by decide +kernel
theorem dX10_init_7 : decode cX10_init 7 = .ok (.newarray .int, 2) := by decide +kernel
theorem dX10_init_9 : decode cX10_init 9 = .ok (.putfield 7, 3) := by decide +kernel
theorem dX10_init_12 : decode cX10_init 12 = .ok (.aload_n 0, 1) := by decide +kernel
theorem dX10_init_13 : decode cX10_init 13 = .ok (.bipush 59, 2) := by decide +kernel
theorem dX10_init_15 : decode cX10_init 15 = .ok (.newarray .int, 2) := by decide +kernel
theorem dX10_init_17 : decode cX10_init 17 = .ok (.putfield 13, 3) := by decide +kernel
theorem dX10_init_20 : decode cX10_init 20 = .ok (.aload_n 0, 1) := by decide +kernel
theorem dX10_init_21 : decode cX10_init 21 = .ok (.bipush 59, 2) := by decide +kernel
theorem dX10_init_23 : decode cX10_init 23 = .ok (.newarray .int, 2) := by decide +kernel
theorem dX10_init_25 : decode cX10_init 25 = .ok (.putfield 16, 3) := by decide +kernel
theorem dX10_init_28 : decode cX10_init 28 = .ok (.aload_n 0, 1) := by decide +kernel
theorem dX10_init_29 : decode cX10_init 29 = .ok (.bipush 59, 2) := by decide +kernel
theorem dX10_init_31 : decode cX10_init 31 = .ok (.newarray .int, 2) := by decide +kernel
theorem dX10_init_33 : decode cX10_init 33 = .ok (.putfield 19, 3) := by decide +kernel
theorem dX10_init_36 : decode cX10_init 36 = .ok (.aload_n 0, 1) := by decide +kernel
theorem dX10_init_37 : decode cX10_init 37 = .ok (.bipush 7, 2) := by decide +kernel
theorem dX10_init_39 : decode cX10_init 39 = .ok (.newarray .int, 2) := by decide +kernel
theorem dX10_init_41 : decode cX10_init 41 = .ok (.putfield 22, 3) := by decide +kernel
theorem dX10_init_44 : decode cX10_init 44 = .ok (.aload_n 0, 1) := by decide +kernel
theorem dX10_init_45 : decode cX10_init 45 = .ok (.bipush 120, 2) := by decide +kernel
theorem dX10_init_47 : decode cX10_init 47 = .ok (.newarray .int, 2) := by decide +kernel
theorem dX10_init_49 : decode cX10_init 49 = .ok (.putfield 25, 3) := by decide +kernel
theorem dX10_init_52 : decode cX10_init 52 = .ok (.aload_n 0, 1) := by decide +kernel
theorem dX10_init_53 : decode cX10_init 53 = .ok (.iconst 4, 1) := by decide +kernel
theorem dX10_init_54 : decode cX10_init 54 = .ok (.newarray .int, 2) := by decide +kernel
theorem dX10_init_56 : decode cX10_init 56 = .ok (.putfield 28, 3) := by decide +kernel
theorem dX10_init_59 : decode cX10_init 59 = .ok (.aload_n 0, 1) := by decide +kernel
theorem dX10_init_60 : decode cX10_init 60 = .ok (.iconst 4, 1) := by decide +kernel
theorem dX10_init_61 : decode cX10_init 61 = .ok (.newarray .int, 2) := by decide +kernel
theorem dX10_init_63 : decode cX10_init 63 = .ok (.putfield 31, 3) := by decide +kernel
theorem dX10_init_66 : decode cX10_init 66 = .ok (.aload_n 0, 1) := by decide +kernel
theorem dX10_init_67 : decode cX10_init 67 = .ok (.sipush 160, 3) := by decide +kernel
theorem dX10_init_70 : decode cX10_init 70 = .ok (.newarray .long, 2) := by decide +kernel
theorem dX10_init_72 : decode cX10_init 72 = .ok (.putfield 34, 3) := by decide +kernel
theorem dX10_init_75 : decode cX10_init 75 = .ok (.aload_n 0, 1) := by decide +kernel
theorem dX10_init_76 : decode cX10_init 76 = .ok (.bipush 40, 2) := by decide +kernel
theorem dX10_init_78 : decode cX10_init 78 = .ok (.newarray .long, 2) := by decide +kernel
theorem dX10_init_80 : decode cX10_init 80 = .ok (.putfield 38, 3) := by decide +kernel
theorem dX10_init_83 : decode cX10_init 83 = .ok (.iconst 0, 1) := by decide +kernel
theorem dX10_init_84 : decode cX10_init 84 = .ok (.istore_n 1, 1) := by decide +kernel
theorem dX10_init_85 : decode cX10_init 85 = .ok (.iload_n 1, 1) := by decide +kernel
theorem dX10_init_86 : decode cX10_init 86 = .ok (.bipush 6, 2) := by decide +kernel
theorem dX10_init_88 : decode cX10_init 88 = .ok (.if_icmp .ge 20, 3) := by decide +kernel
theorem dX10_init_91 : decode cX10_init 91 = .ok (.aload_n 0, 1) := by decide +kernel
theorem dX10_init_92 : decode cX10_init 92 = .ok (.getfield 7, 3) := by decide +kernel
theorem dX10_init_95 : decode cX10_init 95 = .ok (.iload_n 1, 1) := by decide +kernel
theorem dX10_init_96 : decode cX10_init 96 = .ok (.iconst 0, 1) := by decide +kernel
theorem dX10_init_97 : decode cX10_init 97 = .ok (.invokestatic 41, 3) := by decide +kernel
theorem dX10_init_100 : decode cX10_init 100 = .ok (.iconst (-1), 1) := by decide +kernel
theorem dX10_init_101 : decode cX10_init 101 = .ok (.iastore, 1) := by decide +kernel
theorem dX10_init_102 : decode cX10_init 102 = .ok (.iinc 1 1, 3) := by decide +kernel
theorem dX10_init_105 : decode cX10_init 105 = .ok (.goto (-20), 3) := by decide +kernel
theorem dX10_init_108 : decode cX10_init 108 = .ok (.return_, 1) := by decide +kernel
theorem dX10_in_0 : decode cX10_in 0 = .ok (.lload_n 0, 1) := by decide +kernel
theorem dX10_in_1 : decode cX10_in 1 = .ok (.lload_n 2, 1) := by decide +kernel
theorem dX10_in_2 : decode cX10_in 2 = .ok (.lcmp, 1) := by decide +kernel
theorem dX10_in_3 : decode cX10_in 3 = .ok (.ifCond .lt 14, 3) := by decide +kernel
theorem dX10_in_6 : decode cX10_in 6 = .ok (.lload_n 0, 1) := by decide +kernel
theorem dX10_in_7 : decode cX10_in 7 = .ok (.lload 4, 2) := by decide +kernel
theorem dX10_in_9 : decode cX10_in 9 = .ok (.lcmp, 1) := by decide +kernel
theorem dX10_in_10 : decode cX10_in 10 = .ok (.ifCond .gt 7, 3) := by decide +kernel
theorem dX10_in_13 : decode cX10_in 13 = .ok (.iconst 1, 1) := by decide +kernel
theorem dX10_in_14 : decode cX10_in 14 = .ok (.goto 4, 3) := by decide +kernel
theorem dX10_in_17 : decode cX10_in 17 = .ok (.iconst 0, 1) := by decide +kernel
theorem dX10_in_18 : decode cX10_in 18 = .ok (.ireturn, 1) := by decide +kernel
theorem dX10_finds_0 : decode cX10_finds 0 = .ok (.aload_n 0, 1) := by decide +kernel
theorem dX10_finds_1 : decode cX10_finds 1 = .ok (.getfield 22, 3) := by decide +kernel
theorem dX10_finds_4 : decode cX10_finds 4 = .ok (.ldc 45, 2) := by decide +kernel
theorem dX10_finds_6 : decode cX10_finds 6 = .ok (.iload_n 1, 1) := by decide +kernel
theorem dX10_finds_7 : decode cX10_finds 7 = .ok (.isub, 1) := by decide +kernel
theorem dX10_finds_8 : decode cX10_finds 8 = .ok (.dup2, 1) := by decide +kernel
theorem dX10_finds_9 : decode cX10_finds 9 = .ok (.iaload, 1) := by decide +kernel
theorem dX10_finds_10 : decode cX10_finds 10 = .ok (.iconst 1, 1) := by decide +kernel
theorem dX10_finds_11 : decode cX10_finds 11 = .ok (.iadd, 1) := by decide +kernel
theorem dX10_finds_12 : decode cX10_finds 12 = .ok (.iastore, 1) := by decide +kernel
theorem dX10_finds_13 : decode cX10_finds 13 = .ok (.iload_n 1, 1) := by decide +kernel
theorem dX10_finds_14 : decode cX10_finds 14 = .ok (.ireturn, 1) := by decide +kernel
theorem dX10_saves_0 : decode cX10_saves 0 = .ok (.iconst 0, 1) := by decide +kernel
theorem dX10_saves_1 : decode cX10_saves 1 = .ok (.istore_n 1, 1) := by decide +kernel
theorem dX10_saves_2 : decode cX10_saves 2 = .ok (.iload_n 1, 1) := by decide +kernel
theorem dX10_saves_3 : decode cX10_saves 3 = .ok (.bipush 59, 2) := by decide +kernel
theorem dX10_saves_5 : decode cX10_saves 5 = .ok (.if_icmp .ge 21, 3) := by decide +kernel
theorem dX10_saves_8 : decode cX10_saves 8 = .ok (.aload_n 0, 1) := by decide +kernel
theorem dX10_saves_9 : decode cX10_saves 9 = .ok (.getfield 16, 3) := by decide +kernel
theorem dX10_saves_12 : decode cX10_saves 12 = .ok (.iload_n 1, 1) := by decide +kernel
theorem dX10_saves_13 : decode cX10_saves 13 = .ok (.aload_n 0, 1) := by decide +kernel
theorem dX10_saves_14 : decode cX10_saves 14 = .ok (.getfield 7, 3) := by decide +kernel
theorem dX10_saves_17 : decode cX10_saves 17 = .ok (.iload_n 1, 1) := by decide +kernel
theorem dX10_saves_18 : decode cX10_saves 18 = .ok (.iaload, 1) := by decide +kernel
theorem dX10_saves_19 : decode cX10_saves 19 = .ok (.iastore, 1) := by decide +kernel
theorem dX10_saves_20 : decode cX10_saves 20 = .ok (.iinc 1 1, 3) := by decide +kernel
theorem dX10_saves_23 : decode cX10_saves 23 = .ok (.goto (-21), 3) := by decide +kernel
theorem dX10_saves_26 : decode cX10_saves 26 = .ok (.return_, 1) := by decide +kernel
theorem dX10_putsBack_0 : decode cX10_putsBack 0 = .ok (.iconst 0, 1) := by decide +kernel
theorem dX10_putsBack_1 : decode cX10_putsBack 1 = .ok (.istore_n 1, 1) := by decide +kernel
theorem dX10_putsBack_2 : decode cX10_putsBack 2 = .ok (.iload_n 1, 1) := by decide +kernel
theorem dX10_putsBack_3 : decode cX10_putsBack 3 = .ok (.bipush 59, 2) := by decide +kernel
theorem dX10_putsBack_5 : decode cX10_putsBack 5 = .ok (.if_icmp .ge 21, 3) := by decide +kernel
theorem dX10_putsBack_8 : decode cX10_putsBack 8 = .ok (.aload_n 0, 1) := by decide +kernel
theorem dX10_putsBack_9 : decode cX10_putsBack 9 = .ok (.getfield 7, 3) := by decide +kernel
theorem dX10_putsBack_12 : decode cX10_putsBack 12 = .ok (.iload_n 1, 1) := by decide +kernel
theorem dX10_putsBack_13 : decode cX10_putsBack 13 = .ok (.aload_n 0, 1) := by decide +kernel
theorem dX10_putsBack_14 : decode cX10_putsBack 14 = .ok (.getfield 16, 3) := by decide +kernel
theorem dX10_putsBack_17 : decode cX10_putsBack 17 = .ok (.iload_n 1, 1) := by decide +kernel
theorem dX10_putsBack_18 : decode cX10_putsBack 18 = .ok (.iaload, 1) := by decide +kernel
theorem dX10_putsBack_19 : decode cX10_putsBack 19 = .ok (.iastore, 1) := by decide +kernel
theorem dX10_putsBack_20 : decode cX10_putsBack 20 = .ok (.iinc 1 1, 3) := by decide +kernel
theorem dX10_putsBack_23 : decode cX10_putsBack 23 = .ok (.goto (-21), 3) := by decide +kernel
theorem dX10_putsBack_26 : decode cX10_putsBack 26 = .ok (.return_, 1) := by decide +kernel
theorem dX10_laysAside_0 : decode cX10_laysAside 0 = .ok (.iconst 0, 1) := by decide +kernel
theorem dX10_laysAside_1 : decode cX10_laysAside 1 = .ok (.istore_n 1, 1) := by decide +kernel
theorem dX10_laysAside_2 : decode cX10_laysAside 2 = .ok (.iload_n 1, 1) := by decide +kernel
theorem dX10_laysAside_3 : decode cX10_laysAside 3 = .ok (.bipush 59, 2) := by decide +kernel
theorem dX10_laysAside_5 : decode cX10_laysAside 5 = .ok (.if_icmp .ge 21, 3) := by decide +kernel
theorem dX10_laysAside_8 : decode cX10_laysAside 8 = .ok (.aload_n 0, 1) := by decide +kernel
theorem dX10_laysAside_9 : decode cX10_laysAside 9 = .ok (.getfield 19, 3) := by decide +kernel
theorem dX10_laysAside_12 : decode cX10_laysAside 12 = .ok (.iload_n 1, 1) := by decide +kernel
theorem dX10_laysAside_13 : decode cX10_laysAside 13 = .ok (.aload_n 0, 1) := by decide +kernel
theorem dX10_laysAside_14 : decode cX10_laysAside 14 = .ok (.getfield 7, 3) := by decide +kernel
theorem dX10_laysAside_17 : decode cX10_laysAside 17 = .ok (.iload_n 1, 1) := by decide +kernel
theorem dX10_laysAside_18 : decode cX10_laysAside 18 = .ok (.iaload, 1) := by decide +kernel
theorem dX10_laysAside_19 : decode cX10_laysAside 19 = .ok (.iastore, 1) := by decide +kernel
theorem dX10_laysAside_20 : decode cX10_laysAside 20 = .ok (.iinc 1 1, 3) := by decide +kernel
theorem dX10_laysAside_23 : decode cX10_laysAside 23 = .ok (.goto (-21), 3) := by decide +kernel
theorem dX10_laysAside_26 : decode cX10_laysAside 26 = .ok (.return_, 1) := by decide +kernel
theorem dX10_takesBack_0 : decode cX10_takesBack 0 = .ok (.iconst 0, 1) := by decide +kernel
theorem dX10_takesBack_1 : decode cX10_takesBack 1 = .ok (.istore_n 2, 1) := by decide +kernel
theorem dX10_takesBack_2 : decode cX10_takesBack 2 = .ok (.iload_n 2, 1) := by decide +kernel
theorem dX10_takesBack_3 : decode cX10_takesBack 3 = .ok (.bipush 59, 2) := by decide +kernel
theorem dX10_takesBack_5 : decode cX10_takesBack 5 = .ok (.if_icmp .ge 21, 3) := by decide +kernel
theorem dX10_takesBack_8 : decode cX10_takesBack 8 = .ok (.aload_n 0, 1) := by decide +kernel
theorem dX10_takesBack_9 : decode cX10_takesBack 9 = .ok (.getfield 7, 3) := by decide +kernel
theorem dX10_takesBack_12 : decode cX10_takesBack 12 = .ok (.iload_n 2, 1) := by decide +kernel
theorem dX10_takesBack_13 : decode cX10_takesBack 13 = .ok (.aload_n 0, 1) := by decide +kernel
theorem dX10_takesBack_14 : decode cX10_takesBack 14 = .ok (.getfield 19, 3) := by decide +kernel
theorem dX10_takesBack_17 : decode cX10_takesBack 17 = .ok (.iload_n 2, 1) := by decide +kernel
theorem dX10_takesBack_18 : decode cX10_takesBack 18 = .ok (.iaload, 1) := by decide +kernel
theorem dX10_takesBack_19 : decode cX10_takesBack 19 = .ok (.iastore, 1) := by decide +kernel
theorem dX10_takesBack_20 : decode cX10_takesBack 20 = .ok (.iinc 2 1, 3) := by decide +kernel
theorem dX10_takesBack_23 : decode cX10_takesBack 23 = .ok (.goto (-21), 3) := by decide +kernel
theorem dX10_takesBack_26 : decode cX10_takesBack 26 = .ok (.iload_n 1, 1) := by decide +kernel
theorem dX10_takesBack_27 : decode cX10_takesBack 27 = .ok (.ireturn, 1) := by decide +kernel
theorem dX10_becomes_0 : decode cX10_becomes 0 = .ok (.aload_n 0, 1) := by decide +kernel
theorem dX10_becomes_1 : decode cX10_becomes 1 = .ok (.getfield 7, 3) := by decide +kernel
theorem dX10_becomes_4 : decode cX10_becomes 4 = .ok (.iload_n 1, 1) := by decide +kernel
theorem dX10_becomes_5 : decode cX10_becomes 5 = .ok (.iaload, 1) := by decide +kernel
theorem dX10_becomes_6 : decode cX10_becomes 6 = .ok (.istore_n 3, 1) := by decide +kernel
theorem dX10_becomes_7 : decode cX10_becomes 7 = .ok (.aload_n 0, 1) := by decide +kernel
theorem dX10_becomes_8 : decode cX10_becomes 8 = .ok (.getfield 7, 3) := by decide +kernel
theorem dX10_becomes_11 : decode cX10_becomes 11 = .ok (.iload_n 1, 1) := by decide +kernel
theorem dX10_becomes_12 : decode cX10_becomes 12 = .ok (.iload_n 2, 1) := by decide +kernel
theorem dX10_becomes_13 : decode cX10_becomes 13 = .ok (.iastore, 1) := by decide +kernel
theorem dX10_becomes_14 : decode cX10_becomes 14 = .ok (.iload_n 3, 1) := by decide +kernel
theorem dX10_becomes_15 : decode cX10_becomes 15 = .ok (.ireturn, 1) := by decide +kernel
theorem dX10_houseSpot_0 : decode cX10_houseSpot 0 = .ok (.iconst 3, 1) := by decide +kernel
theorem dX10_houseSpot_1 : decode cX10_houseSpot 1 = .ok (.iconst 2, 1) := by decide +kernel
theorem dX10_houseSpot_2 : decode cX10_houseSpot 2 = .ok (.iload_n 0, 1) := by decide +kernel
theorem dX10_houseSpot_3 : decode cX10_houseSpot 3 = .ok (.imul, 1) := by decide +kernel
theorem dX10_houseSpot_4 : decode cX10_houseSpot 4 = .ok (.iadd, 1) := by decide +kernel
theorem dX10_houseSpot_5 : decode cX10_houseSpot 5 = .ok (.iload_n 1, 1) := by decide +kernel
theorem dX10_houseSpot_6 : decode cX10_houseSpot 6 = .ok (.iadd, 1) := by decide +kernel
theorem dX10_houseSpot_7 : decode cX10_houseSpot 7 = .ok (.ireturn, 1) := by decide +kernel
theorem dX10_beardSpot_0 : decode cX10_beardSpot 0 = .ok (.bipush 15, 2) := by decide +kernel
theorem dX10_beardSpot_2 : decode cX10_beardSpot 2 = .ok (.iconst 4, 1) := by decide +kernel
theorem dX10_beardSpot_3 : decode cX10_beardSpot 3 = .ok (.iload_n 0, 1) := by decide +kernel
theorem dX10_beardSpot_4 : decode cX10_beardSpot 4 = .ok (.imul, 1) := by decide +kernel
theorem dX10_beardSpot_5 : decode cX10_beardSpot 5 = .ok (.iadd, 1) := by decide +kernel
theorem dX10_beardSpot_6 : decode cX10_beardSpot 6 = .ok (.iload_n 1, 1) := by decide +kernel
theorem dX10_beardSpot_7 : decode cX10_beardSpot 7 = .ok (.iadd, 1) := by decide +kernel
theorem dX10_beardSpot_8 : decode cX10_beardSpot 8 = .ok (.ireturn, 1) := by decide +kernel
theorem dX10_wearerSpot_0 : decode cX10_wearerSpot 0 = .ok (.bipush 47, 2) := by decide +kernel
theorem dX10_wearerSpot_2 : decode cX10_wearerSpot 2 = .ok (.iconst 2, 1) := by decide +kernel
theorem dX10_wearerSpot_3 : decode cX10_wearerSpot 3 = .ok (.iload_n 0, 1) := by decide +kernel
theorem dX10_wearerSpot_4 : decode cX10_wearerSpot 4 = .ok (.imul, 1) := by decide +kernel
theorem dX10_wearerSpot_5 : decode cX10_wearerSpot 5 = .ok (.iadd, 1) := by decide +kernel
theorem dX10_wearerSpot_6 : decode cX10_wearerSpot 6 = .ok (.iload_n 1, 1) := by decide +kernel
theorem dX10_wearerSpot_7 : decode cX10_wearerSpot 7 = .ok (.iadd, 1) := by decide +kernel
theorem dX10_wearerSpot_8 : decode cX10_wearerSpot 8 = .ok (.ireturn, 1) := by decide +kernel
theorem dX10_house_0 : decode cX10_house 0 = .ok (.aload_n 0, 1) := by decide +kernel
theorem dX10_house_1 : decode cX10_house 1 = .ok (.getfield 7, 3) := by decide +kernel
theorem dX10_house_4 : decode cX10_house 4 = .ok (.iload_n 1, 1) := by decide +kernel
theorem dX10_house_5 : decode cX10_house 5 = .ok (.iload_n 2, 1) := by decide +kernel
theorem dX10_house_6 : decode cX10_house 6 = .ok (.invokestatic 41, 3) := by decide +kernel
theorem dX10_house_9 : decode cX10_house 9 = .ok (.iaload, 1) := by decide +kernel
theorem dX10_house_10 : decode cX10_house 10 = .ok (.ireturn, 1) := by decide +kernel
theorem dX10_its_0 : decode cX10_its 0 = .ok (.aload_n 0, 1) := by decide +kernel
theorem dX10_its_1 : decode cX10_its 1 = .ok (.getfield 7, 3) := by decide +kernel
theorem dX10_its_4 : decode cX10_its 4 = .ok (.iload_n 1, 1) := by decide +kernel
theorem dX10_its_5 : decode cX10_its 5 = .ok (.iload_n 2, 1) := by decide +kernel
theorem dX10_its_6 : decode cX10_its 6 = .ok (.invokestatic 46, 3) := by decide +kernel
theorem dX10_its_9 : decode cX10_its 9 = .ok (.iaload, 1) := by decide +kernel
theorem dX10_its_10 : decode cX10_its 10 = .ok (.ireturn, 1) := by decide +kernel
theorem dX10_theirs_0 : decode cX10_theirs 0 = .ok (.aload_n 0, 1) := by decide +kernel
theorem dX10_theirs_1 : decode cX10_theirs 1 = .ok (.getfield 7, 3) := by decide +kernel
theorem dX10_theirs_4 : decode cX10_theirs 4 = .ok (.iload_n 1, 1) := by decide +kernel
theorem dX10_theirs_5 : decode cX10_theirs 5 = .ok (.iload_n 2, 1) := by decide +kernel
theorem dX10_theirs_6 : decode cX10_theirs 6 = .ok (.invokestatic 49, 3) := by decide +kernel
theorem dX10_theirs_9 : decode cX10_theirs 9 = .ok (.iaload, 1) := by decide +kernel
theorem dX10_theirs_10 : decode cX10_theirs 10 = .ok (.ireturn, 1) := by decide +kernel
theorem dX10_isHouse_0 : decode cX10_isHouse 0 = .ok (.iload_n 0, 1) := by decide +kernel
theorem dX10_isHouse_1 : decode cX10_isHouse 1 = .ok (.i2l, 1) := by decide +kernel
theorem dX10_isHouse_2 : decode cX10_isHouse 2 = .ok (.lconst 0, 1) := by decide +kernel
theorem dX10_isHouse_3 : decode cX10_isHouse 3 = .ok (.ldc2_w 52, 3) := by decide +kernel
theorem dX10_isHouse_6 : decode cX10_isHouse 6 = .ok (.invokestatic 54, 3) := by decide +kernel
theorem dX10_isHouse_9 : decode cX10_isHouse 9 = .ok (.ireturn, 1) := by decide +kernel
theorem dX10_isBeard_0 : decode cX10_isBeard 0 = .ok (.iload_n 1, 1) := by decide +kernel
theorem dX10_isBeard_1 : decode cX10_isBeard 1 = .ok (.i2l, 1) := by decide +kernel
theorem dX10_isBeard_2 : decode cX10_isBeard 2 = .ok (.lconst 0, 1) := by decide +kernel
theorem dX10_isBeard_3 : decode cX10_isBeard 3 = .ok (.aload_n 0, 1) := by decide +kernel
theorem dX10_isBeard_4 : decode cX10_isBeard 4 = .ok (.getfield 7, 3) := by decide +kernel
theorem dX10_isBeard_7 : decode cX10_isBeard 7 = .ok (.iconst 1, 1) := by decide +kernel
theorem dX10_isBeard_8 : decode cX10_isBeard 8 = .ok (.iaload, 1) := by decide +kernel
theorem dX10_isBeard_9 : decode cX10_isBeard 9 = .ok (.iconst 1, 1) := by decide +kernel
theorem dX10_isBeard_10 : decode cX10_isBeard 10 = .ok (.isub, 1) := by decide +kernel
theorem dX10_isBeard_11 : decode cX10_isBeard 11 = .ok (.i2l, 1) := by decide +kernel
theorem dX10_isBeard_12 : decode cX10_isBeard 12 = .ok (.invokestatic 54, 3) := by decide +kernel
theorem dX10_isBeard_15 : decode cX10_isBeard 15 = .ok (.ireturn, 1) := by decide +kernel
theorem dX10_isWearer_0 : decode cX10_isWearer 0 = .ok (.iload_n 1, 1) := by decide +kernel
theorem dX10_isWearer_1 : decode cX10_isWearer 1 = .ok (.i2l, 1) := by decide +kernel
theorem dX10_isWearer_2 : decode cX10_isWearer 2 = .ok (.lconst 0, 1) := by decide +kernel
theorem dX10_isWearer_3 : decode cX10_isWearer 3 = .ok (.aload_n 0, 1) := by decide +kernel
theorem dX10_isWearer_4 : decode cX10_isWearer 4 = .ok (.getfield 7, 3) := by decide +kernel
theorem dX10_isWearer_7 : decode cX10_isWearer 7 = .ok (.iconst 2, 1) := by decide +kernel
theorem dX10_isWearer_8 : decode cX10_isWearer 8 = .ok (.iaload, 1) := by decide +kernel
theorem dX10_isWearer_9 : decode cX10_isWearer 9 = .ok (.iconst 1, 1) := by decide +kernel
theorem dX10_isWearer_10 : decode cX10_isWearer 10 = .ok (.isub, 1) := by decide +kernel
theorem dX10_isWearer_11 : decode cX10_isWearer 11 = .ok (.i2l, 1) := by decide +kernel
theorem dX10_isWearer_12 : decode cX10_isWearer 12 = .ok (.invokestatic 54, 3) := by decide +kernel
theorem dX10_isWearer_15 : decode cX10_isWearer 15 = .ok (.ireturn, 1) := by decide +kernel
theorem dX10_isKind_0 : decode cX10_isKind 0 = .ok (.iload_n 0, 1) := by decide +kernel
theorem dX10_isKind_1 : decode cX10_isKind 1 = .ok (.i2l, 1) := by decide +kernel
theorem dX10_isKind_2 : decode cX10_isKind 2 = .ok (.lconst 0, 1) := by decide +kernel
theorem dX10_isKind_3 : decode cX10_isKind 3 = .ok (.ldc2_w 52, 3) := by decide +kernel
theorem dX10_isKind_6 : decode cX10_isKind 6 = .ok (.invokestatic 54, 3) := by decide +kernel
theorem dX10_isKind_9 : decode cX10_isKind 9 = .ok (.ireturn, 1) := by decide +kernel
theorem dX10_held_0 : decode cX10_held 0 = .ok (.iload_n 0, 1) := by decide +kernel
theorem dX10_held_1 : decode cX10_held 1 = .ok (.iload_n 1, 1) := by decide +kernel
theorem dX10_held_2 : decode cX10_held 2 = .ok (.if_icmp .ge 7, 3) := by decide +kernel
theorem dX10_held_5 : decode cX10_held 5 = .ok (.iload_n 1, 1) := by decide +kernel
theorem dX10_held_6 : decode cX10_held 6 = .ok (.goto 13, 3) := by decide +kernel
theorem dX10_held_9 : decode cX10_held 9 = .ok (.iload_n 0, 1) := by decide +kernel
theorem dX10_held_10 : decode cX10_held 10 = .ok (.iload_n 2, 1) := by decide +kernel
theorem dX10_held_11 : decode cX10_held 11 = .ok (.if_icmp .le 7, 3) := by decide +kernel
theorem dX10_held_14 : decode cX10_held 14 = .ok (.iload_n 2, 1) := by decide +kernel
theorem dX10_held_15 : decode cX10_held 15 = .ok (.goto 4, 3) := by decide +kernel
theorem dX10_held_18 : decode cX10_held 18 = .ok (.iload_n 0, 1) := by decide +kernel
theorem dX10_held_19 : decode cX10_held 19 = .ok (.ireturn, 1) := by decide +kernel
theorem dX10_isMonday_0 : decode cX10_isMonday 0 = .ok (.aload_n 0, 1) := by decide +kernel
theorem dX10_isMonday_1 : decode cX10_isMonday 1 = .ok (.getfield 7, 3) := by decide +kernel
theorem dX10_isMonday_4 : decode cX10_isMonday 4 = .ok (.iconst 0, 1) := by decide +kernel
theorem dX10_isMonday_5 : decode cX10_isMonday 5 = .ok (.iaload, 1) := by decide +kernel
theorem dX10_isMonday_6 : decode cX10_isMonday 6 = .ok (.bipush 7, 2) := by decide +kernel
theorem dX10_isMonday_8 : decode cX10_isMonday 8 = .ok (.irem, 1) := by decide +kernel
theorem dX10_isMonday_9 : decode cX10_isMonday 9 = .ok (.ifCond .ne 7, 3) := by decide +kernel
theorem dX10_isMonday_12 : decode cX10_isMonday 12 = .ok (.iconst 1, 1) := by decide +kernel
theorem dX10_isMonday_13 : decode cX10_isMonday 13 = .ok (.goto 4, 3) := by decide +kernel
theorem dX10_isMonday_16 : decode cX10_isMonday 16 = .ok (.iconst 0, 1) := by decide +kernel
theorem dX10_isMonday_17 : decode cX10_isMonday 17 = .ok (.ireturn, 1) := by decide +kernel
theorem dX10_placeOf_0 : decode cX10_placeOf 0 = .ok (.aload_n 0, 1) := by decide +kernel
theorem dX10_placeOf_1 : decode cX10_placeOf 1 = .ok (.getfield 7, 3) := by decide +kernel
theorem dX10_placeOf_4 : decode cX10_placeOf 4 = .ok (.iconst 0, 1) := by decide +kernel
theorem dX10_placeOf_5 : decode cX10_placeOf 5 = .ok (.iaload, 1) := by decide +kernel
theorem dX10_placeOf_6 : decode cX10_placeOf 6 = .ok (.aload_n 0, 1) := by decide +kernel
theorem dX10_placeOf_7 : decode cX10_placeOf 7 = .ok (.iload_n 1, 1) := by decide +kernel
theorem dX10_placeOf_8 : decode cX10_placeOf 8 = .ok (.iconst 1, 1) := by decide +kernel
theorem dX10_placeOf_9 : decode cX10_placeOf 9 = .ok (.invokevirtual 58, 3) := by decide +kernel
theorem dX10_placeOf_12 : decode cX10_placeOf 12 = .ok (.iadd, 1) := by decide +kernel
theorem dX10_placeOf_13 : decode cX10_placeOf 13 = .ok (.bipush 6, 2) := by decide +kernel
theorem dX10_placeOf_15 : decode cX10_placeOf 15 = .ok (.irem, 1) := by decide +kernel
theorem dX10_placeOf_16 : decode cX10_placeOf 16 = .ok (.ireturn, 1) := by decide +kernel
theorem dX10_wornBy_0 : decode cX10_wornBy 0 = .ok (.iconst (-1), 1) := by decide +kernel
theorem dX10_wornBy_1 : decode cX10_wornBy 1 = .ok (.istore_n 2, 1) := by decide +kernel
theorem dX10_wornBy_2 : decode cX10_wornBy 2 = .ok (.iconst 0, 1) := by decide +kernel
theorem dX10_wornBy_3 : decode cX10_wornBy 3 = .ok (.istore_n 3, 1) := by decide +kernel
theorem dX10_wornBy_4 : decode cX10_wornBy 4 = .ok (.iload_n 3, 1) := by decide +kernel
theorem dX10_wornBy_5 : decode cX10_wornBy 5 = .ok (.aload_n 0, 1) := by decide +kernel
theorem dX10_wornBy_6 : decode cX10_wornBy 6 = .ok (.getfield 7, 3) := by decide +kernel
theorem dX10_wornBy_9 : decode cX10_wornBy 9 = .ok (.iconst 1, 1) := by decide +kernel
theorem dX10_wornBy_10 : decode cX10_wornBy 10 = .ok (.iaload, 1) := by decide +kernel
theorem dX10_wornBy_11 : decode cX10_wornBy 11 = .ok (.if_icmp .ge 25, 3) := by decide +kernel
theorem dX10_wornBy_14 : decode cX10_wornBy 14 = .ok (.aload_n 0, 1) := by decide +kernel
theorem dX10_wornBy_15 : decode cX10_wornBy 15 = .ok (.iload_n 3, 1) := by decide +kernel
theorem dX10_wornBy_16 : decode cX10_wornBy 16 = .ok (.iconst 3, 1) := by decide +kernel
theorem dX10_wornBy_17 : decode cX10_wornBy 17 = .ok (.invokevirtual 61, 3) := by decide +kernel
theorem dX10_wornBy_20 : decode cX10_wornBy 20 = .ok (.iload_n 1, 1) := by decide +kernel
theorem dX10_wornBy_21 : decode cX10_wornBy 21 = .ok (.if_icmp .ne 7, 3) := by decide +kernel
theorem dX10_wornBy_24 : decode cX10_wornBy 24 = .ok (.iload_n 3, 1) := by decide +kernel
theorem dX10_wornBy_25 : decode cX10_wornBy 25 = .ok (.goto 4, 3) := by decide +kernel
theorem dX10_wornBy_28 : decode cX10_wornBy 28 = .ok (.iload_n 2, 1) := by decide +kernel
theorem dX10_wornBy_29 : decode cX10_wornBy 29 = .ok (.istore_n 2, 1) := by decide +kernel
theorem dX10_wornBy_30 : decode cX10_wornBy 30 = .ok (.iinc 3 1, 3) := by decide +kernel
theorem dX10_wornBy_33 : decode cX10_wornBy 33 = .ok (.goto (-29), 3) := by decide +kernel
theorem dX10_wornBy_36 : decode cX10_wornBy 36 = .ok (.iload_n 2, 1) := by decide +kernel
theorem dX10_wornBy_37 : decode cX10_wornBy 37 = .ok (.ireturn, 1) := by decide +kernel
theorem dX10_mood_0 : decode cX10_mood 0 = .ok (.iload_n 1, 1) := by decide +kernel
theorem dX10_mood_1 : decode cX10_mood 1 = .ok (.invokestatic 64, 3) := by decide +kernel
theorem dX10_mood_4 : decode cX10_mood 4 = .ok (.ifCond .eq 30, 3) := by decide +kernel
theorem dX10_mood_7 : decode cX10_mood 7 = .ok (.iload_n 2, 1) := by decide +kernel
theorem dX10_mood_8 : decode cX10_mood 8 = .ok (.i2l, 1) := by decide +kernel
theorem dX10_mood_9 : decode cX10_mood 9 = .ok (.ldc2_w 68, 3) := by decide +kernel
theorem dX10_mood_12 : decode cX10_mood 12 = .ok (.ldc2_w 70, 3) := by decide +kernel
theorem dX10_mood_15 : decode cX10_mood 15 = .ok (.invokestatic 54, 3) := by decide +kernel
theorem dX10_mood_18 : decode cX10_mood 18 = .ok (.ifCond .eq 16, 3) := by decide +kernel
theorem dX10_mood_21 : decode cX10_mood 21 = .ok (.aload_n 0, 1) := by decide +kernel
theorem dX10_mood_22 : decode cX10_mood 22 = .ok (.iload_n 1, 1) := by decide +kernel
theorem dX10_mood_23 : decode cX10_mood 23 = .ok (.iconst 1, 1) := by decide +kernel
theorem dX10_mood_24 : decode cX10_mood 24 = .ok (.invokestatic 41, 3) := by decide +kernel
theorem dX10_mood_27 : decode cX10_mood 27 = .ok (.iload_n 2, 1) := by decide +kernel
theorem dX10_mood_28 : decode cX10_mood 28 = .ok (.invokevirtual 72, 3) := by decide +kernel
theorem dX10_mood_31 : decode cX10_mood 31 = .ok (.goto 9, 3) := by decide +kernel
theorem dX10_mood_34 : decode cX10_mood 34 = .ok (.aload_n 0, 1) := by decide +kernel
theorem dX10_mood_35 : decode cX10_mood 35 = .ok (.ldc 45, 2) := by decide +kernel
theorem dX10_mood_37 : decode cX10_mood 37 = .ok (.invokevirtual 75, 3) := by decide +kernel
theorem dX10_mood_40 : decode cX10_mood 40 = .ok (.ireturn, 1) := by decide +kernel
theorem dX10_recall_0 : decode cX10_recall 0 = .ok (.iload_n 2, 1) := by decide +kernel
theorem dX10_recall_1 : decode cX10_recall 1 = .ok (.iconst (-1), 1) := by decide +kernel
theorem dX10_recall_2 : decode cX10_recall 2 = .ok (.if_icmp .eq 11, 3) := by decide +kernel
theorem dX10_recall_5 : decode cX10_recall 5 = .ok (.aload_n 0, 1) := by decide +kernel
theorem dX10_recall_6 : decode cX10_recall 6 = .ok (.iload_n 2, 1) := by decide +kernel
theorem dX10_recall_7 : decode cX10_recall 7 = .ok (.invokevirtual 79, 3) := by decide +kernel
theorem dX10_recall_10 : decode cX10_recall 10 = .ok (.ifCond .eq 7, 3) := by decide +kernel
theorem dX10_recall_13 : decode cX10_recall 13 = .ok (.iconst 1, 1) := by decide +kernel
theorem dX10_recall_14 : decode cX10_recall 14 = .ok (.goto 4, 3) := by decide +kernel
theorem dX10_recall_17 : decode cX10_recall 17 = .ok (.iconst 0, 1) := by decide +kernel
theorem dX10_recall_18 : decode cX10_recall 18 = .ok (.istore_n 3, 1) := by decide +kernel
theorem dX10_recall_19 : decode cX10_recall 19 = .ok (.iload_n 1, 1) := by decide +kernel
theorem dX10_recall_20 : decode cX10_recall 20 = .ok (.invokestatic 64, 3) := by decide +kernel
theorem dX10_recall_23 : decode cX10_recall 23 = .ok (.ifCond .eq 20, 3) := by decide +kernel
theorem dX10_recall_26 : decode cX10_recall 26 = .ok (.iload_n 3, 1) := by decide +kernel
theorem dX10_recall_27 : decode cX10_recall 27 = .ok (.ifCond .eq 16, 3) := by decide +kernel
theorem dX10_recall_30 : decode cX10_recall 30 = .ok (.aload_n 0, 1) := by decide +kernel
theorem dX10_recall_31 : decode cX10_recall 31 = .ok (.iload_n 1, 1) := by decide +kernel
theorem dX10_recall_32 : decode cX10_recall 32 = .ok (.iconst 0, 1) := by decide +kernel
theorem dX10_recall_33 : decode cX10_recall 33 = .ok (.invokestatic 41, 3) := by decide +kernel
theorem dX10_recall_36 : decode cX10_recall 36 = .ok (.iload_n 2, 1) := by decide +kernel
theorem dX10_recall_37 : decode cX10_recall 37 = .ok (.invokevirtual 72, 3) := by decide +kernel
theorem dX10_recall_40 : decode cX10_recall 40 = .ok (.goto 9, 3) := by decide +kernel
theorem dX10_recall_43 : decode cX10_recall 43 = .ok (.aload_n 0, 1) := by decide +kernel
theorem dX10_recall_44 : decode cX10_recall 44 = .ok (.ldc 45, 2) := by decide +kernel
theorem dX10_recall_46 : decode cX10_recall 46 = .ok (.invokevirtual 75, 3) := by decide +kernel
theorem dX10_recall_49 : decode cX10_recall 49 = .ok (.ireturn, 1) := by decide +kernel
theorem dX10_goers_0 : decode cX10_goers 0 = .ok (.iconst 0, 1) := by decide +kernel
theorem dX10_goers_1 : decode cX10_goers 1 = .ok (.istore_n 2, 1) := by decide +kernel
theorem dX10_goers_2 : decode cX10_goers 2 = .ok (.iconst 0, 1) := by decide +kernel
theorem dX10_goers_3 : decode cX10_goers 3 = .ok (.istore_n 3, 1) := by decide +kernel
theorem dX10_goers_4 : decode cX10_goers 4 = .ok (.iload_n 3, 1) := by decide +kernel
theorem dX10_goers_5 : decode cX10_goers 5 = .ok (.aload_n 0, 1) := by decide +kernel
theorem dX10_goers_6 : decode cX10_goers 6 = .ok (.getfield 7, 3) := by decide +kernel
theorem dX10_goers_9 : decode cX10_goers 9 = .ok (.iconst 2, 1) := by decide +kernel
theorem dX10_goers_10 : decode cX10_goers 10 = .ok (.iaload, 1) := by decide +kernel
theorem dX10_goers_11 : decode cX10_goers 11 = .ok (.if_icmp .ge 28, 3) := by decide +kernel
theorem dX10_goers_14 : decode cX10_goers 14 = .ok (.iload_n 2, 1) := by decide +kernel
theorem dX10_goers_15 : decode cX10_goers 15 = .ok (.aload_n 0, 1) := by decide +kernel
theorem dX10_goers_16 : decode cX10_goers 16 = .ok (.iload_n 3, 1) := by decide +kernel
theorem dX10_goers_17 : decode cX10_goers 17 = .ok (.invokevirtual 82, 3) := by decide +kernel
theorem dX10_goers_20 : decode cX10_goers 20 = .ok (.iload_n 1, 1) := by decide +kernel
theorem dX10_goers_21 : decode cX10_goers 21 = .ok (.if_icmp .ne 9, 3) := by decide +kernel
theorem dX10_goers_24 : decode cX10_goers 24 = .ok (.iconst 1, 1) := by decide +kernel
theorem dX10_goers_25 : decode cX10_goers 25 = .ok (.iload_n 3, 1) := by decide +kernel
theorem dX10_goers_26 : decode cX10_goers 26 = .ok (.ishl, 1) := by decide +kernel
theorem dX10_goers_27 : decode cX10_goers 27 = .ok (.goto 4, 3) := by decide +kernel
theorem dX10_goers_30 : decode cX10_goers 30 = .ok (.iconst 0, 1) := by decide +kernel
theorem dX10_goers_31 : decode cX10_goers 31 = .ok (.ior, 1) := by decide +kernel
theorem dX10_goers_32 : decode cX10_goers 32 = .ok (.istore_n 2, 1) := by decide +kernel
theorem dX10_goers_33 : decode cX10_goers 33 = .ok (.iinc 3 1, 3) := by decide +kernel
theorem dX10_goers_36 : decode cX10_goers 36 = .ok (.goto (-32), 3) := by decide +kernel
theorem dX10_goers_39 : decode cX10_goers 39 = .ok (.iload_n 2, 1) := by decide +kernel
theorem dX10_goers_40 : decode cX10_goers 40 = .ok (.ireturn, 1) := by decide +kernel
theorem dX10_houseOf_0 : decode cX10_houseOf 0 = .ok (.iload_n 1, 1) := by decide +kernel
theorem dX10_houseOf_1 : decode cX10_houseOf 1 = .ok (.invokestatic 64, 3) := by decide +kernel
theorem dX10_houseOf_4 : decode cX10_houseOf 4 = .ok (.ifCond .eq 15, 3) := by decide +kernel
theorem dX10_houseOf_7 : decode cX10_houseOf 7 = .ok (.iload_n 2, 1) := by decide +kernel
theorem dX10_houseOf_8 : decode cX10_houseOf 8 = .ok (.i2l, 1) := by decide +kernel
theorem dX10_houseOf_9 : decode cX10_houseOf 9 = .ok (.lconst 0, 1) := by decide +kernel
theorem dX10_houseOf_10 : decode cX10_houseOf 10 = .ok (.ldc2_w 85, 3) := by decide +kernel
theorem dX10_houseOf_13 : decode cX10_houseOf 13 = .ok (.invokestatic 54, 3) := by decide +kernel
theorem dX10_houseOf_16 : decode cX10_houseOf 16 = .ok (.ifCond .ne 10, 3) := by decide +kernel
theorem dX10_houseOf_19 : decode cX10_houseOf 19 = .ok (.aload_n 0, 1) := by decide +kernel
theorem dX10_houseOf_20 : decode cX10_houseOf 20 = .ok (.ldc 45, 2) := by decide +kernel
theorem dX10_houseOf_22 : decode cX10_houseOf 22 = .ok (.invokevirtual 75, 3) := by decide +kernel
theorem dX10_houseOf_25 : decode cX10_houseOf 25 = .ok (.ireturn, 1) := by decide +kernel
theorem dX10_houseOf_26 : decode cX10_houseOf 26 = .ok (.iload_n 2, 1) := by decide +kernel
theorem dX10_houseOf_27 : decode cX10_houseOf 27 = .ok (.ifCond .ne 15, 3) := by decide +kernel
theorem dX10_houseOf_30 : decode cX10_houseOf 30 = .ok (.bipush 100, 2) := by decide +kernel
theorem dX10_houseOf_32 : decode cX10_houseOf 32 = .ok (.aload_n 0, 1) := by decide +kernel
theorem dX10_houseOf_33 : decode cX10_houseOf 33 = .ok (.iload_n 1, 1) := by decide +kernel
theorem dX10_houseOf_34 : decode cX10_houseOf 34 = .ok (.iconst 1, 1) := by decide +kernel
theorem dX10_houseOf_35 : decode cX10_houseOf 35 = .ok (.invokevirtual 87, 3) := by decide +kernel
theorem dX10_houseOf_38 : decode cX10_houseOf 38 = .ok (.iadd, 1) := by decide +kernel
theorem dX10_houseOf_39 : decode cX10_houseOf 39 = .ok (.goto 22, 3) := by decide +kernel
theorem dX10_houseOf_42 : decode cX10_houseOf 42 = .ok (.iload_n 2, 1) := by decide +kernel
theorem dX10_houseOf_43 : decode cX10_houseOf 43 = .ok (.iconst 1, 1) := by decide +kernel
theorem dX10_houseOf_44 : decode cX10_houseOf 44 = .ok (.if_icmp .ne 12, 3) := by decide +kernel
theorem dX10_houseOf_47 : decode cX10_houseOf 47 = .ok (.aload_n 0, 1) := by decide +kernel
theorem dX10_houseOf_48 : decode cX10_houseOf 48 = .ok (.iload_n 1, 1) := by decide +kernel
theorem dX10_houseOf_49 : decode cX10_houseOf 49 = .ok (.iconst 0, 1) := by decide +kernel
theorem dX10_houseOf_50 : decode cX10_houseOf 50 = .ok (.invokevirtual 87, 3) := by decide +kernel
theorem dX10_houseOf_53 : decode cX10_houseOf 53 = .ok (.goto 8, 3) := by decide +kernel
theorem dX10_houseOf_56 : decode cX10_houseOf 56 = .ok (.aload_n 0, 1) := by decide +kernel
theorem dX10_houseOf_57 : decode cX10_houseOf 57 = .ok (.iload_n 1, 1) := by decide +kernel
theorem dX10_houseOf_58 : decode cX10_houseOf 58 = .ok (.invokevirtual 90, 3) := by decide +kernel
theorem dX10_houseOf_61 : decode cX10_houseOf 61 = .ok (.ireturn, 1) := by decide +kernel
theorem dX10_inShop_0 : decode cX10_inShop 0 = .ok (.iconst 0, 1) := by decide +kernel
theorem dX10_inShop_1 : decode cX10_inShop 1 = .ok (.istore_n 1, 1) := by decide +kernel
theorem dX10_inShop_2 : decode cX10_inShop 2 = .ok (.iconst 0, 1) := by decide +kernel
theorem dX10_inShop_3 : decode cX10_inShop 3 = .ok (.istore_n 2, 1) := by decide +kernel
theorem dX10_inShop_4 : decode cX10_inShop 4 = .ok (.iload_n 2, 1) := by decide +kernel
theorem dX10_inShop_5 : decode cX10_inShop 5 = .ok (.aload_n 0, 1) := by decide +kernel
theorem dX10_inShop_6 : decode cX10_inShop 6 = .ok (.getfield 7, 3) := by decide +kernel
theorem dX10_inShop_9 : decode cX10_inShop 9 = .ok (.iconst 1, 1) := by decide +kernel
theorem dX10_inShop_10 : decode cX10_inShop 10 = .ok (.iaload, 1) := by decide +kernel
theorem dX10_inShop_11 : decode cX10_inShop 11 = .ok (.if_icmp .ge 29, 3) := by decide +kernel
theorem dX10_inShop_14 : decode cX10_inShop 14 = .ok (.iload_n 1, 1) := by decide +kernel
theorem dX10_inShop_15 : decode cX10_inShop 15 = .ok (.aload_n 0, 1) := by decide +kernel
theorem dX10_inShop_16 : decode cX10_inShop 16 = .ok (.iload_n 2, 1) := by decide +kernel
theorem dX10_inShop_17 : decode cX10_inShop 17 = .ok (.iconst 3, 1) := by decide +kernel
theorem dX10_inShop_18 : decode cX10_inShop 18 = .ok (.invokevirtual 61, 3) := by decide +kernel
theorem dX10_inShop_21 : decode cX10_inShop 21 = .ok (.iconst (-1), 1) := by decide +kernel
theorem dX10_inShop_22 : decode cX10_inShop 22 = .ok (.if_icmp .ne 9, 3) := by decide +kernel
theorem dX10_inShop_25 : decode cX10_inShop 25 = .ok (.iconst 1, 1) := by decide +kernel
theorem dX10_inShop_26 : decode cX10_inShop 26 = .ok (.iload_n 2, 1) := by decide +kernel
theorem dX10_inShop_27 : decode cX10_inShop 27 = .ok (.ishl, 1) := by decide +kernel
theorem dX10_inShop_28 : decode cX10_inShop 28 = .ok (.goto 4, 3) := by decide +kernel
theorem dX10_inShop_31 : decode cX10_inShop 31 = .ok (.iconst 0, 1) := by decide +kernel
theorem dX10_inShop_32 : decode cX10_inShop 32 = .ok (.ior, 1) := by decide +kernel
theorem dX10_inShop_33 : decode cX10_inShop 33 = .ok (.istore_n 1, 1) := by decide +kernel
theorem dX10_inShop_34 : decode cX10_inShop 34 = .ok (.iinc 2 1, 3) := by decide +kernel
theorem dX10_inShop_37 : decode cX10_inShop 37 = .ok (.goto (-33), 3) := by decide +kernel
theorem dX10_inShop_40 : decode cX10_inShop 40 = .ok (.iload_n 1, 1) := by decide +kernel
theorem dX10_inShop_41 : decode cX10_inShop 41 = .ok (.ireturn, 1) := by decide +kernel
theorem dX10_bearded_0 : decode cX10_bearded 0 = .ok (.iconst 0, 1) := by decide +kernel
theorem dX10_bearded_1 : decode cX10_bearded 1 = .ok (.istore_n 1, 1) := by decide +kernel
theorem dX10_bearded_2 : decode cX10_bearded 2 = .ok (.iconst 0, 1) := by decide +kernel
theorem dX10_bearded_3 : decode cX10_bearded 3 = .ok (.istore_n 2, 1) := by decide +kernel
theorem dX10_bearded_4 : decode cX10_bearded 4 = .ok (.iload_n 2, 1) := by decide +kernel
theorem dX10_bearded_5 : decode cX10_bearded 5 = .ok (.aload_n 0, 1) := by decide +kernel
theorem dX10_bearded_6 : decode cX10_bearded 6 = .ok (.getfield 7, 3) := by decide +kernel
theorem dX10_bearded_9 : decode cX10_bearded 9 = .ok (.iconst 1, 1) := by decide +kernel
theorem dX10_bearded_10 : decode cX10_bearded 10 = .ok (.iaload, 1) := by decide +kernel
theorem dX10_bearded_11 : decode cX10_bearded 11 = .ok (.if_icmp .ge 34, 3) := by decide +kernel
theorem dX10_bearded_14 : decode cX10_bearded 14 = .ok (.iload_n 1, 1) := by decide +kernel
theorem dX10_bearded_15 : decode cX10_bearded 15 = .ok (.aload_n 0, 1) := by decide +kernel
theorem dX10_bearded_16 : decode cX10_bearded 16 = .ok (.iload_n 2, 1) := by decide +kernel
theorem dX10_bearded_17 : decode cX10_bearded 17 = .ok (.iconst 3, 1) := by decide +kernel
theorem dX10_bearded_18 : decode cX10_bearded 18 = .ok (.invokevirtual 61, 3) := by decide +kernel
theorem dX10_bearded_21 : decode cX10_bearded 21 = .ok (.iconst (-1), 1) := by decide +kernel
theorem dX10_bearded_22 : decode cX10_bearded 22 = .ok (.if_icmp .ne 7, 3) := by decide +kernel
theorem dX10_bearded_25 : decode cX10_bearded 25 = .ok (.iconst 0, 1) := by decide +kernel
theorem dX10_bearded_26 : decode cX10_bearded 26 = .ok (.goto 11, 3) := by decide +kernel
theorem dX10_bearded_29 : decode cX10_bearded 29 = .ok (.iconst 1, 1) := by decide +kernel
theorem dX10_bearded_30 : decode cX10_bearded 30 = .ok (.aload_n 0, 1) := by decide +kernel
theorem dX10_bearded_31 : decode cX10_bearded 31 = .ok (.iload_n 2, 1) := by decide +kernel
theorem dX10_bearded_32 : decode cX10_bearded 32 = .ok (.iconst 3, 1) := by decide +kernel
theorem dX10_bearded_33 : decode cX10_bearded 33 = .ok (.invokevirtual 61, 3) := by decide +kernel
theorem dX10_bearded_36 : decode cX10_bearded 36 = .ok (.ishl, 1) := by decide +kernel
theorem dX10_bearded_37 : decode cX10_bearded 37 = .ok (.ior, 1) := by decide +kernel
theorem dX10_bearded_38 : decode cX10_bearded 38 = .ok (.istore_n 1, 1) := by decide +kernel
theorem dX10_bearded_39 : decode cX10_bearded 39 = .ok (.iinc 2 1, 3) := by decide +kernel
theorem dX10_bearded_42 : decode cX10_bearded 42 = .ok (.goto (-38), 3) := by decide +kernel
theorem dX10_bearded_45 : decode cX10_bearded 45 = .ok (.iload_n 1, 1) := by decide +kernel
theorem dX10_bearded_46 : decode cX10_bearded 46 = .ok (.ireturn, 1) := by decide +kernel
theorem dX10_purses_0 : decode cX10_purses 0 = .ok (.iconst 0, 1) := by decide +kernel
theorem dX10_purses_1 : decode cX10_purses 1 = .ok (.istore_n 1, 1) := by decide +kernel
theorem dX10_purses_2 : decode cX10_purses 2 = .ok (.iconst 0, 1) := by decide +kernel
theorem dX10_purses_3 : decode cX10_purses 3 = .ok (.istore_n 2, 1) := by decide +kernel
theorem dX10_purses_4 : decode cX10_purses 4 = .ok (.iload_n 2, 1) := by decide +kernel
theorem dX10_purses_5 : decode cX10_purses 5 = .ok (.aload_n 0, 1) := by decide +kernel
theorem dX10_purses_6 : decode cX10_purses 6 = .ok (.getfield 7, 3) := by decide +kernel
theorem dX10_purses_9 : decode cX10_purses 9 = .ok (.iconst 2, 1) := by decide +kernel
theorem dX10_purses_10 : decode cX10_purses 10 = .ok (.iaload, 1) := by decide +kernel
theorem dX10_purses_11 : decode cX10_purses 11 = .ok (.if_icmp .ge 18, 3) := by decide +kernel
theorem dX10_purses_14 : decode cX10_purses 14 = .ok (.iload_n 1, 1) := by decide +kernel
theorem dX10_purses_15 : decode cX10_purses 15 = .ok (.aload_n 0, 1) := by decide +kernel
theorem dX10_purses_16 : decode cX10_purses 16 = .ok (.iload_n 2, 1) := by decide +kernel
theorem dX10_purses_17 : decode cX10_purses 17 = .ok (.iconst 0, 1) := by decide +kernel
theorem dX10_purses_18 : decode cX10_purses 18 = .ok (.invokevirtual 58, 3) := by decide +kernel
theorem dX10_purses_21 : decode cX10_purses 21 = .ok (.iadd, 1) := by decide +kernel
theorem dX10_purses_22 : decode cX10_purses 22 = .ok (.istore_n 1, 1) := by decide +kernel
theorem dX10_purses_23 : decode cX10_purses 23 = .ok (.iinc 2 1, 3) := by decide +kernel
theorem dX10_purses_26 : decode cX10_purses 26 = .ok (.goto (-22), 3) := by decide +kernel
theorem dX10_purses_29 : decode cX10_purses 29 = .ok (.iload_n 1, 1) := by decide +kernel
theorem dX10_purses_30 : decode cX10_purses 30 = .ok (.ireturn, 1) := by decide +kernel
theorem dX10_hoards_0 : decode cX10_hoards 0 = .ok (.iconst 0, 1) := by decide +kernel
theorem dX10_hoards_1 : decode cX10_hoards 1 = .ok (.istore_n 1, 1) := by decide +kernel
theorem dX10_hoards_2 : decode cX10_hoards 2 = .ok (.iconst 0, 1) := by decide +kernel
theorem dX10_hoards_3 : decode cX10_hoards 3 = .ok (.istore_n 2, 1) := by decide +kernel
theorem dX10_hoards_4 : decode cX10_hoards 4 = .ok (.iload_n 2, 1) := by decide +kernel
theorem dX10_hoards_5 : decode cX10_hoards 5 = .ok (.aload_n 0, 1) := by decide +kernel
theorem dX10_hoards_6 : decode cX10_hoards 6 = .ok (.getfield 7, 3) := by decide +kernel
theorem dX10_hoards_9 : decode cX10_hoards 9 = .ok (.iconst 1, 1) := by decide +kernel
theorem dX10_hoards_10 : decode cX10_hoards 10 = .ok (.iaload, 1) := by decide +kernel
theorem dX10_hoards_11 : decode cX10_hoards 11 = .ok (.if_icmp .ge 18, 3) := by decide +kernel
theorem dX10_hoards_14 : decode cX10_hoards 14 = .ok (.iload_n 1, 1) := by decide +kernel
theorem dX10_hoards_15 : decode cX10_hoards 15 = .ok (.aload_n 0, 1) := by decide +kernel
theorem dX10_hoards_16 : decode cX10_hoards 16 = .ok (.iload_n 2, 1) := by decide +kernel
theorem dX10_hoards_17 : decode cX10_hoards 17 = .ok (.iconst 2, 1) := by decide +kernel
theorem dX10_hoards_18 : decode cX10_hoards 18 = .ok (.invokevirtual 61, 3) := by decide +kernel
theorem dX10_hoards_21 : decode cX10_hoards 21 = .ok (.iadd, 1) := by decide +kernel
theorem dX10_hoards_22 : decode cX10_hoards 22 = .ok (.istore_n 1, 1) := by decide +kernel
theorem dX10_hoards_23 : decode cX10_hoards 23 = .ok (.iinc 2 1, 3) := by decide +kernel
theorem dX10_hoards_26 : decode cX10_hoards 26 = .ok (.goto (-22), 3) := by decide +kernel
theorem dX10_hoards_29 : decode cX10_hoards 29 = .ok (.iload_n 1, 1) := by decide +kernel
theorem dX10_hoards_30 : decode cX10_hoards 30 = .ok (.ireturn, 1) := by decide +kernel
theorem dX10_now_0 : decode cX10_now 0 = .ok (.iload_n 1, 1) := by decide +kernel
theorem dX10_now_1 : decode cX10_now 1 = .ok (.tableswitch 70 0 4 #[35, 42, 55, 60, 65], 35) := by decide +kernel
theorem dX10_now_36 : decode cX10_now 36 = .ok (.aload_n 0, 1) := by decide +kernel
theorem dX10_now_37 : decode cX10_now 37 = .ok (.getfield 7, 3) := by decide +kernel
theorem dX10_now_40 : decode cX10_now 40 = .ok (.iconst 0, 1) := by decide +kernel
theorem dX10_now_41 : decode cX10_now 41 = .ok (.iaload, 1) := by decide +kernel
theorem dX10_now_42 : decode cX10_now 42 = .ok (.ireturn, 1) := by decide +kernel
theorem dX10_now_43 : decode cX10_now 43 = .ok (.aload_n 0, 1) := by decide +kernel
theorem dX10_now_44 : decode cX10_now 44 = .ok (.invokevirtual 93, 3) := by decide +kernel
theorem dX10_now_47 : decode cX10_now 47 = .ok (.ifCond .eq 7, 3) := by decide +kernel
theorem dX10_now_50 : decode cX10_now 50 = .ok (.iconst 1, 1) := by decide +kernel
theorem dX10_now_51 : decode cX10_now 51 = .ok (.goto 4, 3) := by decide +kernel
theorem dX10_now_54 : decode cX10_now 54 = .ok (.iconst 0, 1) := by decide +kernel
theorem dX10_now_55 : decode cX10_now 55 = .ok (.ireturn, 1) := by decide +kernel
theorem dX10_now_56 : decode cX10_now 56 = .ok (.aload_n 0, 1) := by decide +kernel
theorem dX10_now_57 : decode cX10_now 57 = .ok (.invokevirtual 97, 3) := by decide +kernel
theorem dX10_now_60 : decode cX10_now 60 = .ok (.ireturn, 1) := by decide +kernel
theorem dX10_now_61 : decode cX10_now 61 = .ok (.aload_n 0, 1) := by decide +kernel
theorem dX10_now_62 : decode cX10_now 62 = .ok (.invokevirtual 101, 3) := by decide +kernel
theorem dX10_now_65 : decode cX10_now 65 = .ok (.ireturn, 1) := by decide +kernel
theorem dX10_now_66 : decode cX10_now 66 = .ok (.aload_n 0, 1) := by decide +kernel
theorem dX10_now_67 : decode cX10_now 67 = .ok (.invokevirtual 104, 3) := by decide +kernel
theorem dX10_now_70 : decode cX10_now 70 = .ok (.ireturn, 1) := by decide +kernel
theorem dX10_now_71 : decode cX10_now 71 = .ok (.aload_n 0, 1) := by decide +kernel
theorem dX10_now_72 : decode cX10_now 72 = .ok (.ldc 45, 2) := by decide +kernel
theorem dX10_now_74 : decode cX10_now 74 = .ok (.invokevirtual 75, 3) := by decide +kernel
theorem dX10_now_77 : decode cX10_now 77 = .ok (.ireturn, 1) := by decide +kernel
theorem dX10_costsOf_0 : decode cX10_costsOf 0 = .ok (.iconst 5, 1) := by decide +kernel
theorem dX10_costsOf_1 : decode cX10_costsOf 1 = .ok (.aload_n 0, 1) := by decide +kernel
theorem dX10_costsOf_2 : decode cX10_costsOf 2 = .ok (.iload_n 1, 1) := by decide +kernel
theorem dX10_costsOf_3 : decode cX10_costsOf 3 = .ok (.iconst 1, 1) := by decide +kernel
theorem dX10_costsOf_4 : decode cX10_costsOf 4 = .ok (.invokevirtual 61, 3) := by decide +kernel
theorem dX10_costsOf_7 : decode cX10_costsOf 7 = .ok (.bipush 10, 2) := by decide +kernel
theorem dX10_costsOf_9 : decode cX10_costsOf 9 = .ok (.idiv, 1) := by decide +kernel
theorem dX10_costsOf_10 : decode cX10_costsOf 10 = .ok (.iadd, 1) := by decide +kernel
theorem dX10_costsOf_11 : decode cX10_costsOf 11 = .ok (.istore_n 2, 1) := by decide +kernel
theorem dX10_costsOf_12 : decode cX10_costsOf 12 = .ok (.aload_n 0, 1) := by decide +kernel
theorem dX10_costsOf_13 : decode cX10_costsOf 13 = .ok (.iload_n 1, 1) := by decide +kernel
theorem dX10_costsOf_14 : decode cX10_costsOf 14 = .ok (.iconst 0, 1) := by decide +kernel
theorem dX10_costsOf_15 : decode cX10_costsOf 15 = .ok (.invokevirtual 61, 3) := by decide +kernel
theorem dX10_costsOf_18 : decode cX10_costsOf 18 = .ok (.tableswitch 58 1 5 #[34, 36, 39, 41, 45], 34) := by decide +kernel
theorem dX10_costsOf_52 : decode cX10_costsOf 52 = .ok (.iload_n 2, 1) := by decide +kernel
theorem dX10_costsOf_53 : decode cX10_costsOf 53 = .ok (.ireturn, 1) := by decide +kernel
theorem dX10_costsOf_54 : decode cX10_costsOf 54 = .ok (.bipush 12, 2) := by decide +kernel
theorem dX10_costsOf_56 : decode cX10_costsOf 56 = .ok (.ireturn, 1) := by decide +kernel
theorem dX10_costsOf_57 : decode cX10_costsOf 57 = .ok (.iconst 2, 1) := by decide +kernel
theorem dX10_costsOf_58 : decode cX10_costsOf 58 = .ok (.ireturn, 1) := by decide +kernel
theorem dX10_costsOf_59 : decode cX10_costsOf 59 = .ok (.iconst 2, 1) := by decide +kernel
theorem dX10_costsOf_60 : decode cX10_costsOf 60 = .ok (.iload_n 2, 1) := by decide +kernel
theorem dX10_costsOf_61 : decode cX10_costsOf 61 = .ok (.imul, 1) := by decide +kernel
theorem dX10_costsOf_62 : decode cX10_costsOf 62 = .ok (.ireturn, 1) := by decide +kernel
theorem dX10_costsOf_63 : decode cX10_costsOf 63 = .ok (.bipush 12, 2) := by decide +kernel
theorem dX10_costsOf_65 : decode cX10_costsOf 65 = .ok (.aload_n 0, 1) := by decide +kernel
theorem dX10_costsOf_66 : decode cX10_costsOf 66 = .ok (.iload_n 1, 1) := by decide +kernel
theorem dX10_costsOf_67 : decode cX10_costsOf 67 = .ok (.iconst 2, 1) := by decide +kernel
theorem dX10_costsOf_68 : decode cX10_costsOf 68 = .ok (.invokevirtual 61, 3) := by decide +kernel
theorem dX10_costsOf_71 : decode cX10_costsOf 71 = .ok (.bipush 50, 2) := by decide +kernel
theorem dX10_costsOf_73 : decode cX10_costsOf 73 = .ok (.idiv, 1) := by decide +kernel
theorem dX10_costsOf_74 : decode cX10_costsOf 74 = .ok (.iadd, 1) := by decide +kernel
theorem dX10_costsOf_75 : decode cX10_costsOf 75 = .ok (.ireturn, 1) := by decide +kernel
theorem dX10_costsOf_76 : decode cX10_costsOf 76 = .ok (.iconst 5, 1) := by decide +kernel
theorem dX10_costsOf_77 : decode cX10_costsOf 77 = .ok (.ireturn, 1) := by decide +kernel
theorem dX10_meetsOf_0 : decode cX10_meetsOf 0 = .ok (.aload_n 0, 1) := by decide +kernel
theorem dX10_meetsOf_1 : decode cX10_meetsOf 1 = .ok (.iload_n 2, 1) := by decide +kernel
theorem dX10_meetsOf_2 : decode cX10_meetsOf 2 = .ok (.iconst 1, 1) := by decide +kernel
theorem dX10_meetsOf_3 : decode cX10_meetsOf 3 = .ok (.invokevirtual 87, 3) := by decide +kernel
theorem dX10_meetsOf_6 : decode cX10_meetsOf 6 = .ok (.istore_n 3, 1) := by decide +kernel
theorem dX10_meetsOf_7 : decode cX10_meetsOf 7 = .ok (.aload_n 0, 1) := by decide +kernel
theorem dX10_meetsOf_8 : decode cX10_meetsOf 8 = .ok (.iload_n 2, 1) := by decide +kernel
theorem dX10_meetsOf_9 : decode cX10_meetsOf 9 = .ok (.iconst 0, 1) := by decide +kernel
theorem dX10_meetsOf_10 : decode cX10_meetsOf 10 = .ok (.invokevirtual 87, 3) := by decide +kernel
theorem dX10_meetsOf_13 : decode cX10_meetsOf 13 = .ok (.iload_n 1, 1) := by decide +kernel
theorem dX10_meetsOf_14 : decode cX10_meetsOf 14 = .ok (.if_icmp .ne 10, 3) := by decide +kernel
theorem dX10_meetsOf_17 : decode cX10_meetsOf 17 = .ok (.iload_n 3, 1) := by decide +kernel
theorem dX10_meetsOf_18 : decode cX10_meetsOf 18 = .ok (.bipush 10, 2) := by decide +kernel
theorem dX10_meetsOf_20 : decode cX10_meetsOf 20 = .ok (.idiv, 1) := by decide +kernel
theorem dX10_meetsOf_21 : decode cX10_meetsOf 21 = .ok (.goto 4, 3) := by decide +kernel
theorem dX10_meetsOf_24 : decode cX10_meetsOf 24 = .ok (.iconst 0, 1) := by decide +kernel
theorem dX10_meetsOf_25 : decode cX10_meetsOf 25 = .ok (.istore 4, 2) := by decide +kernel
theorem dX10_meetsOf_27 : decode cX10_meetsOf 27 = .ok (.aload_n 0, 1) := by decide +kernel
theorem dX10_meetsOf_28 : decode cX10_meetsOf 28 = .ok (.iload_n 1, 1) := by decide +kernel
theorem dX10_meetsOf_29 : decode cX10_meetsOf 29 = .ok (.iconst 1, 1) := by decide +kernel
theorem dX10_meetsOf_30 : decode cX10_meetsOf 30 = .ok (.invokevirtual 61, 3) := by decide +kernel
theorem dX10_meetsOf_33 : decode cX10_meetsOf 33 = .ok (.bipush 50, 2) := by decide +kernel
theorem dX10_meetsOf_35 : decode cX10_meetsOf 35 = .ok (.if_icmp .le 10, 3) := by decide +kernel
theorem dX10_meetsOf_38 : decode cX10_meetsOf 38 = .ok (.iload 4, 2) := by decide +kernel
theorem dX10_meetsOf_40 : decode cX10_meetsOf 40 = .ok (.iconst 4, 1) := by decide +kernel
theorem dX10_meetsOf_41 : decode cX10_meetsOf 41 = .ok (.isub, 1) := by decide +kernel
theorem dX10_meetsOf_42 : decode cX10_meetsOf 42 = .ok (.goto 5, 3) := by decide +kernel
theorem dX10_meetsOf_45 : decode cX10_meetsOf 45 = .ok (.iload 4, 2) := by decide +kernel
theorem dX10_meetsOf_47 : decode cX10_meetsOf 47 = .ok (.istore 5, 2) := by decide +kernel
theorem dX10_meetsOf_49 : decode cX10_meetsOf 49 = .ok (.iload 4, 2) := by decide +kernel
theorem dX10_meetsOf_51 : decode cX10_meetsOf 51 = .ok (.ifCond .le 8, 3) := by decide +kernel
theorem dX10_meetsOf_54 : decode cX10_meetsOf 54 = .ok (.iload 4, 2) := by decide +kernel
theorem dX10_meetsOf_56 : decode cX10_meetsOf 56 = .ok (.goto 5, 3) := by decide +kernel
theorem dX10_meetsOf_59 : decode cX10_meetsOf 59 = .ok (.bipush (-6), 2) := by decide +kernel
theorem dX10_meetsOf_61 : decode cX10_meetsOf 61 = .ok (.istore 6, 2) := by decide +kernel
theorem dX10_meetsOf_63 : decode cX10_meetsOf 63 = .ok (.aload_n 0, 1) := by decide +kernel
theorem dX10_meetsOf_64 : decode cX10_meetsOf 64 = .ok (.iload_n 1, 1) := by decide +kernel
theorem dX10_meetsOf_65 : decode cX10_meetsOf 65 = .ok (.iconst 0, 1) := by decide +kernel
theorem dX10_meetsOf_66 : decode cX10_meetsOf 66 = .ok (.invokevirtual 61, 3) := by decide +kernel
theorem dX10_meetsOf_69 : decode cX10_meetsOf 69 = .ok (.tableswitch 68 1 5 #[35, 38, 41, 46, 63], 35) := by decide +kernel
theorem dX10_meetsOf_104 : decode cX10_meetsOf 104 = .ok (.iload 5, 2) := by decide +kernel
theorem dX10_meetsOf_106 : decode cX10_meetsOf 106 = .ok (.ireturn, 1) := by decide +kernel
theorem dX10_meetsOf_107 : decode cX10_meetsOf 107 = .ok (.iload 6, 2) := by decide +kernel
theorem dX10_meetsOf_109 : decode cX10_meetsOf 109 = .ok (.ireturn, 1) := by decide +kernel
theorem dX10_meetsOf_110 : decode cX10_meetsOf 110 = .ok (.iload 4, 2) := by decide +kernel
theorem dX10_meetsOf_112 : decode cX10_meetsOf 112 = .ok (.iconst 1, 1) := by decide +kernel
theorem dX10_meetsOf_113 : decode cX10_meetsOf 113 = .ok (.iadd, 1) := by decide +kernel
theorem dX10_meetsOf_114 : decode cX10_meetsOf 114 = .ok (.ireturn, 1) := by decide +kernel
theorem dX10_meetsOf_115 : decode cX10_meetsOf 115 = .ok (.iload_n 3, 1) := by decide +kernel
theorem dX10_meetsOf_116 : decode cX10_meetsOf 116 = .ok (.bipush 20, 2) := by decide +kernel
theorem dX10_meetsOf_118 : decode cX10_meetsOf 118 = .ok (.if_icmp .le 11, 3) := by decide +kernel
theorem dX10_meetsOf_121 : decode cX10_meetsOf 121 = .ok (.iload 5, 2) := by decide +kernel
theorem dX10_meetsOf_123 : decode cX10_meetsOf 123 = .ok (.bipush 10, 2) := by decide +kernel
theorem dX10_meetsOf_125 : decode cX10_meetsOf 125 = .ok (.iadd, 1) := by decide +kernel
theorem dX10_meetsOf_126 : decode cX10_meetsOf 126 = .ok (.goto 5, 3) := by decide +kernel
theorem dX10_meetsOf_129 : decode cX10_meetsOf 129 = .ok (.iload 5, 2) := by decide +kernel
theorem dX10_meetsOf_131 : decode cX10_meetsOf 131 = .ok (.ireturn, 1) := by decide +kernel
theorem dX10_meetsOf_132 : decode cX10_meetsOf 132 = .ok (.iconst 2, 1) := by decide +kernel
theorem dX10_meetsOf_133 : decode cX10_meetsOf 133 = .ok (.iload 6, 2) := by decide +kernel
theorem dX10_meetsOf_135 : decode cX10_meetsOf 135 = .ok (.imul, 1) := by decide +kernel
theorem dX10_meetsOf_136 : decode cX10_meetsOf 136 = .ok (.ireturn, 1) := by decide +kernel
theorem dX10_meetsOf_137 : decode cX10_meetsOf 137 = .ok (.iload 4, 2) := by decide +kernel
theorem dX10_meetsOf_139 : decode cX10_meetsOf 139 = .ok (.ireturn, 1) := by decide +kernel
theorem dX10_leavesOf_0 : decode cX10_leavesOf 0 = .ok (.aload_n 0, 1) := by decide +kernel
theorem dX10_leavesOf_1 : decode cX10_leavesOf 1 = .ok (.iload_n 1, 1) := by decide +kernel
theorem dX10_leavesOf_2 : decode cX10_leavesOf 2 = .ok (.iconst 1, 1) := by decide +kernel
theorem dX10_leavesOf_3 : decode cX10_leavesOf 3 = .ok (.invokevirtual 61, 3) := by decide +kernel
theorem dX10_leavesOf_6 : decode cX10_leavesOf 6 = .ok (.bipush 50, 2) := by decide +kernel
theorem dX10_leavesOf_8 : decode cX10_leavesOf 8 = .ok (.if_icmp .le 8, 3) := by decide +kernel
theorem dX10_leavesOf_11 : decode cX10_leavesOf 11 = .ok (.bipush (-5), 2) := by decide +kernel
theorem dX10_leavesOf_13 : decode cX10_leavesOf 13 = .ok (.goto 4, 3) := by decide +kernel
theorem dX10_leavesOf_16 : decode cX10_leavesOf 16 = .ok (.iconst 3, 1) := by decide +kernel
theorem dX10_leavesOf_17 : decode cX10_leavesOf 17 = .ok (.istore_n 2, 1) := by decide +kernel
theorem dX10_leavesOf_18 : decode cX10_leavesOf 18 = .ok (.aload_n 0, 1) := by decide +kernel
theorem dX10_leavesOf_19 : decode cX10_leavesOf 19 = .ok (.iload_n 1, 1) := by decide +kernel
theorem dX10_leavesOf_20 : decode cX10_leavesOf 20 = .ok (.iconst 0, 1) := by decide +kernel
theorem dX10_leavesOf_21 : decode cX10_leavesOf 21 = .ok (.invokevirtual 61, 3) := by decide +kernel
theorem dX10_leavesOf_24 : decode cX10_leavesOf 24 = .ok (.tableswitch 47 1 5 #[36, 38, 41, 43, 38], 36) := by decide +kernel
theorem dX10_leavesOf_60 : decode cX10_leavesOf 60 = .ok (.iload_n 2, 1) := by decide +kernel
theorem dX10_leavesOf_61 : decode cX10_leavesOf 61 = .ok (.ireturn, 1) := by decide +kernel
theorem dX10_leavesOf_62 : decode cX10_leavesOf 62 = .ok (.bipush 7, 2) := by decide +kernel
theorem dX10_leavesOf_64 : decode cX10_leavesOf 64 = .ok (.ireturn, 1) := by decide +kernel
theorem dX10_leavesOf_65 : decode cX10_leavesOf 65 = .ok (.iconst 1, 1) := by decide +kernel
theorem dX10_leavesOf_66 : decode cX10_leavesOf 66 = .ok (.ireturn, 1) := by decide +kernel
theorem dX10_leavesOf_67 : decode cX10_leavesOf 67 = .ok (.iload_n 2, 1) := by decide +kernel
theorem dX10_leavesOf_68 : decode cX10_leavesOf 68 = .ok (.iconst 1, 1) := by decide +kernel
theorem dX10_leavesOf_69 : decode cX10_leavesOf 69 = .ok (.iadd, 1) := by decide +kernel
theorem dX10_leavesOf_70 : decode cX10_leavesOf 70 = .ok (.ireturn, 1) := by decide +kernel
theorem dX10_leavesOf_71 : decode cX10_leavesOf 71 = .ok (.iconst 3, 1) := by decide +kernel
theorem dX10_leavesOf_72 : decode cX10_leavesOf 72 = .ok (.ireturn, 1) := by decide +kernel
theorem dX10_gainsOf_0 : decode cX10_gainsOf 0 = .ok (.aload_n 0, 1) := by decide +kernel
theorem dX10_gainsOf_1 : decode cX10_gainsOf 1 = .ok (.iload_n 1, 1) := by decide +kernel
theorem dX10_gainsOf_2 : decode cX10_gainsOf 2 = .ok (.iconst 0, 1) := by decide +kernel
theorem dX10_gainsOf_3 : decode cX10_gainsOf 3 = .ok (.invokevirtual 61, 3) := by decide +kernel
theorem dX10_gainsOf_6 : decode cX10_gainsOf 6 = .ok (.tableswitch 53 1 5 #[34, 53, 36, 38, 51], 34) := by decide +kernel
theorem dX10_gainsOf_40 : decode cX10_gainsOf 40 = .ok (.iconst 3, 1) := by decide +kernel
theorem dX10_gainsOf_41 : decode cX10_gainsOf 41 = .ok (.ireturn, 1) := by decide +kernel
theorem dX10_gainsOf_42 : decode cX10_gainsOf 42 = .ok (.iconst 0, 1) := by decide +kernel
theorem dX10_gainsOf_43 : decode cX10_gainsOf 43 = .ok (.ireturn, 1) := by decide +kernel
theorem dX10_gainsOf_44 : decode cX10_gainsOf 44 = .ok (.aload_n 0, 1) := by decide +kernel
theorem dX10_gainsOf_45 : decode cX10_gainsOf 45 = .ok (.invokevirtual 93, 3) := by decide +kernel
theorem dX10_gainsOf_48 : decode cX10_gainsOf 48 = .ok (.ifCond .eq 7, 3) := by decide +kernel
theorem dX10_gainsOf_51 : decode cX10_gainsOf 51 = .ok (.iconst 0, 1) := by decide +kernel
theorem dX10_gainsOf_52 : decode cX10_gainsOf 52 = .ok (.goto 4, 3) := by decide +kernel
theorem dX10_gainsOf_55 : decode cX10_gainsOf 55 = .ok (.iconst 3, 1) := by decide +kernel
theorem dX10_gainsOf_56 : decode cX10_gainsOf 56 = .ok (.ireturn, 1) := by decide +kernel
theorem dX10_gainsOf_57 : decode cX10_gainsOf 57 = .ok (.iconst (-1), 1) := by decide +kernel
theorem dX10_gainsOf_58 : decode cX10_gainsOf 58 = .ok (.ireturn, 1) := by decide +kernel
theorem dX10_gainsOf_59 : decode cX10_gainsOf 59 = .ok (.iconst 1, 1) := by decide +kernel
theorem dX10_gainsOf_60 : decode cX10_gainsOf 60 = .ok (.ireturn, 1) := by decide +kernel
theorem dX10_addsBeard_0 : decode cX10_addsBeard 0 = .ok (.aload_n 0, 1) := by decide +kernel
theorem dX10_addsBeard_1 : decode cX10_addsBeard 1 = .ok (.getfield 7, 3) := by decide +kernel
theorem dX10_addsBeard_4 : decode cX10_addsBeard 4 = .ok (.iconst 1, 1) := by decide +kernel
theorem dX10_addsBeard_5 : decode cX10_addsBeard 5 = .ok (.iaload, 1) := by decide +kernel
theorem dX10_addsBeard_6 : decode cX10_addsBeard 6 = .ok (.istore_n 2, 1) := by decide +kernel
theorem dX10_addsBeard_7 : decode cX10_addsBeard 7 = .ok (.aload_n 0, 1) := by decide +kernel
theorem dX10_addsBeard_8 : decode cX10_addsBeard 8 = .ok (.getfield 7, 3) := by decide +kernel
theorem dX10_addsBeard_11 : decode cX10_addsBeard 11 = .ok (.iconst 1, 1) := by decide +kernel
theorem dX10_addsBeard_12 : decode cX10_addsBeard 12 = .ok (.dup2, 1) := by decide +kernel
theorem dX10_addsBeard_13 : decode cX10_addsBeard 13 = .ok (.iaload, 1) := by decide +kernel
theorem dX10_addsBeard_14 : decode cX10_addsBeard 14 = .ok (.iconst 1, 1) := by decide +kernel
theorem dX10_addsBeard_15 : decode cX10_addsBeard 15 = .ok (.iadd, 1) := by decide +kernel
theorem dX10_addsBeard_16 : decode cX10_addsBeard 16 = .ok (.iastore, 1) := by decide +kernel
theorem dX10_addsBeard_17 : decode cX10_addsBeard 17 = .ok (.aload_n 0, 1) := by decide +kernel
theorem dX10_addsBeard_18 : decode cX10_addsBeard 18 = .ok (.getfield 7, 3) := by decide +kernel
theorem dX10_addsBeard_21 : decode cX10_addsBeard 21 = .ok (.iload_n 2, 1) := by decide +kernel
theorem dX10_addsBeard_22 : decode cX10_addsBeard 22 = .ok (.iconst 0, 1) := by decide +kernel
theorem dX10_addsBeard_23 : decode cX10_addsBeard 23 = .ok (.invokestatic 46, 3) := by decide +kernel
theorem dX10_addsBeard_26 : decode cX10_addsBeard 26 = .ok (.iload_n 1, 1) := by decide +kernel
theorem dX10_addsBeard_27 : decode cX10_addsBeard 27 = .ok (.iastore, 1) := by decide +kernel
theorem dX10_addsBeard_28 : decode cX10_addsBeard 28 = .ok (.aload_n 0, 1) := by decide +kernel
theorem dX10_addsBeard_29 : decode cX10_addsBeard 29 = .ok (.getfield 7, 3) := by decide +kernel
theorem dX10_addsBeard_32 : decode cX10_addsBeard 32 = .ok (.iload_n 2, 1) := by decide +kernel
theorem dX10_addsBeard_33 : decode cX10_addsBeard 33 = .ok (.iconst 1, 1) := by decide +kernel
theorem dX10_addsBeard_34 : decode cX10_addsBeard 34 = .ok (.invokestatic 46, 3) := by decide +kernel
theorem dX10_addsBeard_37 : decode cX10_addsBeard 37 = .ok (.bipush 10, 2) := by decide +kernel
theorem dX10_addsBeard_39 : decode cX10_addsBeard 39 = .ok (.iastore, 1) := by decide +kernel
theorem dX10_addsBeard_40 : decode cX10_addsBeard 40 = .ok (.aload_n 0, 1) := by decide +kernel
theorem dX10_addsBeard_41 : decode cX10_addsBeard 41 = .ok (.getfield 7, 3) := by decide +kernel
theorem dX10_addsBeard_44 : decode cX10_addsBeard 44 = .ok (.iload_n 2, 1) := by decide +kernel
theorem dX10_addsBeard_45 : decode cX10_addsBeard 45 = .ok (.iconst 2, 1) := by decide +kernel
theorem dX10_addsBeard_46 : decode cX10_addsBeard 46 = .ok (.invokestatic 46, 3) := by decide +kernel
theorem dX10_addsBeard_49 : decode cX10_addsBeard 49 = .ok (.iconst 0, 1) := by decide +kernel
theorem dX10_addsBeard_50 : decode cX10_addsBeard 50 = .ok (.iastore, 1) := by decide +kernel
theorem dX10_addsBeard_51 : decode cX10_addsBeard 51 = .ok (.aload_n 0, 1) := by decide +kernel
theorem dX10_addsBeard_52 : decode cX10_addsBeard 52 = .ok (.getfield 7, 3) := by decide +kernel
theorem dX10_addsBeard_55 : decode cX10_addsBeard 55 = .ok (.iload_n 2, 1) := by decide +kernel
theorem dX10_addsBeard_56 : decode cX10_addsBeard 56 = .ok (.iconst 3, 1) := by decide +kernel
theorem dX10_addsBeard_57 : decode cX10_addsBeard 57 = .ok (.invokestatic 46, 3) := by decide +kernel
theorem dX10_addsBeard_60 : decode cX10_addsBeard 60 = .ok (.iconst (-1), 1) := by decide +kernel
theorem dX10_addsBeard_61 : decode cX10_addsBeard 61 = .ok (.iastore, 1) := by decide +kernel
theorem dX10_addsBeard_62 : decode cX10_addsBeard 62 = .ok (.iload_n 2, 1) := by decide +kernel
theorem dX10_addsBeard_63 : decode cX10_addsBeard 63 = .ok (.ireturn, 1) := by decide +kernel
theorem dX10_beard_0 : decode cX10_beard 0 = .ok (.iload_n 1, 1) := by decide +kernel
theorem dX10_beard_1 : decode cX10_beard 1 = .ok (.invokestatic 107, 3) := by decide +kernel
theorem dX10_beard_4 : decode cX10_beard 4 = .ok (.ifCond .ne 10, 3) := by decide +kernel
theorem dX10_beard_7 : decode cX10_beard 7 = .ok (.aload_n 0, 1) := by decide +kernel
theorem dX10_beard_8 : decode cX10_beard 8 = .ok (.ldc 45, 2) := by decide +kernel
theorem dX10_beard_10 : decode cX10_beard 10 = .ok (.invokevirtual 75, 3) := by decide +kernel
theorem dX10_beard_13 : decode cX10_beard 13 = .ok (.ireturn, 1) := by decide +kernel
theorem dX10_beard_14 : decode cX10_beard 14 = .ok (.aload_n 0, 1) := by decide +kernel
theorem dX10_beard_15 : decode cX10_beard 15 = .ok (.getfield 7, 3) := by decide +kernel
theorem dX10_beard_18 : decode cX10_beard 18 = .ok (.iconst 1, 1) := by decide +kernel
theorem dX10_beard_19 : decode cX10_beard 19 = .ok (.iaload, 1) := by decide +kernel
theorem dX10_beard_20 : decode cX10_beard 20 = .ok (.bipush 8, 2) := by decide +kernel
theorem dX10_beard_22 : decode cX10_beard 22 = .ok (.if_icmp .ne 12, 3) := by decide +kernel
theorem dX10_beard_25 : decode cX10_beard 25 = .ok (.aload_n 0, 1) := by decide +kernel
theorem dX10_beard_26 : decode cX10_beard 26 = .ok (.ldc 110, 2) := by decide +kernel
theorem dX10_beard_28 : decode cX10_beard 28 = .ok (.invokevirtual 75, 3) := by decide +kernel
theorem dX10_beard_31 : decode cX10_beard 31 = .ok (.goto 8, 3) := by decide +kernel
theorem dX10_beard_34 : decode cX10_beard 34 = .ok (.aload_n 0, 1) := by decide +kernel
theorem dX10_beard_35 : decode cX10_beard 35 = .ok (.iload_n 1, 1) := by decide +kernel
theorem dX10_beard_36 : decode cX10_beard 36 = .ok (.invokevirtual 111, 3) := by decide +kernel
theorem dX10_beard_39 : decode cX10_beard 39 = .ok (.ireturn, 1) := by decide +kernel
theorem dX10_of_0 : decode cX10_of 0 = .ok (.aload_n 0, 1) := by decide +kernel
theorem dX10_of_1 : decode cX10_of 1 = .ok (.iload_n 1, 1) := by decide +kernel
theorem dX10_of_2 : decode cX10_of 2 = .ok (.invokevirtual 79, 3) := by decide +kernel
theorem dX10_of_5 : decode cX10_of 5 = .ok (.ifCond .eq 15, 3) := by decide +kernel
theorem dX10_of_8 : decode cX10_of 8 = .ok (.iload_n 2, 1) := by decide +kernel
theorem dX10_of_9 : decode cX10_of 9 = .ok (.i2l, 1) := by decide +kernel
theorem dX10_of_10 : decode cX10_of 10 = .ok (.lconst 0, 1) := by decide +kernel
theorem dX10_of_11 : decode cX10_of 11 = .ok (.ldc2_w 52, 3) := by decide +kernel
theorem dX10_of_14 : decode cX10_of 14 = .ok (.invokestatic 54, 3) := by decide +kernel
theorem dX10_of_17 : decode cX10_of 17 = .ok (.ifCond .ne 10, 3) := by decide +kernel
theorem dX10_of_20 : decode cX10_of 20 = .ok (.aload_n 0, 1) := by decide +kernel
theorem dX10_of_21 : decode cX10_of 21 = .ok (.ldc 45, 2) := by decide +kernel
theorem dX10_of_23 : decode cX10_of 23 = .ok (.invokevirtual 75, 3) := by decide +kernel
theorem dX10_of_26 : decode cX10_of 26 = .ok (.ireturn, 1) := by decide +kernel
theorem dX10_of_27 : decode cX10_of 27 = .ok (.iload_n 2, 1) := by decide +kernel
theorem dX10_of_28 : decode cX10_of 28 = .ok (.iconst 3, 1) := by decide +kernel
theorem dX10_of_29 : decode cX10_of 29 = .ok (.if_icmp .gt 12, 3) := by decide +kernel
theorem dX10_of_32 : decode cX10_of 32 = .ok (.aload_n 0, 1) := by decide +kernel
theorem dX10_of_33 : decode cX10_of 33 = .ok (.iload_n 1, 1) := by decide +kernel
theorem dX10_of_34 : decode cX10_of 34 = .ok (.iload_n 2, 1) := by decide +kernel
theorem dX10_of_35 : decode cX10_of 35 = .ok (.invokevirtual 61, 3) := by decide +kernel
theorem dX10_of_38 : decode cX10_of 38 = .ok (.goto 24, 3) := by decide +kernel
theorem dX10_of_41 : decode cX10_of 41 = .ok (.iload_n 2, 1) := by decide +kernel
theorem dX10_of_42 : decode cX10_of 42 = .ok (.iconst 4, 1) := by decide +kernel
theorem dX10_of_43 : decode cX10_of 43 = .ok (.if_icmp .ne 11, 3) := by decide +kernel
theorem dX10_of_46 : decode cX10_of 46 = .ok (.aload_n 0, 1) := by decide +kernel
theorem dX10_of_47 : decode cX10_of 47 = .ok (.iload_n 1, 1) := by decide +kernel
theorem dX10_of_48 : decode cX10_of 48 = .ok (.invokevirtual 114, 3) := by decide +kernel
theorem dX10_of_51 : decode cX10_of 51 = .ok (.goto 11, 3) := by decide +kernel
theorem dX10_of_54 : decode cX10_of 54 = .ok (.bipush 100, 2) := by decide +kernel
theorem dX10_of_56 : decode cX10_of 56 = .ok (.aload_n 0, 1) := by decide +kernel
theorem dX10_of_57 : decode cX10_of 57 = .ok (.iload_n 1, 1) := by decide +kernel
theorem dX10_of_58 : decode cX10_of 58 = .ok (.invokevirtual 117, 3) := by decide +kernel
theorem dX10_of_61 : decode cX10_of 61 = .ok (.iadd, 1) := by decide +kernel
theorem dX10_of_62 : decode cX10_of 62 = .ok (.ireturn, 1) := by decide +kernel
theorem dX10_can_0 : decode cX10_can 0 = .ok (.aload_n 0, 1) := by decide +kernel
theorem dX10_can_1 : decode cX10_can 1 = .ok (.iload_n 1, 1) := by decide +kernel
theorem dX10_can_2 : decode cX10_can 2 = .ok (.invokevirtual 79, 3) := by decide +kernel
theorem dX10_can_5 : decode cX10_can 5 = .ok (.ifCond .eq 20, 3) := by decide +kernel
theorem dX10_can_8 : decode cX10_can 8 = .ok (.iload_n 2, 1) := by decide +kernel
theorem dX10_can_9 : decode cX10_can 9 = .ok (.invokestatic 64, 3) := by decide +kernel
theorem dX10_can_12 : decode cX10_can 12 = .ok (.ifCond .eq 13, 3) := by decide +kernel
theorem dX10_can_15 : decode cX10_can 15 = .ok (.iload_n 3, 1) := by decide +kernel
theorem dX10_can_16 : decode cX10_can 16 = .ok (.i2l, 1) := by decide +kernel
theorem dX10_can_17 : decode cX10_can 17 = .ok (.lconst 0, 1) := by decide +kernel
theorem dX10_can_18 : decode cX10_can 18 = .ok (.lconst 1, 1) := by decide +kernel
theorem dX10_can_19 : decode cX10_can 19 = .ok (.invokestatic 54, 3) := by decide +kernel
theorem dX10_can_22 : decode cX10_can 22 = .ok (.ifCond .ne 10, 3) := by decide +kernel
theorem dX10_can_25 : decode cX10_can 25 = .ok (.aload_n 0, 1) := by decide +kernel
theorem dX10_can_26 : decode cX10_can 26 = .ok (.ldc 45, 2) := by decide +kernel
theorem dX10_can_28 : decode cX10_can 28 = .ok (.invokevirtual 75, 3) := by decide +kernel
theorem dX10_can_31 : decode cX10_can 31 = .ok (.ireturn, 1) := by decide +kernel
theorem dX10_can_32 : decode cX10_can 32 = .ok (.bipush 100, 2) := by decide +kernel
theorem dX10_can_34 : decode cX10_can 34 = .ok (.iload_n 3, 1) := by decide +kernel
theorem dX10_can_35 : decode cX10_can 35 = .ok (.ifCond .ne 12, 3) := by decide +kernel
theorem dX10_can_38 : decode cX10_can 38 = .ok (.aload_n 0, 1) := by decide +kernel
theorem dX10_can_39 : decode cX10_can 39 = .ok (.iload_n 1, 1) := by decide +kernel
theorem dX10_can_40 : decode cX10_can 40 = .ok (.iload_n 2, 1) := by decide +kernel
theorem dX10_can_41 : decode cX10_can 41 = .ok (.invokevirtual 120, 3) := by decide +kernel
theorem dX10_can_44 : decode cX10_can 44 = .ok (.goto 8, 3) := by decide +kernel
theorem dX10_can_47 : decode cX10_can 47 = .ok (.aload_n 0, 1) := by decide +kernel
theorem dX10_can_48 : decode cX10_can 48 = .ok (.iload_n 1, 1) := by decide +kernel
theorem dX10_can_49 : decode cX10_can 49 = .ok (.invokevirtual 123, 3) := by decide +kernel
theorem dX10_can_52 : decode cX10_can 52 = .ok (.iadd, 1) := by decide +kernel
theorem dX10_can_53 : decode cX10_can 53 = .ok (.ireturn, 1) := by decide +kernel
theorem dX10_set_0 : decode cX10_set 0 = .ok (.iload_n 2, 1) := by decide +kernel
theorem dX10_set_1 : decode cX10_set 1 = .ok (.i2l, 1) := by decide +kernel
theorem dX10_set_2 : decode cX10_set 2 = .ok (.lconst 1, 1) := by decide +kernel
theorem dX10_set_3 : decode cX10_set 3 = .ok (.ldc2_w 85, 3) := by decide +kernel
theorem dX10_set_6 : decode cX10_set 6 = .ok (.invokestatic 54, 3) := by decide +kernel
theorem dX10_set_9 : decode cX10_set 9 = .ok (.ifCond .eq 30, 3) := by decide +kernel
theorem dX10_set_12 : decode cX10_set 12 = .ok (.iload_n 3, 1) := by decide +kernel
theorem dX10_set_13 : decode cX10_set 13 = .ok (.i2l, 1) := by decide +kernel
theorem dX10_set_14 : decode cX10_set 14 = .ok (.lconst 0, 1) := by decide +kernel
theorem dX10_set_15 : decode cX10_set 15 = .ok (.iload_n 2, 1) := by decide +kernel
theorem dX10_set_16 : decode cX10_set 16 = .ok (.iconst 1, 1) := by decide +kernel
theorem dX10_set_17 : decode cX10_set 17 = .ok (.if_icmp .ne 9, 3) := by decide +kernel
theorem dX10_set_20 : decode cX10_set 20 = .ok (.ldc2_w 126, 3) := by decide +kernel
theorem dX10_set_23 : decode cX10_set 23 = .ok (.goto 6, 3) := by decide +kernel
theorem dX10_set_26 : decode cX10_set 26 = .ok (.ldc2_w 128, 3) := by decide +kernel
theorem dX10_set_29 : decode cX10_set 29 = .ok (.invokestatic 54, 3) := by decide +kernel
theorem dX10_set_32 : decode cX10_set 32 = .ok (.ifCond .eq 7, 3) := by decide +kernel
theorem dX10_set_35 : decode cX10_set 35 = .ok (.iconst 1, 1) := by decide +kernel
theorem dX10_set_36 : decode cX10_set 36 = .ok (.goto 4, 3) := by decide +kernel
theorem dX10_set_39 : decode cX10_set 39 = .ok (.iconst 0, 1) := by decide +kernel
theorem dX10_set_40 : decode cX10_set 40 = .ok (.istore 4, 2) := by decide +kernel
theorem dX10_set_42 : decode cX10_set 42 = .ok (.aload_n 0, 1) := by decide +kernel
theorem dX10_set_43 : decode cX10_set 43 = .ok (.iload_n 1, 1) := by decide +kernel
theorem dX10_set_44 : decode cX10_set 44 = .ok (.invokevirtual 79, 3) := by decide +kernel
theorem dX10_set_47 : decode cX10_set 47 = .ok (.ifCond .eq 21, 3) := by decide +kernel
theorem dX10_set_50 : decode cX10_set 50 = .ok (.iload 4, 2) := by decide +kernel
theorem dX10_set_52 : decode cX10_set 52 = .ok (.ifCond .eq 16, 3) := by decide +kernel
theorem dX10_set_55 : decode cX10_set 55 = .ok (.aload_n 0, 1) := by decide +kernel
theorem dX10_set_56 : decode cX10_set 56 = .ok (.iload_n 1, 1) := by decide +kernel
theorem dX10_set_57 : decode cX10_set 57 = .ok (.iload_n 2, 1) := by decide +kernel
theorem dX10_set_58 : decode cX10_set 58 = .ok (.invokestatic 46, 3) := by decide +kernel
theorem dX10_set_61 : decode cX10_set 61 = .ok (.iload_n 3, 1) := by decide +kernel
theorem dX10_set_62 : decode cX10_set 62 = .ok (.invokevirtual 72, 3) := by decide +kernel
theorem dX10_set_65 : decode cX10_set 65 = .ok (.goto 9, 3) := by decide +kernel
theorem dX10_set_68 : decode cX10_set 68 = .ok (.aload_n 0, 1) := by decide +kernel
theorem dX10_set_69 : decode cX10_set 69 = .ok (.ldc 45, 2) := by decide +kernel
theorem dX10_set_71 : decode cX10_set 71 = .ok (.invokevirtual 75, 3) := by decide +kernel
theorem dX10_set_74 : decode cX10_set 74 = .ok (.ireturn, 1) := by decide +kernel
theorem dX10_turn_0 : decode cX10_turn 0 = .ok (.aload_n 0, 1) := by decide +kernel
theorem dX10_turn_1 : decode cX10_turn 1 = .ok (.iload_n 1, 1) := by decide +kernel
theorem dX10_turn_2 : decode cX10_turn 2 = .ok (.invokevirtual 79, 3) := by decide +kernel
theorem dX10_turn_5 : decode cX10_turn 5 = .ok (.ifCond .eq 23, 3) := by decide +kernel
theorem dX10_turn_8 : decode cX10_turn 8 = .ok (.iload_n 2, 1) := by decide +kernel
theorem dX10_turn_9 : decode cX10_turn 9 = .ok (.invokestatic 107, 3) := by decide +kernel
theorem dX10_turn_12 : decode cX10_turn 12 = .ok (.ifCond .eq 16, 3) := by decide +kernel
theorem dX10_turn_15 : decode cX10_turn 15 = .ok (.aload_n 0, 1) := by decide +kernel
theorem dX10_turn_16 : decode cX10_turn 16 = .ok (.iload_n 1, 1) := by decide +kernel
theorem dX10_turn_17 : decode cX10_turn 17 = .ok (.iconst 0, 1) := by decide +kernel
theorem dX10_turn_18 : decode cX10_turn 18 = .ok (.invokestatic 46, 3) := by decide +kernel
theorem dX10_turn_21 : decode cX10_turn 21 = .ok (.iload_n 2, 1) := by decide +kernel
theorem dX10_turn_22 : decode cX10_turn 22 = .ok (.invokevirtual 72, 3) := by decide +kernel
theorem dX10_turn_25 : decode cX10_turn 25 = .ok (.goto 9, 3) := by decide +kernel
theorem dX10_turn_28 : decode cX10_turn 28 = .ok (.aload_n 0, 1) := by decide +kernel
theorem dX10_turn_29 : decode cX10_turn 29 = .ok (.ldc 45, 2) := by decide +kernel
theorem dX10_turn_31 : decode cX10_turn 31 = .ok (.invokevirtual 75, 3) := by decide +kernel
theorem dX10_turn_34 : decode cX10_turn 34 = .ok (.ireturn, 1) := by decide +kernel
theorem dX10_isUnder_0 : decode cX10_isUnder 0 = .ok (.iload_n 1, 1) := by decide +kernel
theorem dX10_isUnder_1 : decode cX10_isUnder 1 = .ok (.ifCond .eq 28, 3) := by decide +kernel
theorem dX10_isUnder_4 : decode cX10_isUnder 4 = .ok (.iload_n 0, 1) := by decide +kernel
theorem dX10_isUnder_5 : decode cX10_isUnder 5 = .ok (.iload_n 1, 1) := by decide +kernel
theorem dX10_isUnder_6 : decode cX10_isUnder 6 = .ok (.if_icmp .eq 23, 3) := by decide +kernel
theorem dX10_isUnder_9 : decode cX10_isUnder 9 = .ok (.iload_n 0, 1) := by decide +kernel
theorem dX10_isUnder_10 : decode cX10_isUnder 10 = .ok (.iconst 4, 1) := by decide +kernel
theorem dX10_isUnder_11 : decode cX10_isUnder 11 = .ok (.if_icmp .ne 8, 3) := by decide +kernel
theorem dX10_isUnder_14 : decode cX10_isUnder 14 = .ok (.iload_n 1, 1) := by decide +kernel
theorem dX10_isUnder_15 : decode cX10_isUnder 15 = .ok (.iconst 1, 1) := by decide +kernel
theorem dX10_isUnder_16 : decode cX10_isUnder 16 = .ok (.if_icmp .eq 13, 3) := by decide +kernel
theorem dX10_isUnder_19 : decode cX10_isUnder 19 = .ok (.iload_n 0, 1) := by decide +kernel
theorem dX10_isUnder_20 : decode cX10_isUnder 20 = .ok (.iconst 5, 1) := by decide +kernel
theorem dX10_isUnder_21 : decode cX10_isUnder 21 = .ok (.if_icmp .ne 12, 3) := by decide +kernel
theorem dX10_isUnder_24 : decode cX10_isUnder 24 = .ok (.iload_n 1, 1) := by decide +kernel
theorem dX10_isUnder_25 : decode cX10_isUnder 25 = .ok (.iconst 2, 1) := by decide +kernel
theorem dX10_isUnder_26 : decode cX10_isUnder 26 = .ok (.if_icmp .ne 7, 3) := by decide +kernel
theorem dX10_isUnder_29 : decode cX10_isUnder 29 = .ok (.iconst 1, 1) := by decide +kernel
theorem dX10_isUnder_30 : decode cX10_isUnder 30 = .ok (.goto 4, 3) := by decide +kernel
theorem dX10_isUnder_33 : decode cX10_isUnder 33 = .ok (.iconst 0, 1) := by decide +kernel
theorem dX10_isUnder_34 : decode cX10_isUnder 34 = .ok (.ireturn, 1) := by decide +kernel
theorem dX10_as_0 : decode cX10_as 0 = .ok (.aload_n 0, 1) := by decide +kernel
theorem dX10_as_1 : decode cX10_as 1 = .ok (.iload_n 1, 1) := by decide +kernel
theorem dX10_as_2 : decode cX10_as 2 = .ok (.invokevirtual 79, 3) := by decide +kernel
theorem dX10_as_5 : decode cX10_as 5 = .ok (.ifCond .eq 10, 3) := by decide +kernel
theorem dX10_as_8 : decode cX10_as 8 = .ok (.iload_n 2, 1) := by decide +kernel
theorem dX10_as_9 : decode cX10_as 9 = .ok (.invokestatic 107, 3) := by decide +kernel
theorem dX10_as_12 : decode cX10_as 12 = .ok (.ifCond .ne 10, 3) := by decide +kernel
theorem dX10_as_15 : decode cX10_as 15 = .ok (.aload_n 0, 1) := by decide +kernel
theorem dX10_as_16 : decode cX10_as 16 = .ok (.ldc 45, 2) := by decide +kernel
theorem dX10_as_18 : decode cX10_as 18 = .ok (.invokevirtual 75, 3) := by decide +kernel
theorem dX10_as_21 : decode cX10_as 21 = .ok (.ireturn, 1) := by decide +kernel
theorem dX10_as_22 : decode cX10_as 22 = .ok (.aload_n 0, 1) := by decide +kernel
theorem dX10_as_23 : decode cX10_as 23 = .ok (.iload_n 1, 1) := by decide +kernel
theorem dX10_as_24 : decode cX10_as 24 = .ok (.iconst 0, 1) := by decide +kernel
theorem dX10_as_25 : decode cX10_as 25 = .ok (.invokevirtual 61, 3) := by decide +kernel
theorem dX10_as_28 : decode cX10_as 28 = .ok (.iload_n 2, 1) := by decide +kernel
theorem dX10_as_29 : decode cX10_as 29 = .ok (.invokestatic 130, 3) := by decide +kernel
theorem dX10_as_32 : decode cX10_as 32 = .ok (.ifCond .eq 12, 3) := by decide +kernel
theorem dX10_as_35 : decode cX10_as 35 = .ok (.aload_n 0, 1) := by decide +kernel
theorem dX10_as_36 : decode cX10_as 36 = .ok (.iload_n 1, 1) := by decide +kernel
theorem dX10_as_37 : decode cX10_as 37 = .ok (.iconst 1, 1) := by decide +kernel
theorem dX10_as_38 : decode cX10_as 38 = .ok (.invokevirtual 61, 3) := by decide +kernel
theorem dX10_as_41 : decode cX10_as 41 = .ok (.goto 9, 3) := by decide +kernel
theorem dX10_as_44 : decode cX10_as 44 = .ok (.aload_n 0, 1) := by decide +kernel
theorem dX10_as_45 : decode cX10_as 45 = .ok (.ldc 134, 2) := by decide +kernel
theorem dX10_as_47 : decode cX10_as 47 = .ok (.invokevirtual 75, 3) := by decide +kernel
theorem dX10_as_50 : decode cX10_as 50 = .ok (.ireturn, 1) := by decide +kernel
theorem dX10_addsWearer_0 : decode cX10_addsWearer 0 = .ok (.aload_n 0, 1) := by decide +kernel
theorem dX10_addsWearer_1 : decode cX10_addsWearer 1 = .ok (.getfield 7, 3) := by decide +kernel
theorem dX10_addsWearer_4 : decode cX10_addsWearer 4 = .ok (.iconst 2, 1) := by decide +kernel
theorem dX10_addsWearer_5 : decode cX10_addsWearer 5 = .ok (.iaload, 1) := by decide +kernel
theorem dX10_addsWearer_6 : decode cX10_addsWearer 6 = .ok (.istore_n 2, 1) := by decide +kernel
theorem dX10_addsWearer_7 : decode cX10_addsWearer 7 = .ok (.aload_n 0, 1) := by decide +kernel
theorem dX10_addsWearer_8 : decode cX10_addsWearer 8 = .ok (.getfield 7, 3) := by decide +kernel
theorem dX10_addsWearer_11 : decode cX10_addsWearer 11 = .ok (.iconst 2, 1) := by decide +kernel
theorem dX10_addsWearer_12 : decode cX10_addsWearer 12 = .ok (.dup2, 1) := by decide +kernel
theorem dX10_addsWearer_13 : decode cX10_addsWearer 13 = .ok (.iaload, 1) := by decide +kernel
theorem dX10_addsWearer_14 : decode cX10_addsWearer 14 = .ok (.iconst 1, 1) := by decide +kernel
theorem dX10_addsWearer_15 : decode cX10_addsWearer 15 = .ok (.iadd, 1) := by decide +kernel
theorem dX10_addsWearer_16 : decode cX10_addsWearer 16 = .ok (.iastore, 1) := by decide +kernel
theorem dX10_addsWearer_17 : decode cX10_addsWearer 17 = .ok (.aload_n 0, 1) := by decide +kernel
theorem dX10_addsWearer_18 : decode cX10_addsWearer 18 = .ok (.getfield 7, 3) := by decide +kernel
theorem dX10_addsWearer_21 : decode cX10_addsWearer 21 = .ok (.iload_n 2, 1) := by decide +kernel
theorem dX10_addsWearer_22 : decode cX10_addsWearer 22 = .ok (.iconst 0, 1) := by decide +kernel
theorem dX10_addsWearer_23 : decode cX10_addsWearer 23 = .ok (.invokestatic 49, 3) := by decide +kernel
theorem dX10_addsWearer_26 : decode cX10_addsWearer 26 = .ok (.iload_n 1, 1) := by decide +kernel
theorem dX10_addsWearer_27 : decode cX10_addsWearer 27 = .ok (.iastore, 1) := by decide +kernel
theorem dX10_addsWearer_28 : decode cX10_addsWearer 28 = .ok (.aload_n 0, 1) := by decide +kernel
theorem dX10_addsWearer_29 : decode cX10_addsWearer 29 = .ok (.getfield 7, 3) := by decide +kernel
theorem dX10_addsWearer_32 : decode cX10_addsWearer 32 = .ok (.iload_n 2, 1) := by decide +kernel
theorem dX10_addsWearer_33 : decode cX10_addsWearer 33 = .ok (.iconst 1, 1) := by decide +kernel
theorem dX10_addsWearer_34 : decode cX10_addsWearer 34 = .ok (.invokestatic 49, 3) := by decide +kernel
theorem dX10_addsWearer_37 : decode cX10_addsWearer 37 = .ok (.iload_n 2, 1) := by decide +kernel
theorem dX10_addsWearer_38 : decode cX10_addsWearer 38 = .ok (.iastore, 1) := by decide +kernel
theorem dX10_addsWearer_39 : decode cX10_addsWearer 39 = .ok (.iload_n 2, 1) := by decide +kernel
theorem dX10_addsWearer_40 : decode cX10_addsWearer 40 = .ok (.ireturn, 1) := by decide +kernel
theorem dX10_wearer_0 : decode cX10_wearer 0 = .ok (.iload_n 1, 1) := by decide +kernel
theorem dX10_wearer_1 : decode cX10_wearer 1 = .ok (.i2l, 1) := by decide +kernel
theorem dX10_wearer_2 : decode cX10_wearer 2 = .ok (.lconst 0, 1) := by decide +kernel
theorem dX10_wearer_3 : decode cX10_wearer 3 = .ok (.ldc2_w 135, 3) := by decide +kernel
theorem dX10_wearer_6 : decode cX10_wearer 6 = .ok (.invokestatic 54, 3) := by decide +kernel
theorem dX10_wearer_9 : decode cX10_wearer 9 = .ok (.ifCond .ne 10, 3) := by decide +kernel
theorem dX10_wearer_12 : decode cX10_wearer 12 = .ok (.aload_n 0, 1) := by decide +kernel
theorem dX10_wearer_13 : decode cX10_wearer 13 = .ok (.ldc 45, 2) := by decide +kernel
theorem dX10_wearer_15 : decode cX10_wearer 15 = .ok (.invokevirtual 75, 3) := by decide +kernel
theorem dX10_wearer_18 : decode cX10_wearer 18 = .ok (.ireturn, 1) := by decide +kernel
theorem dX10_wearer_19 : decode cX10_wearer 19 = .ok (.aload_n 0, 1) := by decide +kernel
theorem dX10_wearer_20 : decode cX10_wearer 20 = .ok (.getfield 7, 3) := by decide +kernel
theorem dX10_wearer_23 : decode cX10_wearer 23 = .ok (.iconst 2, 1) := by decide +kernel
theorem dX10_wearer_24 : decode cX10_wearer 24 = .ok (.iaload, 1) := by decide +kernel
theorem dX10_wearer_25 : decode cX10_wearer 25 = .ok (.bipush 6, 2) := by decide +kernel
theorem dX10_wearer_27 : decode cX10_wearer 27 = .ok (.if_icmp .ne 12, 3) := by decide +kernel
theorem dX10_wearer_30 : decode cX10_wearer 30 = .ok (.aload_n 0, 1) := by decide +kernel
theorem dX10_wearer_31 : decode cX10_wearer 31 = .ok (.ldc 110, 2) := by decide +kernel
theorem dX10_wearer_33 : decode cX10_wearer 33 = .ok (.invokevirtual 75, 3) := by decide +kernel
theorem dX10_wearer_36 : decode cX10_wearer 36 = .ok (.goto 8, 3) := by decide +kernel
theorem dX10_wearer_39 : decode cX10_wearer 39 = .ok (.aload_n 0, 1) := by decide +kernel
theorem dX10_wearer_40 : decode cX10_wearer 40 = .ok (.iload_n 1, 1) := by decide +kernel
theorem dX10_wearer_41 : decode cX10_wearer 41 = .ok (.invokevirtual 137, 3) := by decide +kernel
theorem dX10_wearer_44 : decode cX10_wearer 44 = .ok (.ireturn, 1) := by decide +kernel
theorem dX10_wearerOf_0 : decode cX10_wearerOf 0 = .ok (.aload_n 0, 1) := by decide +kernel
theorem dX10_wearerOf_1 : decode cX10_wearerOf 1 = .ok (.iload_n 1, 1) := by decide +kernel
theorem dX10_wearerOf_2 : decode cX10_wearerOf 2 = .ok (.invokevirtual 140, 3) := by decide +kernel
theorem dX10_wearerOf_5 : decode cX10_wearerOf 5 = .ok (.ifCond .eq 15, 3) := by decide +kernel
theorem dX10_wearerOf_8 : decode cX10_wearerOf 8 = .ok (.iload_n 2, 1) := by decide +kernel
theorem dX10_wearerOf_9 : decode cX10_wearerOf 9 = .ok (.i2l, 1) := by decide +kernel
theorem dX10_wearerOf_10 : decode cX10_wearerOf 10 = .ok (.lconst 0, 1) := by decide +kernel
theorem dX10_wearerOf_11 : decode cX10_wearerOf 11 = .ok (.ldc2_w 143, 3) := by decide +kernel
theorem dX10_wearerOf_14 : decode cX10_wearerOf 14 = .ok (.invokestatic 54, 3) := by decide +kernel
theorem dX10_wearerOf_17 : decode cX10_wearerOf 17 = .ok (.ifCond .ne 10, 3) := by decide +kernel
theorem dX10_wearerOf_20 : decode cX10_wearerOf 20 = .ok (.aload_n 0, 1) := by decide +kernel
theorem dX10_wearerOf_21 : decode cX10_wearerOf 21 = .ok (.ldc 45, 2) := by decide +kernel
theorem dX10_wearerOf_23 : decode cX10_wearerOf 23 = .ok (.invokevirtual 75, 3) := by decide +kernel
theorem dX10_wearerOf_26 : decode cX10_wearerOf 26 = .ok (.ireturn, 1) := by decide +kernel
theorem dX10_wearerOf_27 : decode cX10_wearerOf 27 = .ok (.iload_n 2, 1) := by decide +kernel
theorem dX10_wearerOf_28 : decode cX10_wearerOf 28 = .ok (.iconst 1, 1) := by decide +kernel
theorem dX10_wearerOf_29 : decode cX10_wearerOf 29 = .ok (.if_icmp .gt 12, 3) := by decide +kernel
theorem dX10_wearerOf_32 : decode cX10_wearerOf 32 = .ok (.aload_n 0, 1) := by decide +kernel
theorem dX10_wearerOf_33 : decode cX10_wearerOf 33 = .ok (.iload_n 1, 1) := by decide +kernel
theorem dX10_wearerOf_34 : decode cX10_wearerOf 34 = .ok (.iload_n 2, 1) := by decide +kernel
theorem dX10_wearerOf_35 : decode cX10_wearerOf 35 = .ok (.invokevirtual 58, 3) := by decide +kernel
theorem dX10_wearerOf_38 : decode cX10_wearerOf 38 = .ok (.goto 21, 3) := by decide +kernel
theorem dX10_wearerOf_41 : decode cX10_wearerOf 41 = .ok (.iload_n 2, 1) := by decide +kernel
theorem dX10_wearerOf_42 : decode cX10_wearerOf 42 = .ok (.iconst 2, 1) := by decide +kernel
theorem dX10_wearerOf_43 : decode cX10_wearerOf 43 = .ok (.if_icmp .ne 11, 3) := by decide +kernel
theorem dX10_wearerOf_46 : decode cX10_wearerOf 46 = .ok (.aload_n 0, 1) := by decide +kernel
theorem dX10_wearerOf_47 : decode cX10_wearerOf 47 = .ok (.iload_n 1, 1) := by decide +kernel
theorem dX10_wearerOf_48 : decode cX10_wearerOf 48 = .ok (.invokevirtual 145, 3) := by decide +kernel
theorem dX10_wearerOf_51 : decode cX10_wearerOf 51 = .ok (.goto 8, 3) := by decide +kernel
theorem dX10_wearerOf_54 : decode cX10_wearerOf 54 = .ok (.aload_n 0, 1) := by decide +kernel
theorem dX10_wearerOf_55 : decode cX10_wearerOf 55 = .ok (.iload_n 1, 1) := by decide +kernel
theorem dX10_wearerOf_56 : decode cX10_wearerOf 56 = .ok (.invokevirtual 82, 3) := by decide +kernel
theorem dX10_wearerOf_59 : decode cX10_wearerOf 59 = .ok (.ireturn, 1) := by decide +kernel
theorem dX10_give_0 : decode cX10_give 0 = .ok (.iload_n 2, 1) := by decide +kernel
theorem dX10_give_1 : decode cX10_give 1 = .ok (.i2l, 1) := by decide +kernel
theorem dX10_give_2 : decode cX10_give 2 = .ok (.lconst 0, 1) := by decide +kernel
theorem dX10_give_3 : decode cX10_give 3 = .ok (.lconst 1, 1) := by decide +kernel
theorem dX10_give_4 : decode cX10_give 4 = .ok (.invokestatic 54, 3) := by decide +kernel
theorem dX10_give_7 : decode cX10_give 7 = .ok (.ifCond .eq 29, 3) := by decide +kernel
theorem dX10_give_10 : decode cX10_give 10 = .ok (.iload_n 3, 1) := by decide +kernel
theorem dX10_give_11 : decode cX10_give 11 = .ok (.i2l, 1) := by decide +kernel
theorem dX10_give_12 : decode cX10_give 12 = .ok (.lconst 0, 1) := by decide +kernel
theorem dX10_give_13 : decode cX10_give 13 = .ok (.iload_n 2, 1) := by decide +kernel
theorem dX10_give_14 : decode cX10_give 14 = .ok (.ifCond .ne 9, 3) := by decide +kernel
theorem dX10_give_17 : decode cX10_give 17 = .ok (.ldc2_w 135, 3) := by decide +kernel
theorem dX10_give_20 : decode cX10_give 20 = .ok (.goto 6, 3) := by decide +kernel
theorem dX10_give_23 : decode cX10_give 23 = .ok (.ldc2_w 52, 3) := by decide +kernel
theorem dX10_give_26 : decode cX10_give 26 = .ok (.invokestatic 54, 3) := by decide +kernel
theorem dX10_give_29 : decode cX10_give 29 = .ok (.ifCond .eq 7, 3) := by decide +kernel
theorem dX10_give_32 : decode cX10_give 32 = .ok (.iconst 1, 1) := by decide +kernel
theorem dX10_give_33 : decode cX10_give 33 = .ok (.goto 4, 3) := by decide +kernel
theorem dX10_give_36 : decode cX10_give 36 = .ok (.iconst 0, 1) := by decide +kernel
theorem dX10_give_37 : decode cX10_give 37 = .ok (.istore 4, 2) := by decide +kernel
theorem dX10_give_39 : decode cX10_give 39 = .ok (.aload_n 0, 1) := by decide +kernel
theorem dX10_give_40 : decode cX10_give 40 = .ok (.iload_n 1, 1) := by decide +kernel
theorem dX10_give_41 : decode cX10_give 41 = .ok (.invokevirtual 140, 3) := by decide +kernel
theorem dX10_give_44 : decode cX10_give 44 = .ok (.ifCond .eq 21, 3) := by decide +kernel
theorem dX10_give_47 : decode cX10_give 47 = .ok (.iload 4, 2) := by decide +kernel
theorem dX10_give_49 : decode cX10_give 49 = .ok (.ifCond .eq 16, 3) := by decide +kernel
theorem dX10_give_52 : decode cX10_give 52 = .ok (.aload_n 0, 1) := by decide +kernel
theorem dX10_give_53 : decode cX10_give 53 = .ok (.iload_n 1, 1) := by decide +kernel
theorem dX10_give_54 : decode cX10_give 54 = .ok (.iload_n 2, 1) := by decide +kernel
theorem dX10_give_55 : decode cX10_give 55 = .ok (.invokestatic 49, 3) := by decide +kernel
theorem dX10_give_58 : decode cX10_give 58 = .ok (.iload_n 3, 1) := by decide +kernel
theorem dX10_give_59 : decode cX10_give 59 = .ok (.invokevirtual 72, 3) := by decide +kernel
theorem dX10_give_62 : decode cX10_give 62 = .ok (.goto 9, 3) := by decide +kernel
theorem dX10_give_65 : decode cX10_give 65 = .ok (.aload_n 0, 1) := by decide +kernel
theorem dX10_give_66 : decode cX10_give 66 = .ok (.ldc 45, 2) := by decide +kernel
theorem dX10_give_68 : decode cX10_give 68 = .ok (.invokevirtual 75, 3) := by decide +kernel
theorem dX10_give_71 : decode cX10_give 71 = .ok (.ireturn, 1) := by decide +kernel
theorem dX10_hire_0 : decode cX10_hire 0 = .ok (.aload_n 0, 1) := by decide +kernel
theorem dX10_hire_1 : decode cX10_hire 1 = .ok (.iload_n 1, 1) := by decide +kernel
theorem dX10_hire_2 : decode cX10_hire 2 = .ok (.invokevirtual 140, 3) := by decide +kernel
theorem dX10_hire_5 : decode cX10_hire 5 = .ok (.ifCond .eq 11, 3) := by decide +kernel
theorem dX10_hire_8 : decode cX10_hire 8 = .ok (.aload_n 0, 1) := by decide +kernel
theorem dX10_hire_9 : decode cX10_hire 9 = .ok (.iload_n 2, 1) := by decide +kernel
theorem dX10_hire_10 : decode cX10_hire 10 = .ok (.invokevirtual 79, 3) := by decide +kernel
theorem dX10_hire_13 : decode cX10_hire 13 = .ok (.ifCond .ne 10, 3) := by decide +kernel
theorem dX10_hire_16 : decode cX10_hire 16 = .ok (.aload_n 0, 1) := by decide +kernel
theorem dX10_hire_17 : decode cX10_hire 17 = .ok (.ldc 45, 2) := by decide +kernel
theorem dX10_hire_19 : decode cX10_hire 19 = .ok (.invokevirtual 75, 3) := by decide +kernel
theorem dX10_hire_22 : decode cX10_hire 22 = .ok (.ireturn, 1) := by decide +kernel
theorem dX10_hire_23 : decode cX10_hire 23 = .ok (.aload_n 0, 1) := by decide +kernel
theorem dX10_hire_24 : decode cX10_hire 24 = .ok (.iload_n 1, 1) := by decide +kernel
theorem dX10_hire_25 : decode cX10_hire 25 = .ok (.invokevirtual 145, 3) := by decide +kernel
theorem dX10_hire_28 : decode cX10_hire 28 = .ok (.iconst (-1), 1) := by decide +kernel
theorem dX10_hire_29 : decode cX10_hire 29 = .ok (.if_icmp .ne 13, 3) := by decide +kernel
theorem dX10_hire_32 : decode cX10_hire 32 = .ok (.aload_n 0, 1) := by decide +kernel
theorem dX10_hire_33 : decode cX10_hire 33 = .ok (.iload_n 2, 1) := by decide +kernel
theorem dX10_hire_34 : decode cX10_hire 34 = .ok (.iconst 3, 1) := by decide +kernel
theorem dX10_hire_35 : decode cX10_hire 35 = .ok (.invokevirtual 61, 3) := by decide +kernel
theorem dX10_hire_38 : decode cX10_hire 38 = .ok (.iconst (-1), 1) := by decide +kernel
theorem dX10_hire_39 : decode cX10_hire 39 = .ok (.if_icmp .eq 10, 3) := by decide +kernel
theorem dX10_hire_42 : decode cX10_hire 42 = .ok (.aload_n 0, 1) := by decide +kernel
theorem dX10_hire_43 : decode cX10_hire 43 = .ok (.ldc 148, 2) := by decide +kernel
theorem dX10_hire_45 : decode cX10_hire 45 = .ok (.invokevirtual 75, 3) := by decide +kernel
theorem dX10_hire_48 : decode cX10_hire 48 = .ok (.ireturn, 1) := by decide +kernel
theorem dX10_hire_49 : decode cX10_hire 49 = .ok (.aload_n 0, 1) := by decide +kernel
theorem dX10_hire_50 : decode cX10_hire 50 = .ok (.getfield 7, 3) := by decide +kernel
theorem dX10_hire_53 : decode cX10_hire 53 = .ok (.iload_n 2, 1) := by decide +kernel
theorem dX10_hire_54 : decode cX10_hire 54 = .ok (.iconst 3, 1) := by decide +kernel
theorem dX10_hire_55 : decode cX10_hire 55 = .ok (.invokestatic 46, 3) := by decide +kernel
theorem dX10_hire_58 : decode cX10_hire 58 = .ok (.iload_n 1, 1) := by decide +kernel
theorem dX10_hire_59 : decode cX10_hire 59 = .ok (.iastore, 1) := by decide +kernel
theorem dX10_hire_60 : decode cX10_hire 60 = .ok (.aload_n 0, 1) := by decide +kernel
theorem dX10_hire_61 : decode cX10_hire 61 = .ok (.iload_n 2, 1) := by decide +kernel
theorem dX10_hire_62 : decode cX10_hire 62 = .ok (.invokevirtual 114, 3) := by decide +kernel
theorem dX10_hire_65 : decode cX10_hire 65 = .ok (.ireturn, 1) := by decide +kernel
theorem dX10_back_0 : decode cX10_back 0 = .ok (.aload_n 0, 1) := by decide +kernel
theorem dX10_back_1 : decode cX10_back 1 = .ok (.iload_n 1, 1) := by decide +kernel
theorem dX10_back_2 : decode cX10_back 2 = .ok (.invokevirtual 79, 3) := by decide +kernel
theorem dX10_back_5 : decode cX10_back 5 = .ok (.ifCond .ne 10, 3) := by decide +kernel
theorem dX10_back_8 : decode cX10_back 8 = .ok (.aload_n 0, 1) := by decide +kernel
theorem dX10_back_9 : decode cX10_back 9 = .ok (.ldc 45, 2) := by decide +kernel
theorem dX10_back_11 : decode cX10_back 11 = .ok (.invokevirtual 75, 3) := by decide +kernel
theorem dX10_back_14 : decode cX10_back 14 = .ok (.ireturn, 1) := by decide +kernel
theorem dX10_back_15 : decode cX10_back 15 = .ok (.aload_n 0, 1) := by decide +kernel
theorem dX10_back_16 : decode cX10_back 16 = .ok (.iload_n 1, 1) := by decide +kernel
theorem dX10_back_17 : decode cX10_back 17 = .ok (.iconst 3, 1) := by decide +kernel
theorem dX10_back_18 : decode cX10_back 18 = .ok (.invokevirtual 61, 3) := by decide +kernel
theorem dX10_back_21 : decode cX10_back 21 = .ok (.iconst (-1), 1) := by decide +kernel
theorem dX10_back_22 : decode cX10_back 22 = .ok (.if_icmp .ne 12, 3) := by decide +kernel
theorem dX10_back_25 : decode cX10_back 25 = .ok (.aload_n 0, 1) := by decide +kernel
theorem dX10_back_26 : decode cX10_back 26 = .ok (.ldc 148, 2) := by decide +kernel
theorem dX10_back_28 : decode cX10_back 28 = .ok (.invokevirtual 75, 3) := by decide +kernel
theorem dX10_back_31 : decode cX10_back 31 = .ok (.goto 13, 3) := by decide +kernel
theorem dX10_back_34 : decode cX10_back 34 = .ok (.aload_n 0, 1) := by decide +kernel
theorem dX10_back_35 : decode cX10_back 35 = .ok (.iload_n 1, 1) := by decide +kernel
theorem dX10_back_36 : decode cX10_back 36 = .ok (.iconst 3, 1) := by decide +kernel
theorem dX10_back_37 : decode cX10_back 37 = .ok (.invokestatic 46, 3) := by decide +kernel
theorem dX10_back_40 : decode cX10_back 40 = .ok (.iconst (-1), 1) := by decide +kernel
theorem dX10_back_41 : decode cX10_back 41 = .ok (.invokevirtual 72, 3) := by decide +kernel
theorem dX10_back_44 : decode cX10_back 44 = .ok (.ireturn, 1) := by decide +kernel
theorem dX10_goesOut_0 : decode cX10_goesOut 0 = .ok (.aload_n 0, 1) := by decide +kernel
theorem dX10_goesOut_1 : decode cX10_goesOut 1 = .ok (.iload_n 1, 1) := by decide +kernel
theorem dX10_goesOut_2 : decode cX10_goesOut 2 = .ok (.invokevirtual 82, 3) := by decide +kernel
theorem dX10_goesOut_5 : decode cX10_goesOut 5 = .ok (.istore_n 3, 1) := by decide +kernel
theorem dX10_goesOut_6 : decode cX10_goesOut 6 = .ok (.aload_n 0, 1) := by decide +kernel
theorem dX10_goesOut_7 : decode cX10_goesOut 7 = .ok (.iload_n 2, 1) := by decide +kernel
theorem dX10_goesOut_8 : decode cX10_goesOut 8 = .ok (.iload_n 3, 1) := by decide +kernel
theorem dX10_goesOut_9 : decode cX10_goesOut 9 = .ok (.invokevirtual 120, 3) := by decide +kernel
theorem dX10_goesOut_12 : decode cX10_goesOut 12 = .ok (.istore 4, 2) := by decide +kernel
theorem dX10_goesOut_14 : decode cX10_goesOut 14 = .ok (.aload_n 0, 1) := by decide +kernel
theorem dX10_goesOut_15 : decode cX10_goesOut 15 = .ok (.iload_n 2, 1) := by decide +kernel
theorem dX10_goesOut_16 : decode cX10_goesOut 16 = .ok (.invokevirtual 123, 3) := by decide +kernel
theorem dX10_goesOut_19 : decode cX10_goesOut 19 = .ok (.istore 5, 2) := by decide +kernel
theorem dX10_goesOut_21 : decode cX10_goesOut 21 = .ok (.aload_n 0, 1) := by decide +kernel
theorem dX10_goesOut_22 : decode cX10_goesOut 22 = .ok (.iload_n 2, 1) := by decide +kernel
theorem dX10_goesOut_23 : decode cX10_goesOut 23 = .ok (.invokevirtual 117, 3) := by decide +kernel
theorem dX10_goesOut_26 : decode cX10_goesOut 26 = .ok (.istore 6, 2) := by decide +kernel
theorem dX10_goesOut_28 : decode cX10_goesOut 28 = .ok (.aload_n 0, 1) := by decide +kernel
theorem dX10_goesOut_29 : decode cX10_goesOut 29 = .ok (.getfield 7, 3) := by decide +kernel
theorem dX10_goesOut_32 : decode cX10_goesOut 32 = .ok (.iload_n 1, 1) := by decide +kernel
theorem dX10_goesOut_33 : decode cX10_goesOut 33 = .ok (.iconst 0, 1) := by decide +kernel
theorem dX10_goesOut_34 : decode cX10_goesOut 34 = .ok (.invokestatic 49, 3) := by decide +kernel
theorem dX10_goesOut_37 : decode cX10_goesOut 37 = .ok (.aload_n 0, 1) := by decide +kernel
theorem dX10_goesOut_38 : decode cX10_goesOut 38 = .ok (.iload_n 1, 1) := by decide +kernel
theorem dX10_goesOut_39 : decode cX10_goesOut 39 = .ok (.iconst 0, 1) := by decide +kernel
theorem dX10_goesOut_40 : decode cX10_goesOut 40 = .ok (.invokevirtual 58, 3) := by decide +kernel
theorem dX10_goesOut_43 : decode cX10_goesOut 43 = .ok (.iload 4, 2) := by decide +kernel
theorem dX10_goesOut_45 : decode cX10_goesOut 45 = .ok (.iadd, 1) := by decide +kernel
theorem dX10_goesOut_46 : decode cX10_goesOut 46 = .ok (.iconst 0, 1) := by decide +kernel
theorem dX10_goesOut_47 : decode cX10_goesOut 47 = .ok (.sipush 9999, 3) := by decide +kernel
theorem dX10_goesOut_50 : decode cX10_goesOut 50 = .ok (.invokestatic 149, 3) := by decide +kernel
theorem dX10_goesOut_53 : decode cX10_goesOut 53 = .ok (.iastore, 1) := by decide +kernel
theorem dX10_goesOut_54 : decode cX10_goesOut 54 = .ok (.aload_n 0, 1) := by decide +kernel
theorem dX10_goesOut_55 : decode cX10_goesOut 55 = .ok (.getfield 7, 3) := by decide +kernel
theorem dX10_goesOut_58 : decode cX10_goesOut 58 = .ok (.iload_n 2, 1) := by decide +kernel
theorem dX10_goesOut_59 : decode cX10_goesOut 59 = .ok (.iconst 2, 1) := by decide +kernel
theorem dX10_goesOut_60 : decode cX10_goesOut 60 = .ok (.invokestatic 46, 3) := by decide +kernel
theorem dX10_goesOut_63 : decode cX10_goesOut 63 = .ok (.aload_n 0, 1) := by decide +kernel
theorem dX10_goesOut_64 : decode cX10_goesOut 64 = .ok (.iload_n 2, 1) := by decide +kernel
theorem dX10_goesOut_65 : decode cX10_goesOut 65 = .ok (.iconst 2, 1) := by decide +kernel
theorem dX10_goesOut_66 : decode cX10_goesOut 66 = .ok (.invokevirtual 61, 3) := by decide +kernel
theorem dX10_goesOut_69 : decode cX10_goesOut 69 = .ok (.iload 4, 2) := by decide +kernel
theorem dX10_goesOut_71 : decode cX10_goesOut 71 = .ok (.ifCond .le 7, 3) := by decide +kernel
theorem dX10_goesOut_74 : decode cX10_goesOut 74 = .ok (.iconst 3, 1) := by decide +kernel
theorem dX10_goesOut_75 : decode cX10_goesOut 75 = .ok (.goto 4, 3) := by decide +kernel
theorem dX10_goesOut_78 : decode cX10_goesOut 78 = .ok (.iconst 1, 1) := by decide +kernel
theorem dX10_goesOut_79 : decode cX10_goesOut 79 = .ok (.iadd, 1) := by decide +kernel
theorem dX10_goesOut_80 : decode cX10_goesOut 80 = .ok (.iconst 0, 1) := by decide +kernel
theorem dX10_goesOut_81 : decode cX10_goesOut 81 = .ok (.sipush 999, 3) := by decide +kernel
theorem dX10_goesOut_84 : decode cX10_goesOut 84 = .ok (.invokestatic 149, 3) := by decide +kernel
theorem dX10_goesOut_87 : decode cX10_goesOut 87 = .ok (.iastore, 1) := by decide +kernel
theorem dX10_goesOut_88 : decode cX10_goesOut 88 = .ok (.aload_n 0, 1) := by decide +kernel
theorem dX10_goesOut_89 : decode cX10_goesOut 89 = .ok (.getfield 7, 3) := by decide +kernel
theorem dX10_goesOut_92 : decode cX10_goesOut 92 = .ok (.iload_n 3, 1) := by decide +kernel
theorem dX10_goesOut_93 : decode cX10_goesOut 93 = .ok (.iconst 1, 1) := by decide +kernel
theorem dX10_goesOut_94 : decode cX10_goesOut 94 = .ok (.invokestatic 41, 3) := by decide +kernel
theorem dX10_goesOut_97 : decode cX10_goesOut 97 = .ok (.aload_n 0, 1) := by decide +kernel
theorem dX10_goesOut_98 : decode cX10_goesOut 98 = .ok (.iload_n 3, 1) := by decide +kernel
theorem dX10_goesOut_99 : decode cX10_goesOut 99 = .ok (.iconst 1, 1) := by decide +kernel
theorem dX10_goesOut_100 : decode cX10_goesOut 100 = .ok (.invokevirtual 87, 3) := by decide +kernel
theorem dX10_goesOut_103 : decode cX10_goesOut 103 = .ok (.iload 5, 2) := by decide +kernel
theorem dX10_goesOut_105 : decode cX10_goesOut 105 = .ok (.iadd, 1) := by decide +kernel
theorem dX10_goesOut_106 : decode cX10_goesOut 106 = .ok (.bipush (-50), 2) := by decide +kernel
theorem dX10_goesOut_108 : decode cX10_goesOut 108 = .ok (.bipush 50, 2) := by decide +kernel
theorem dX10_goesOut_110 : decode cX10_goesOut 110 = .ok (.invokestatic 149, 3) := by decide +kernel
theorem dX10_goesOut_113 : decode cX10_goesOut 113 = .ok (.iastore, 1) := by decide +kernel
theorem dX10_goesOut_114 : decode cX10_goesOut 114 = .ok (.aload_n 0, 1) := by decide +kernel
theorem dX10_goesOut_115 : decode cX10_goesOut 115 = .ok (.getfield 7, 3) := by decide +kernel
theorem dX10_goesOut_118 : decode cX10_goesOut 118 = .ok (.iload_n 3, 1) := by decide +kernel
theorem dX10_goesOut_119 : decode cX10_goesOut 119 = .ok (.iconst 0, 1) := by decide +kernel
theorem dX10_goesOut_120 : decode cX10_goesOut 120 = .ok (.invokestatic 41, 3) := by decide +kernel
theorem dX10_goesOut_123 : decode cX10_goesOut 123 = .ok (.iload_n 2, 1) := by decide +kernel
theorem dX10_goesOut_124 : decode cX10_goesOut 124 = .ok (.iastore, 1) := by decide +kernel
theorem dX10_goesOut_125 : decode cX10_goesOut 125 = .ok (.aload_n 0, 1) := by decide +kernel
theorem dX10_goesOut_126 : decode cX10_goesOut 126 = .ok (.getfield 7, 3) := by decide +kernel
theorem dX10_goesOut_129 : decode cX10_goesOut 129 = .ok (.iload_n 2, 1) := by decide +kernel
theorem dX10_goesOut_130 : decode cX10_goesOut 130 = .ok (.iconst 1, 1) := by decide +kernel
theorem dX10_goesOut_131 : decode cX10_goesOut 131 = .ok (.invokestatic 46, 3) := by decide +kernel
theorem dX10_goesOut_134 : decode cX10_goesOut 134 = .ok (.aload_n 0, 1) := by decide +kernel
theorem dX10_goesOut_135 : decode cX10_goesOut 135 = .ok (.iload_n 2, 1) := by decide +kernel
theorem dX10_goesOut_136 : decode cX10_goesOut 136 = .ok (.iconst 1, 1) := by decide +kernel
theorem dX10_goesOut_137 : decode cX10_goesOut 137 = .ok (.invokevirtual 61, 3) := by decide +kernel
theorem dX10_goesOut_140 : decode cX10_goesOut 140 = .ok (.iload 6, 2) := by decide +kernel
theorem dX10_goesOut_142 : decode cX10_goesOut 142 = .ok (.iadd, 1) := by decide +kernel
theorem dX10_goesOut_143 : decode cX10_goesOut 143 = .ok (.iconst 0, 1) := by decide +kernel
theorem dX10_goesOut_144 : decode cX10_goesOut 144 = .ok (.bipush 99, 2) := by decide +kernel
theorem dX10_goesOut_146 : decode cX10_goesOut 146 = .ok (.invokestatic 149, 3) := by decide +kernel
theorem dX10_goesOut_149 : decode cX10_goesOut 149 = .ok (.iastore, 1) := by decide +kernel
theorem dX10_goesOut_150 : decode cX10_goesOut 150 = .ok (.return_, 1) := by decide +kernel
theorem dX10_wears_0 : decode cX10_wears 0 = .ok (.aload_n 0, 1) := by decide +kernel
theorem dX10_wears_1 : decode cX10_wears 1 = .ok (.iload_n 2, 1) := by decide +kernel
theorem dX10_wears_2 : decode cX10_wears 2 = .ok (.invokevirtual 114, 3) := by decide +kernel
theorem dX10_wears_5 : decode cX10_wears 5 = .ok (.istore_n 3, 1) := by decide +kernel
theorem dX10_wears_6 : decode cX10_wears 6 = .ok (.aload_n 0, 1) := by decide +kernel
theorem dX10_wears_7 : decode cX10_wears 7 = .ok (.iload_n 1, 1) := by decide +kernel
theorem dX10_wears_8 : decode cX10_wears 8 = .ok (.iconst 0, 1) := by decide +kernel
theorem dX10_wears_9 : decode cX10_wears 9 = .ok (.invokevirtual 58, 3) := by decide +kernel
theorem dX10_wears_12 : decode cX10_wears 12 = .ok (.iload_n 3, 1) := by decide +kernel
theorem dX10_wears_13 : decode cX10_wears 13 = .ok (.if_icmp .ge 15, 3) := by decide +kernel
theorem dX10_wears_16 : decode cX10_wears 16 = .ok (.aload_n 0, 1) := by decide +kernel
theorem dX10_wears_17 : decode cX10_wears 17 = .ok (.getfield 7, 3) := by decide +kernel
theorem dX10_wears_20 : decode cX10_wears 20 = .ok (.iload_n 2, 1) := by decide +kernel
theorem dX10_wears_21 : decode cX10_wears 21 = .ok (.iconst 3, 1) := by decide +kernel
theorem dX10_wears_22 : decode cX10_wears 22 = .ok (.invokestatic 46, 3) := by decide +kernel
theorem dX10_wears_25 : decode cX10_wears 25 = .ok (.iconst (-1), 1) := by decide +kernel
theorem dX10_wears_26 : decode cX10_wears 26 = .ok (.iastore, 1) := by decide +kernel
theorem dX10_wears_27 : decode cX10_wears 27 = .ok (.return_, 1) := by decide +kernel
theorem dX10_wears_28 : decode cX10_wears 28 = .ok (.aload_n 0, 1) := by decide +kernel
theorem dX10_wears_29 : decode cX10_wears 29 = .ok (.getfield 7, 3) := by decide +kernel
theorem dX10_wears_32 : decode cX10_wears 32 = .ok (.iload_n 1, 1) := by decide +kernel
theorem dX10_wears_33 : decode cX10_wears 33 = .ok (.iconst 0, 1) := by decide +kernel
theorem dX10_wears_34 : decode cX10_wears 34 = .ok (.invokestatic 49, 3) := by decide +kernel
theorem dX10_wears_37 : decode cX10_wears 37 = .ok (.dup2, 1) := by decide +kernel
theorem dX10_wears_38 : decode cX10_wears 38 = .ok (.iaload, 1) := by decide +kernel
theorem dX10_wears_39 : decode cX10_wears 39 = .ok (.iload_n 3, 1) := by decide +kernel
theorem dX10_wears_40 : decode cX10_wears 40 = .ok (.isub, 1) := by decide +kernel
theorem dX10_wears_41 : decode cX10_wears 41 = .ok (.iastore, 1) := by decide +kernel
theorem dX10_wears_42 : decode cX10_wears 42 = .ok (.aload_n 0, 1) := by decide +kernel
theorem dX10_wears_43 : decode cX10_wears 43 = .ok (.iload_n 1, 1) := by decide +kernel
theorem dX10_wears_44 : decode cX10_wears 44 = .ok (.iload_n 2, 1) := by decide +kernel
theorem dX10_wears_45 : decode cX10_wears 45 = .ok (.invokevirtual 153, 3) := by decide +kernel
theorem dX10_wears_48 : decode cX10_wears 48 = .ok (.return_, 1) := by decide +kernel
theorem dX10_night_0 : decode cX10_night 0 = .ok (.iconst 0, 1) := by decide +kernel
theorem dX10_night_1 : decode cX10_night 1 = .ok (.istore_n 1, 1) := by decide +kernel
theorem dX10_night_2 : decode cX10_night 2 = .ok (.iload_n 1, 1) := by decide +kernel
theorem dX10_night_3 : decode cX10_night 3 = .ok (.aload_n 0, 1) := by decide +kernel
theorem dX10_night_4 : decode cX10_night 4 = .ok (.getfield 7, 3) := by decide +kernel
theorem dX10_night_7 : decode cX10_night 7 = .ok (.iconst 2, 1) := by decide +kernel
theorem dX10_night_8 : decode cX10_night 8 = .ok (.iaload, 1) := by decide +kernel
theorem dX10_night_9 : decode cX10_night 9 = .ok (.if_icmp .ge 26, 3) := by decide +kernel
theorem dX10_night_12 : decode cX10_night 12 = .ok (.aload_n 0, 1) := by decide +kernel
theorem dX10_night_13 : decode cX10_night 13 = .ok (.iload_n 1, 1) := by decide +kernel
theorem dX10_night_14 : decode cX10_night 14 = .ok (.invokevirtual 145, 3) := by decide +kernel
theorem dX10_night_17 : decode cX10_night 17 = .ok (.istore_n 2, 1) := by decide +kernel
theorem dX10_night_18 : decode cX10_night 18 = .ok (.iload_n 2, 1) := by decide +kernel
theorem dX10_night_19 : decode cX10_night 19 = .ok (.iconst (-1), 1) := by decide +kernel
theorem dX10_night_20 : decode cX10_night 20 = .ok (.if_icmp .eq 9, 3) := by decide +kernel
theorem dX10_night_23 : decode cX10_night 23 = .ok (.aload_n 0, 1) := by decide +kernel
theorem dX10_night_24 : decode cX10_night 24 = .ok (.iload_n 1, 1) := by decide +kernel
theorem dX10_night_25 : decode cX10_night 25 = .ok (.iload_n 2, 1) := by decide +kernel
theorem dX10_night_26 : decode cX10_night 26 = .ok (.invokevirtual 157, 3) := by decide +kernel
theorem dX10_night_29 : decode cX10_night 29 = .ok (.iinc 1 1, 3) := by decide +kernel
theorem dX10_night_32 : decode cX10_night 32 = .ok (.goto (-30), 3) := by decide +kernel
theorem dX10_night_35 : decode cX10_night 35 = .ok (.iconst 0, 1) := by decide +kernel
theorem dX10_night_36 : decode cX10_night 36 = .ok (.istore_n 1, 1) := by decide +kernel
theorem dX10_night_37 : decode cX10_night 37 = .ok (.iload_n 1, 1) := by decide +kernel
theorem dX10_night_38 : decode cX10_night 38 = .ok (.aload_n 0, 1) := by decide +kernel
theorem dX10_night_39 : decode cX10_night 39 = .ok (.getfield 7, 3) := by decide +kernel
theorem dX10_night_42 : decode cX10_night 42 = .ok (.iconst 1, 1) := by decide +kernel
theorem dX10_night_43 : decode cX10_night 43 = .ok (.iaload, 1) := by decide +kernel
theorem dX10_night_44 : decode cX10_night 44 = .ok (.if_icmp .ge 46, 3) := by decide +kernel
theorem dX10_night_47 : decode cX10_night 47 = .ok (.aload_n 0, 1) := by decide +kernel
theorem dX10_night_48 : decode cX10_night 48 = .ok (.invokevirtual 93, 3) := by decide +kernel
theorem dX10_night_51 : decode cX10_night 51 = .ok (.ifCond .eq 39, 3) := by decide +kernel
theorem dX10_night_54 : decode cX10_night 54 = .ok (.aload_n 0, 1) := by decide +kernel
theorem dX10_night_55 : decode cX10_night 55 = .ok (.getfield 7, 3) := by decide +kernel
theorem dX10_night_58 : decode cX10_night 58 = .ok (.iload_n 1, 1) := by decide +kernel
theorem dX10_night_59 : decode cX10_night 59 = .ok (.iconst 2, 1) := by decide +kernel
theorem dX10_night_60 : decode cX10_night 60 = .ok (.invokestatic 46, 3) := by decide +kernel
theorem dX10_night_63 : decode cX10_night 63 = .ok (.aload_n 0, 1) := by decide +kernel
theorem dX10_night_64 : decode cX10_night 64 = .ok (.iload_n 1, 1) := by decide +kernel
theorem dX10_night_65 : decode cX10_night 65 = .ok (.iconst 3, 1) := by decide +kernel
theorem dX10_night_66 : decode cX10_night 66 = .ok (.invokevirtual 61, 3) := by decide +kernel
theorem dX10_night_69 : decode cX10_night 69 = .ok (.iconst (-1), 1) := by decide +kernel
theorem dX10_night_70 : decode cX10_night 70 = .ok (.if_icmp .ne 7, 3) := by decide +kernel
theorem dX10_night_73 : decode cX10_night 73 = .ok (.iconst 0, 1) := by decide +kernel
theorem dX10_night_74 : decode cX10_night 74 = .ok (.goto 9, 3) := by decide +kernel
theorem dX10_night_77 : decode cX10_night 77 = .ok (.aload_n 0, 1) := by decide +kernel
theorem dX10_night_78 : decode cX10_night 78 = .ok (.iload_n 1, 1) := by decide +kernel
theorem dX10_night_79 : decode cX10_night 79 = .ok (.iconst 2, 1) := by decide +kernel
theorem dX10_night_80 : decode cX10_night 80 = .ok (.invokevirtual 61, 3) := by decide +kernel
theorem dX10_night_83 : decode cX10_night 83 = .ok (.iastore, 1) := by decide +kernel
theorem dX10_night_84 : decode cX10_night 84 = .ok (.iinc 1 1, 3) := by decide +kernel
theorem dX10_night_87 : decode cX10_night 87 = .ok (.goto (-50), 3) := by decide +kernel
theorem dX10_night_90 : decode cX10_night 90 = .ok (.aload_n 0, 1) := by decide +kernel
theorem dX10_night_91 : decode cX10_night 91 = .ok (.getfield 7, 3) := by decide +kernel
theorem dX10_night_94 : decode cX10_night 94 = .ok (.iconst 0, 1) := by decide +kernel
theorem dX10_night_95 : decode cX10_night 95 = .ok (.dup2, 1) := by decide +kernel
theorem dX10_night_96 : decode cX10_night 96 = .ok (.iaload, 1) := by decide +kernel
theorem dX10_night_97 : decode cX10_night 97 = .ok (.iconst 1, 1) := by decide +kernel
theorem dX10_night_98 : decode cX10_night 98 = .ok (.iadd, 1) := by decide +kernel
theorem dX10_night_99 : decode cX10_night 99 = .ok (.iastore, 1) := by decide +kernel
theorem dX10_night_100 : decode cX10_night 100 = .ok (.return_, 1) := by decide +kernel
theorem dX10_nightsGo_0 : decode cX10_nightsGo 0 = .ok (.iconst 0, 1) := by decide +kernel
theorem dX10_nightsGo_1 : decode cX10_nightsGo 1 = .ok (.istore_n 2, 1) := by decide +kernel
theorem dX10_nightsGo_2 : decode cX10_nightsGo 2 = .ok (.iload_n 2, 1) := by decide +kernel
theorem dX10_nightsGo_3 : decode cX10_nightsGo 3 = .ok (.iload_n 1, 1) := by decide +kernel
theorem dX10_nightsGo_4 : decode cX10_nightsGo 4 = .ok (.if_icmp .ge 13, 3) := by decide +kernel
theorem dX10_nightsGo_7 : decode cX10_nightsGo 7 = .ok (.aload_n 0, 1) := by decide +kernel
theorem dX10_nightsGo_8 : decode cX10_nightsGo 8 = .ok (.invokevirtual 160, 3) := by decide +kernel
theorem dX10_nightsGo_11 : decode cX10_nightsGo 11 = .ok (.iinc 2 1, 3) := by decide +kernel
theorem dX10_nightsGo_14 : decode cX10_nightsGo 14 = .ok (.goto (-12), 3) := by decide +kernel
theorem dX10_nightsGo_17 : decode cX10_nightsGo 17 = .ok (.return_, 1) := by decide +kernel
theorem dX10_nights_0 : decode cX10_nights 0 = .ok (.iload_n 1, 1) := by decide +kernel
theorem dX10_nights_1 : decode cX10_nights 1 = .ok (.i2l, 1) := by decide +kernel
theorem dX10_nights_2 : decode cX10_nights 2 = .ok (.lconst 1, 1) := by decide +kernel
theorem dX10_nights_3 : decode cX10_nights 3 = .ok (.ldc2_w 163, 3) := by decide +kernel
theorem dX10_nights_6 : decode cX10_nights 6 = .ok (.invokestatic 54, 3) := by decide +kernel
theorem dX10_nights_9 : decode cX10_nights 9 = .ok (.ifCond .ne 10, 3) := by decide +kernel
theorem dX10_nights_12 : decode cX10_nights 12 = .ok (.aload_n 0, 1) := by decide +kernel
theorem dX10_nights_13 : decode cX10_nights 13 = .ok (.ldc 45, 2) := by decide +kernel
theorem dX10_nights_15 : decode cX10_nights 15 = .ok (.invokevirtual 75, 3) := by decide +kernel
theorem dX10_nights_18 : decode cX10_nights 18 = .ok (.ireturn, 1) := by decide +kernel
theorem dX10_nights_19 : decode cX10_nights 19 = .ok (.aload_n 0, 1) := by decide +kernel
theorem dX10_nights_20 : decode cX10_nights 20 = .ok (.getfield 7, 3) := by decide +kernel
theorem dX10_nights_23 : decode cX10_nights 23 = .ok (.iconst 0, 1) := by decide +kernel
theorem dX10_nights_24 : decode cX10_nights 24 = .ok (.iaload, 1) := by decide +kernel
theorem dX10_nights_25 : decode cX10_nights 25 = .ok (.iload_n 1, 1) := by decide +kernel
theorem dX10_nights_26 : decode cX10_nights 26 = .ok (.iadd, 1) := by decide +kernel
theorem dX10_nights_27 : decode cX10_nights 27 = .ok (.ldc 165, 2) := by decide +kernel
theorem dX10_nights_29 : decode cX10_nights 29 = .ok (.if_icmp .le 10, 3) := by decide +kernel
theorem dX10_nights_32 : decode cX10_nights 32 = .ok (.aload_n 0, 1) := by decide +kernel
theorem dX10_nights_33 : decode cX10_nights 33 = .ok (.ldc 148, 2) := by decide +kernel
theorem dX10_nights_35 : decode cX10_nights 35 = .ok (.invokevirtual 75, 3) := by decide +kernel
theorem dX10_nights_38 : decode cX10_nights 38 = .ok (.ireturn, 1) := by decide +kernel
theorem dX10_nights_39 : decode cX10_nights 39 = .ok (.aload_n 0, 1) := by decide +kernel
theorem dX10_nights_40 : decode cX10_nights 40 = .ok (.iload_n 1, 1) := by decide +kernel
theorem dX10_nights_41 : decode cX10_nights 41 = .ok (.invokevirtual 166, 3) := by decide +kernel
theorem dX10_nights_44 : decode cX10_nights 44 = .ok (.aload_n 0, 1) := by decide +kernel
theorem dX10_nights_45 : decode cX10_nights 45 = .ok (.invokevirtual 104, 3) := by decide +kernel
theorem dX10_nights_48 : decode cX10_nights 48 = .ok (.ireturn, 1) := by decide +kernel
theorem dX10_isAhead_0 : decode cX10_isAhead 0 = .ok (.iload_n 0, 1) := by decide +kernel
theorem dX10_isAhead_1 : decode cX10_isAhead 1 = .ok (.i2l, 1) := by decide +kernel
theorem dX10_isAhead_2 : decode cX10_isAhead 2 = .ok (.lconst 0, 1) := by decide +kernel
theorem dX10_isAhead_3 : decode cX10_isAhead 3 = .ok (.ldc2_w 170, 3) := by decide +kernel
theorem dX10_isAhead_6 : decode cX10_isAhead 6 = .ok (.invokestatic 54, 3) := by decide +kernel
theorem dX10_isAhead_9 : decode cX10_isAhead 9 = .ok (.ireturn, 1) := by decide +kernel
theorem dX10_behind_0 : decode cX10_behind 0 = .ok (.aload_n 0, 1) := by decide +kernel
theorem dX10_behind_1 : decode cX10_behind 1 = .ok (.invokevirtual 172, 3) := by decide +kernel
theorem dX10_behind_4 : decode cX10_behind 4 = .ok (.aload_n 0, 1) := by decide +kernel
theorem dX10_behind_5 : decode cX10_behind 5 = .ok (.iload_n 2, 1) := by decide +kernel
theorem dX10_behind_6 : decode cX10_behind 6 = .ok (.invokevirtual 166, 3) := by decide +kernel
theorem dX10_behind_9 : decode cX10_behind 9 = .ok (.aload_n 0, 1) := by decide +kernel
theorem dX10_behind_10 : decode cX10_behind 10 = .ok (.aload_n 0, 1) := by decide +kernel
theorem dX10_behind_11 : decode cX10_behind 11 = .ok (.getfield 7, 3) := by decide +kernel
theorem dX10_behind_14 : decode cX10_behind 14 = .ok (.iload_n 1, 1) := by decide +kernel
theorem dX10_behind_15 : decode cX10_behind 15 = .ok (.iaload, 1) := by decide +kernel
theorem dX10_behind_16 : decode cX10_behind 16 = .ok (.invokevirtual 175, 3) := by decide +kernel
theorem dX10_behind_19 : decode cX10_behind 19 = .ok (.ireturn, 1) := by decide +kernel
theorem dX10_wornBehind_0 : decode cX10_wornBehind 0 = .ok (.aload_n 0, 1) := by decide +kernel
theorem dX10_wornBehind_1 : decode cX10_wornBehind 1 = .ok (.invokevirtual 172, 3) := by decide +kernel
theorem dX10_wornBehind_4 : decode cX10_wornBehind 4 = .ok (.aload_n 0, 1) := by decide +kernel
theorem dX10_wornBehind_5 : decode cX10_wornBehind 5 = .ok (.iload_n 2, 1) := by decide +kernel
theorem dX10_wornBehind_6 : decode cX10_wornBehind 6 = .ok (.invokevirtual 166, 3) := by decide +kernel
theorem dX10_wornBehind_9 : decode cX10_wornBehind 9 = .ok (.aload_n 0, 1) := by decide +kernel
theorem dX10_wornBehind_10 : decode cX10_wornBehind 10 = .ok (.aload_n 0, 1) := by decide +kernel
theorem dX10_wornBehind_11 : decode cX10_wornBehind 11 = .ok (.iload_n 1, 1) := by decide +kernel
theorem dX10_wornBehind_12 : decode cX10_wornBehind 12 = .ok (.invokevirtual 145, 3) := by decide +kernel
theorem dX10_wornBehind_15 : decode cX10_wornBehind 15 = .ok (.invokevirtual 175, 3) := by decide +kernel
theorem dX10_wornBehind_18 : decode cX10_wornBehind 18 = .ok (.ireturn, 1) := by decide +kernel
theorem dX10_pursesBehind_0 : decode cX10_pursesBehind 0 = .ok (.aload_n 0, 1) := by decide +kernel
theorem dX10_pursesBehind_1 : decode cX10_pursesBehind 1 = .ok (.invokevirtual 172, 3) := by decide +kernel
theorem dX10_pursesBehind_4 : decode cX10_pursesBehind 4 = .ok (.aload_n 0, 1) := by decide +kernel
theorem dX10_pursesBehind_5 : decode cX10_pursesBehind 5 = .ok (.iload_n 1, 1) := by decide +kernel
theorem dX10_pursesBehind_6 : decode cX10_pursesBehind 6 = .ok (.invokevirtual 166, 3) := by decide +kernel
theorem dX10_pursesBehind_9 : decode cX10_pursesBehind 9 = .ok (.aload_n 0, 1) := by decide +kernel
theorem dX10_pursesBehind_10 : decode cX10_pursesBehind 10 = .ok (.aload_n 0, 1) := by decide +kernel
theorem dX10_pursesBehind_11 : decode cX10_pursesBehind 11 = .ok (.invokevirtual 104, 3) := by decide +kernel
theorem dX10_pursesBehind_14 : decode cX10_pursesBehind 14 = .ok (.invokevirtual 175, 3) := by decide +kernel
theorem dX10_pursesBehind_17 : decode cX10_pursesBehind 17 = .ok (.ireturn, 1) := by decide +kernel
theorem dX10_on_0 : decode cX10_on 0 = .ok (.aload_n 0, 1) := by decide +kernel
theorem dX10_on_1 : decode cX10_on 1 = .ok (.iload_n 1, 1) := by decide +kernel
theorem dX10_on_2 : decode cX10_on 2 = .ok (.invokevirtual 140, 3) := by decide +kernel
theorem dX10_on_5 : decode cX10_on 5 = .ok (.ifCond .eq 20, 3) := by decide +kernel
theorem dX10_on_8 : decode cX10_on 8 = .ok (.iload_n 2, 1) := by decide +kernel
theorem dX10_on_9 : decode cX10_on 9 = .ok (.invokestatic 178, 3) := by decide +kernel
theorem dX10_on_12 : decode cX10_on 12 = .ok (.ifCond .eq 13, 3) := by decide +kernel
theorem dX10_on_15 : decode cX10_on 15 = .ok (.iload_n 3, 1) := by decide +kernel
theorem dX10_on_16 : decode cX10_on 16 = .ok (.i2l, 1) := by decide +kernel
theorem dX10_on_17 : decode cX10_on 17 = .ok (.lconst 0, 1) := by decide +kernel
theorem dX10_on_18 : decode cX10_on 18 = .ok (.lconst 1, 1) := by decide +kernel
theorem dX10_on_19 : decode cX10_on 19 = .ok (.invokestatic 54, 3) := by decide +kernel
theorem dX10_on_22 : decode cX10_on 22 = .ok (.ifCond .ne 10, 3) := by decide +kernel
theorem dX10_on_25 : decode cX10_on 25 = .ok (.aload_n 0, 1) := by decide +kernel
theorem dX10_on_26 : decode cX10_on 26 = .ok (.ldc 45, 2) := by decide +kernel
theorem dX10_on_28 : decode cX10_on 28 = .ok (.invokevirtual 75, 3) := by decide +kernel
theorem dX10_on_31 : decode cX10_on 31 = .ok (.ireturn, 1) := by decide +kernel
theorem dX10_on_32 : decode cX10_on 32 = .ok (.iload_n 3, 1) := by decide +kernel
theorem dX10_on_33 : decode cX10_on 33 = .ok (.ifCond .ne 16, 3) := by decide +kernel
theorem dX10_on_36 : decode cX10_on 36 = .ok (.aload_n 0, 1) := by decide +kernel
theorem dX10_on_37 : decode cX10_on 37 = .ok (.iload_n 1, 1) := by decide +kernel
theorem dX10_on_38 : decode cX10_on 38 = .ok (.iconst 0, 1) := by decide +kernel
theorem dX10_on_39 : decode cX10_on 39 = .ok (.invokestatic 49, 3) := by decide +kernel
theorem dX10_on_42 : decode cX10_on 42 = .ok (.iload_n 2, 1) := by decide +kernel
theorem dX10_on_43 : decode cX10_on 43 = .ok (.invokevirtual 181, 3) := by decide +kernel
theorem dX10_on_46 : decode cX10_on 46 = .ok (.goto 9, 3) := by decide +kernel
theorem dX10_on_49 : decode cX10_on 49 = .ok (.aload_n 0, 1) := by decide +kernel
theorem dX10_on_50 : decode cX10_on 50 = .ok (.iload_n 1, 1) := by decide +kernel
theorem dX10_on_51 : decode cX10_on 51 = .ok (.iload_n 2, 1) := by decide +kernel
theorem dX10_on_52 : decode cX10_on 52 = .ok (.invokevirtual 184, 3) := by decide +kernel
theorem dX10_on_55 : decode cX10_on 55 = .ok (.ireturn, 1) := by decide +kernel
theorem dX10_then_0 : decode cX10_then 0 = .ok (.aload_n 0, 1) := by decide +kernel
theorem dX10_then_1 : decode cX10_then 1 = .ok (.iload_n 1, 1) := by decide +kernel
theorem dX10_then_2 : decode cX10_then 2 = .ok (.invokevirtual 79, 3) := by decide +kernel
theorem dX10_then_5 : decode cX10_then 5 = .ok (.ifCond .eq 20, 3) := by decide +kernel
theorem dX10_then_8 : decode cX10_then 8 = .ok (.iload_n 2, 1) := by decide +kernel
theorem dX10_then_9 : decode cX10_then 9 = .ok (.invokestatic 178, 3) := by decide +kernel
theorem dX10_then_12 : decode cX10_then 12 = .ok (.ifCond .eq 13, 3) := by decide +kernel
theorem dX10_then_15 : decode cX10_then 15 = .ok (.iload_n 3, 1) := by decide +kernel
theorem dX10_then_16 : decode cX10_then 16 = .ok (.i2l, 1) := by decide +kernel
theorem dX10_then_17 : decode cX10_then 17 = .ok (.lconst 0, 1) := by decide +kernel
theorem dX10_then_18 : decode cX10_then 18 = .ok (.lconst 1, 1) := by decide +kernel
theorem dX10_then_19 : decode cX10_then 19 = .ok (.invokestatic 54, 3) := by decide +kernel
theorem dX10_then_22 : decode cX10_then 22 = .ok (.ifCond .ne 10, 3) := by decide +kernel
theorem dX10_then_25 : decode cX10_then 25 = .ok (.aload_n 0, 1) := by decide +kernel
theorem dX10_then_26 : decode cX10_then 26 = .ok (.ldc 45, 2) := by decide +kernel
theorem dX10_then_28 : decode cX10_then 28 = .ok (.invokevirtual 75, 3) := by decide +kernel
theorem dX10_then_31 : decode cX10_then 31 = .ok (.ireturn, 1) := by decide +kernel
theorem dX10_then_32 : decode cX10_then 32 = .ok (.aload_n 0, 1) := by decide +kernel
theorem dX10_then_33 : decode cX10_then 33 = .ok (.iload_n 1, 1) := by decide +kernel
theorem dX10_then_34 : decode cX10_then 34 = .ok (.iload_n 3, 1) := by decide +kernel
theorem dX10_then_35 : decode cX10_then 35 = .ok (.ifCond .ne 7, 3) := by decide +kernel
theorem dX10_then_38 : decode cX10_then 38 = .ok (.iconst 1, 1) := by decide +kernel
theorem dX10_then_39 : decode cX10_then 39 = .ok (.goto 4, 3) := by decide +kernel
theorem dX10_then_42 : decode cX10_then 42 = .ok (.iconst 2, 1) := by decide +kernel
theorem dX10_then_43 : decode cX10_then 43 = .ok (.invokestatic 46, 3) := by decide +kernel
theorem dX10_then_46 : decode cX10_then 46 = .ok (.iload_n 2, 1) := by decide +kernel
theorem dX10_then_47 : decode cX10_then 47 = .ok (.invokevirtual 181, 3) := by decide +kernel
theorem dX10_then_50 : decode cX10_then 50 = .ok (.ireturn, 1) := by decide +kernel
theorem dX10_fond_0 : decode cX10_fond 0 = .ok (.iload_n 1, 1) := by decide +kernel
theorem dX10_fond_1 : decode cX10_fond 1 = .ok (.invokestatic 64, 3) := by decide +kernel
theorem dX10_fond_4 : decode cX10_fond 4 = .ok (.ifCond .eq 23, 3) := by decide +kernel
theorem dX10_fond_7 : decode cX10_fond 7 = .ok (.iload_n 2, 1) := by decide +kernel
theorem dX10_fond_8 : decode cX10_fond 8 = .ok (.invokestatic 178, 3) := by decide +kernel
theorem dX10_fond_11 : decode cX10_fond 11 = .ok (.ifCond .eq 16, 3) := by decide +kernel
theorem dX10_fond_14 : decode cX10_fond 14 = .ok (.aload_n 0, 1) := by decide +kernel
theorem dX10_fond_15 : decode cX10_fond 15 = .ok (.iload_n 1, 1) := by decide +kernel
theorem dX10_fond_16 : decode cX10_fond 16 = .ok (.iconst 1, 1) := by decide +kernel
theorem dX10_fond_17 : decode cX10_fond 17 = .ok (.invokestatic 41, 3) := by decide +kernel
theorem dX10_fond_20 : decode cX10_fond 20 = .ok (.iload_n 2, 1) := by decide +kernel
theorem dX10_fond_21 : decode cX10_fond 21 = .ok (.invokevirtual 181, 3) := by decide +kernel
theorem dX10_fond_24 : decode cX10_fond 24 = .ok (.goto 9, 3) := by decide +kernel
theorem dX10_fond_27 : decode cX10_fond 27 = .ok (.aload_n 0, 1) := by decide +kernel
theorem dX10_fond_28 : decode cX10_fond 28 = .ok (.ldc 45, 2) := by decide +kernel
theorem dX10_fond_30 : decode cX10_fond 30 = .ok (.invokevirtual 75, 3) := by decide +kernel
theorem dX10_fond_33 : decode cX10_fond 33 = .ok (.ireturn, 1) := by decide +kernel
theorem dX10_firstDown_0 : decode cX10_firstDown 0 = .ok (.aload_n 0, 1) := by decide +kernel
theorem dX10_firstDown_1 : decode cX10_firstDown 1 = .ok (.invokevirtual 172, 3) := by decide +kernel
theorem dX10_firstDown_4 : decode cX10_firstDown 4 = .ok (.iconst 0, 1) := by decide +kernel
theorem dX10_firstDown_5 : decode cX10_firstDown 5 = .ok (.istore_n 3, 1) := by decide +kernel
theorem dX10_firstDown_6 : decode cX10_firstDown 6 = .ok (.iload_n 3, 1) := by decide +kernel
theorem dX10_firstDown_7 : decode cX10_firstDown 7 = .ok (.sipush 200, 3) := by decide +kernel
theorem dX10_firstDown_10 : decode cX10_firstDown 10 = .ok (.if_icmp .gt 23, 3) := by decide +kernel
theorem dX10_firstDown_13 : decode cX10_firstDown 13 = .ok (.aload_n 0, 1) := by decide +kernel
theorem dX10_firstDown_14 : decode cX10_firstDown 14 = .ok (.getfield 7, 3) := by decide +kernel
theorem dX10_firstDown_17 : decode cX10_firstDown 17 = .ok (.iload_n 1, 1) := by decide +kernel
theorem dX10_firstDown_18 : decode cX10_firstDown 18 = .ok (.iaload, 1) := by decide +kernel
theorem dX10_firstDown_19 : decode cX10_firstDown 19 = .ok (.iload_n 2, 1) := by decide +kernel
theorem dX10_firstDown_20 : decode cX10_firstDown 20 = .ok (.if_icmp .le 13, 3) := by decide +kernel
theorem dX10_firstDown_23 : decode cX10_firstDown 23 = .ok (.aload_n 0, 1) := by decide +kernel
theorem dX10_firstDown_24 : decode cX10_firstDown 24 = .ok (.invokevirtual 160, 3) := by decide +kernel
theorem dX10_firstDown_27 : decode cX10_firstDown 27 = .ok (.iinc 3 1, 3) := by decide +kernel
theorem dX10_firstDown_30 : decode cX10_firstDown 30 = .ok (.goto (-24), 3) := by decide +kernel
theorem dX10_firstDown_33 : decode cX10_firstDown 33 = .ok (.aload_n 0, 1) := by decide +kernel
theorem dX10_firstDown_34 : decode cX10_firstDown 34 = .ok (.iload_n 3, 1) := by decide +kernel
theorem dX10_firstDown_35 : decode cX10_firstDown 35 = .ok (.invokevirtual 175, 3) := by decide +kernel
theorem dX10_firstDown_38 : decode cX10_firstDown 38 = .ok (.istore 4, 2) := by decide +kernel
theorem dX10_firstDown_40 : decode cX10_firstDown 40 = .ok (.iload 4, 2) := by decide +kernel
theorem dX10_firstDown_42 : decode cX10_firstDown 42 = .ok (.sipush 200, 3) := by decide +kernel
theorem dX10_firstDown_45 : decode cX10_firstDown 45 = .ok (.if_icmp .le 12, 3) := by decide +kernel
theorem dX10_firstDown_48 : decode cX10_firstDown 48 = .ok (.aload_n 0, 1) := by decide +kernel
theorem dX10_firstDown_49 : decode cX10_firstDown 49 = .ok (.ldc 187, 2) := by decide +kernel
theorem dX10_firstDown_51 : decode cX10_firstDown 51 = .ok (.invokevirtual 75, 3) := by decide +kernel
theorem dX10_firstDown_54 : decode cX10_firstDown 54 = .ok (.goto 5, 3) := by decide +kernel
theorem dX10_firstDown_57 : decode cX10_firstDown 57 = .ok (.iload 4, 2) := by decide +kernel
theorem dX10_firstDown_59 : decode cX10_firstDown 59 = .ok (.ireturn, 1) := by decide +kernel
theorem dX10_home_0 : decode cX10_home 0 = .ok (.aload_n 0, 1) := by decide +kernel
theorem dX10_home_1 : decode cX10_home 1 = .ok (.iload_n 1, 1) := by decide +kernel
theorem dX10_home_2 : decode cX10_home 2 = .ok (.invokevirtual 79, 3) := by decide +kernel
theorem dX10_home_5 : decode cX10_home 5 = .ok (.ifCond .eq 16, 3) := by decide +kernel
theorem dX10_home_8 : decode cX10_home 8 = .ok (.aload_n 0, 1) := by decide +kernel
theorem dX10_home_9 : decode cX10_home 9 = .ok (.iload_n 1, 1) := by decide +kernel
theorem dX10_home_10 : decode cX10_home 10 = .ok (.iconst 3, 1) := by decide +kernel
theorem dX10_home_11 : decode cX10_home 11 = .ok (.invokestatic 46, 3) := by decide +kernel
theorem dX10_home_14 : decode cX10_home 14 = .ok (.iconst (-1), 1) := by decide +kernel
theorem dX10_home_15 : decode cX10_home 15 = .ok (.invokevirtual 188, 3) := by decide +kernel
theorem dX10_home_18 : decode cX10_home 18 = .ok (.goto 9, 3) := by decide +kernel
theorem dX10_home_21 : decode cX10_home 21 = .ok (.aload_n 0, 1) := by decide +kernel
theorem dX10_home_22 : decode cX10_home 22 = .ok (.ldc 45, 2) := by decide +kernel
theorem dX10_home_24 : decode cX10_home 24 = .ok (.invokevirtual 75, 3) := by decide +kernel
theorem dX10_home_27 : decode cX10_home 27 = .ok (.ireturn, 1) := by decide +kernel
theorem dX10_falls_0 : decode cX10_falls 0 = .ok (.aload_n 0, 1) := by decide +kernel
theorem dX10_falls_1 : decode cX10_falls 1 = .ok (.iload_n 1, 1) := by decide +kernel
theorem dX10_falls_2 : decode cX10_falls 2 = .ok (.invokevirtual 140, 3) := by decide +kernel
theorem dX10_falls_5 : decode cX10_falls 5 = .ok (.ifCond .eq 28, 3) := by decide +kernel
theorem dX10_falls_8 : decode cX10_falls 8 = .ok (.iload_n 2, 1) := by decide +kernel
theorem dX10_falls_9 : decode cX10_falls 9 = .ok (.i2l, 1) := by decide +kernel
theorem dX10_falls_10 : decode cX10_falls 10 = .ok (.lconst 0, 1) := by decide +kernel
theorem dX10_falls_11 : decode cX10_falls 11 = .ok (.ldc2_w 135, 3) := by decide +kernel
theorem dX10_falls_14 : decode cX10_falls 14 = .ok (.invokestatic 54, 3) := by decide +kernel
theorem dX10_falls_17 : decode cX10_falls 17 = .ok (.ifCond .eq 16, 3) := by decide +kernel
theorem dX10_falls_20 : decode cX10_falls 20 = .ok (.aload_n 0, 1) := by decide +kernel
theorem dX10_falls_21 : decode cX10_falls 21 = .ok (.iload_n 1, 1) := by decide +kernel
theorem dX10_falls_22 : decode cX10_falls 22 = .ok (.iconst 0, 1) := by decide +kernel
theorem dX10_falls_23 : decode cX10_falls 23 = .ok (.invokestatic 49, 3) := by decide +kernel
theorem dX10_falls_26 : decode cX10_falls 26 = .ok (.iload_n 2, 1) := by decide +kernel
theorem dX10_falls_27 : decode cX10_falls 27 = .ok (.invokevirtual 188, 3) := by decide +kernel
theorem dX10_falls_30 : decode cX10_falls 30 = .ok (.goto 9, 3) := by decide +kernel
theorem dX10_falls_33 : decode cX10_falls 33 = .ok (.aload_n 0, 1) := by decide +kernel
theorem dX10_falls_34 : decode cX10_falls 34 = .ok (.ldc 45, 2) := by decide +kernel
theorem dX10_falls_36 : decode cX10_falls 36 = .ok (.invokevirtual 75, 3) := by decide +kernel
theorem dX10_falls_39 : decode cX10_falls 39 = .ok (.ireturn, 1) := by decide +kernel
theorem dX10_isSoon_0 : decode cX10_isSoon 0 = .ok (.iload_n 0, 1) := by decide +kernel
theorem dX10_isSoon_1 : decode cX10_isSoon 1 = .ok (.i2l, 1) := by decide +kernel
theorem dX10_isSoon_2 : decode cX10_isSoon 2 = .ok (.lconst 1, 1) := by decide +kernel
theorem dX10_isSoon_3 : decode cX10_isSoon 3 = .ok (.ldc2_w 191, 3) := by decide +kernel
theorem dX10_isSoon_6 : decode cX10_isSoon 6 = .ok (.invokestatic 54, 3) := by decide +kernel
theorem dX10_isSoon_9 : decode cX10_isSoon 9 = .ok (.ireturn, 1) := by decide +kernel
theorem dX10_best_0 : decode cX10_best 0 = .ok (.aload_n 0, 1) := by decide +kernel
theorem dX10_best_1 : decode cX10_best 1 = .ok (.iload_n 1, 1) := by decide +kernel
theorem dX10_best_2 : decode cX10_best 2 = .ok (.invokevirtual 140, 3) := by decide +kernel
theorem dX10_best_5 : decode cX10_best 5 = .ok (.ifCond .eq 10, 3) := by decide +kernel
theorem dX10_best_8 : decode cX10_best 8 = .ok (.iload_n 2, 1) := by decide +kernel
theorem dX10_best_9 : decode cX10_best 9 = .ok (.invokestatic 193, 3) := by decide +kernel
theorem dX10_best_12 : decode cX10_best 12 = .ok (.ifCond .ne 10, 3) := by decide +kernel
theorem dX10_best_15 : decode cX10_best 15 = .ok (.aload_n 0, 1) := by decide +kernel
theorem dX10_best_16 : decode cX10_best 16 = .ok (.ldc 45, 2) := by decide +kernel
theorem dX10_best_18 : decode cX10_best 18 = .ok (.invokevirtual 75, 3) := by decide +kernel
theorem dX10_best_21 : decode cX10_best 21 = .ok (.ireturn, 1) := by decide +kernel
theorem dX10_best_22 : decode cX10_best 22 = .ok (.aload_n 0, 1) := by decide +kernel
theorem dX10_best_23 : decode cX10_best 23 = .ok (.iload_n 1, 1) := by decide +kernel
theorem dX10_best_24 : decode cX10_best 24 = .ok (.invokevirtual 145, 3) := by decide +kernel
theorem dX10_best_27 : decode cX10_best 27 = .ok (.iconst (-1), 1) := by decide +kernel
theorem dX10_best_28 : decode cX10_best 28 = .ok (.if_icmp .eq 10, 3) := by decide +kernel
theorem dX10_best_31 : decode cX10_best 31 = .ok (.aload_n 0, 1) := by decide +kernel
theorem dX10_best_32 : decode cX10_best 32 = .ok (.ldc 148, 2) := by decide +kernel
theorem dX10_best_34 : decode cX10_best 34 = .ok (.invokevirtual 75, 3) := by decide +kernel
theorem dX10_best_37 : decode cX10_best 37 = .ok (.ireturn, 1) := by decide +kernel
theorem dX10_best_38 : decode cX10_best 38 = .ok (.iconst (-1), 1) := by decide +kernel
theorem dX10_best_39 : decode cX10_best 39 = .ok (.istore_n 3, 1) := by decide +kernel
theorem dX10_best_40 : decode cX10_best 40 = .ok (.iconst (-1), 1) := by decide +kernel
theorem dX10_best_41 : decode cX10_best 41 = .ok (.istore 4, 2) := by decide +kernel
theorem dX10_best_43 : decode cX10_best 43 = .ok (.iconst 0, 1) := by decide +kernel
theorem dX10_best_44 : decode cX10_best 44 = .ok (.istore 5, 2) := by decide +kernel
theorem dX10_best_46 : decode cX10_best 46 = .ok (.iload 5, 2) := by decide +kernel
theorem dX10_best_48 : decode cX10_best 48 = .ok (.aload_n 0, 1) := by decide +kernel
theorem dX10_best_49 : decode cX10_best 49 = .ok (.getfield 7, 3) := by decide +kernel
theorem dX10_best_52 : decode cX10_best 52 = .ok (.iconst 1, 1) := by decide +kernel
theorem dX10_best_53 : decode cX10_best 53 = .ok (.iaload, 1) := by decide +kernel
theorem dX10_best_54 : decode cX10_best 54 = .ok (.if_icmp .ge 86, 3) := by decide +kernel
theorem dX10_best_57 : decode cX10_best 57 = .ok (.aload_n 0, 1) := by decide +kernel
theorem dX10_best_58 : decode cX10_best 58 = .ok (.iload 5, 2) := by decide +kernel
theorem dX10_best_60 : decode cX10_best 60 = .ok (.iconst 3, 1) := by decide +kernel
theorem dX10_best_61 : decode cX10_best 61 = .ok (.invokevirtual 61, 3) := by decide +kernel
theorem dX10_best_64 : decode cX10_best 64 = .ok (.iconst (-1), 1) := by decide +kernel
theorem dX10_best_65 : decode cX10_best 65 = .ok (.if_icmp .ne 69, 3) := by decide +kernel
theorem dX10_best_68 : decode cX10_best 68 = .ok (.aload_n 0, 1) := by decide +kernel
theorem dX10_best_69 : decode cX10_best 69 = .ok (.getfield 7, 3) := by decide +kernel
theorem dX10_best_72 : decode cX10_best 72 = .ok (.iload 5, 2) := by decide +kernel
theorem dX10_best_74 : decode cX10_best 74 = .ok (.iconst 3, 1) := by decide +kernel
theorem dX10_best_75 : decode cX10_best 75 = .ok (.invokestatic 46, 3) := by decide +kernel
theorem dX10_best_78 : decode cX10_best 78 = .ok (.iload_n 1, 1) := by decide +kernel
theorem dX10_best_79 : decode cX10_best 79 = .ok (.iastore, 1) := by decide +kernel
theorem dX10_best_80 : decode cX10_best 80 = .ok (.aload_n 0, 1) := by decide +kernel
theorem dX10_best_81 : decode cX10_best 81 = .ok (.iload_n 1, 1) := by decide +kernel
theorem dX10_best_82 : decode cX10_best 82 = .ok (.iconst 0, 1) := by decide +kernel
theorem dX10_best_83 : decode cX10_best 83 = .ok (.invokestatic 49, 3) := by decide +kernel
theorem dX10_best_86 : decode cX10_best 86 = .ok (.iload_n 2, 1) := by decide +kernel
theorem dX10_best_87 : decode cX10_best 87 = .ok (.invokevirtual 181, 3) := by decide +kernel
theorem dX10_best_90 : decode cX10_best 90 = .ok (.istore 6, 2) := by decide +kernel
theorem dX10_best_92 : decode cX10_best 92 = .ok (.aload_n 0, 1) := by decide +kernel
theorem dX10_best_93 : decode cX10_best 93 = .ok (.getfield 7, 3) := by decide +kernel
theorem dX10_best_96 : decode cX10_best 96 = .ok (.iload 5, 2) := by decide +kernel
theorem dX10_best_98 : decode cX10_best 98 = .ok (.iconst 3, 1) := by decide +kernel
theorem dX10_best_99 : decode cX10_best 99 = .ok (.invokestatic 46, 3) := by decide +kernel
theorem dX10_best_102 : decode cX10_best 102 = .ok (.iconst (-1), 1) := by decide +kernel
end
section
theorem dX10_best_103 : decode cX10_best 103 = .ok (.iastore, 1) := by decide +kernel
theorem dX10_best_104 : decode cX10_best 104 = .ok (.iload 6, 2) := by decide +kernel
theorem dX10_best_106 : decode cX10_best 106 = .ok (.iload 4, 2) := by decide +kernel
theorem dX10_best_108 : decode cX10_best 108 = .ok (.if_icmp .le 8, 3) := by decide +kernel
theorem dX10_best_111 : decode cX10_best 111 = .ok (.iload 5, 2) := by decide +kernel
theorem dX10_best_113 : decode cX10_best 113 = .ok (.goto 4, 3) := by decide +kernel
theorem dX10_best_116 : decode cX10_best 116 = .ok (.iload_n 3, 1) := by decide +kernel
theorem dX10_best_117 : decode cX10_best 117 = .ok (.istore_n 3, 1) := by decide +kernel
theorem dX10_best_118 : decode cX10_best 118 = .ok (.iload 6, 2) := by decide +kernel
theorem dX10_best_120 : decode cX10_best 120 = .ok (.iload 4, 2) := by decide +kernel
theorem dX10_best_122 : decode cX10_best 122 = .ok (.if_icmp .le 8, 3) := by decide +kernel
theorem dX10_best_125 : decode cX10_best 125 = .ok (.iload 6, 2) := by decide +kernel
theorem dX10_best_127 : decode cX10_best 127 = .ok (.goto 5, 3) := by decide +kernel
theorem dX10_best_130 : decode cX10_best 130 = .ok (.iload 4, 2) := by decide +kernel
theorem dX10_best_132 : decode cX10_best 132 = .ok (.istore 4, 2) := by decide +kernel
theorem dX10_best_134 : decode cX10_best 134 = .ok (.iinc 5 1, 3) := by decide +kernel
theorem dX10_best_137 : decode cX10_best 137 = .ok (.goto (-91), 3) := by decide +kernel
theorem dX10_best_140 : decode cX10_best 140 = .ok (.iload_n 3, 1) := by decide +kernel
theorem dX10_best_141 : decode cX10_best 141 = .ok (.ifCond .ge 12, 3) := by decide +kernel
theorem dX10_best_144 : decode cX10_best 144 = .ok (.aload_n 0, 1) := by decide +kernel
theorem dX10_best_145 : decode cX10_best 145 = .ok (.ldc 187, 2) := by decide +kernel
theorem dX10_best_147 : decode cX10_best 147 = .ok (.invokevirtual 75, 3) := by decide +kernel
theorem dX10_best_150 : decode cX10_best 150 = .ok (.goto 4, 3) := by decide +kernel
theorem dX10_best_153 : decode cX10_best 153 = .ok (.iload_n 3, 1) := by decide +kernel
theorem dX10_best_154 : decode cX10_best 154 = .ok (.ireturn, 1) := by decide +kernel
theorem dX10_mostBy_0 : decode cX10_mostBy 0 = .ok (.aload_n 0, 1) := by decide +kernel
theorem dX10_mostBy_1 : decode cX10_mostBy 1 = .ok (.getfield 7, 3) := by decide +kernel
theorem dX10_mostBy_4 : decode cX10_mostBy 4 = .ok (.iload_n 1, 1) := by decide +kernel
theorem dX10_mostBy_5 : decode cX10_mostBy 5 = .ok (.iaload, 1) := by decide +kernel
theorem dX10_mostBy_6 : decode cX10_mostBy 6 = .ok (.istore 5, 2) := by decide +kernel
theorem dX10_mostBy_8 : decode cX10_mostBy 8 = .ok (.iconst 0, 1) := by decide +kernel
theorem dX10_mostBy_9 : decode cX10_mostBy 9 = .ok (.istore 6, 2) := by decide +kernel
theorem dX10_mostBy_11 : decode cX10_mostBy 11 = .ok (.iconst (-1), 1) := by decide +kernel
theorem dX10_mostBy_12 : decode cX10_mostBy 12 = .ok (.istore 7, 2) := by decide +kernel
theorem dX10_mostBy_14 : decode cX10_mostBy 14 = .ok (.iconst 0, 1) := by decide +kernel
theorem dX10_mostBy_15 : decode cX10_mostBy 15 = .ok (.istore 8, 2) := by decide +kernel
theorem dX10_mostBy_17 : decode cX10_mostBy 17 = .ok (.iload 8, 2) := by decide +kernel
theorem dX10_mostBy_19 : decode cX10_mostBy 19 = .ok (.iload_n 2, 1) := by decide +kernel
theorem dX10_mostBy_20 : decode cX10_mostBy 20 = .ok (.if_icmp .gt 71, 3) := by decide +kernel
theorem dX10_mostBy_23 : decode cX10_mostBy 23 = .ok (.aload_n 0, 1) := by decide +kernel
theorem dX10_mostBy_24 : decode cX10_mostBy 24 = .ok (.getfield 7, 3) := by decide +kernel
theorem dX10_mostBy_27 : decode cX10_mostBy 27 = .ok (.iload_n 1, 1) := by decide +kernel
theorem dX10_mostBy_28 : decode cX10_mostBy 28 = .ok (.iload 8, 2) := by decide +kernel
theorem dX10_mostBy_30 : decode cX10_mostBy 30 = .ok (.iastore, 1) := by decide +kernel
theorem dX10_mostBy_31 : decode cX10_mostBy 31 = .ok (.iload_n 3, 1) := by decide +kernel
theorem dX10_mostBy_32 : decode cX10_mostBy 32 = .ok (.ifCond .ge 12, 3) := by decide +kernel
theorem dX10_mostBy_35 : decode cX10_mostBy 35 = .ok (.aload_n 0, 1) := by decide +kernel
theorem dX10_mostBy_36 : decode cX10_mostBy 36 = .ok (.iload 4, 2) := by decide +kernel
theorem dX10_mostBy_38 : decode cX10_mostBy 38 = .ok (.invokevirtual 196, 3) := by decide +kernel
theorem dX10_mostBy_41 : decode cX10_mostBy 41 = .ok (.goto 10, 3) := by decide +kernel
theorem dX10_mostBy_44 : decode cX10_mostBy 44 = .ok (.aload_n 0, 1) := by decide +kernel
theorem dX10_mostBy_45 : decode cX10_mostBy 45 = .ok (.iload_n 3, 1) := by decide +kernel
theorem dX10_mostBy_46 : decode cX10_mostBy 46 = .ok (.iload 4, 2) := by decide +kernel
theorem dX10_mostBy_48 : decode cX10_mostBy 48 = .ok (.invokevirtual 181, 3) := by decide +kernel
theorem dX10_mostBy_51 : decode cX10_mostBy 51 = .ok (.istore 9, 2) := by decide +kernel
theorem dX10_mostBy_53 : decode cX10_mostBy 53 = .ok (.iload 9, 2) := by decide +kernel
theorem dX10_mostBy_55 : decode cX10_mostBy 55 = .ok (.iload 7, 2) := by decide +kernel
theorem dX10_mostBy_57 : decode cX10_mostBy 57 = .ok (.if_icmp .le 8, 3) := by decide +kernel
theorem dX10_mostBy_60 : decode cX10_mostBy 60 = .ok (.iload 8, 2) := by decide +kernel
theorem dX10_mostBy_62 : decode cX10_mostBy 62 = .ok (.goto 5, 3) := by decide +kernel
theorem dX10_mostBy_65 : decode cX10_mostBy 65 = .ok (.iload 6, 2) := by decide +kernel
theorem dX10_mostBy_67 : decode cX10_mostBy 67 = .ok (.istore 6, 2) := by decide +kernel
theorem dX10_mostBy_69 : decode cX10_mostBy 69 = .ok (.iload 9, 2) := by decide +kernel
theorem dX10_mostBy_71 : decode cX10_mostBy 71 = .ok (.iload 7, 2) := by decide +kernel
theorem dX10_mostBy_73 : decode cX10_mostBy 73 = .ok (.if_icmp .le 8, 3) := by decide +kernel
theorem dX10_mostBy_76 : decode cX10_mostBy 76 = .ok (.iload 9, 2) := by decide +kernel
theorem dX10_mostBy_78 : decode cX10_mostBy 78 = .ok (.goto 5, 3) := by decide +kernel
theorem dX10_mostBy_81 : decode cX10_mostBy 81 = .ok (.iload 7, 2) := by decide +kernel
theorem dX10_mostBy_83 : decode cX10_mostBy 83 = .ok (.istore 7, 2) := by decide +kernel
theorem dX10_mostBy_85 : decode cX10_mostBy 85 = .ok (.iinc 8 1, 3) := by decide +kernel
theorem dX10_mostBy_88 : decode cX10_mostBy 88 = .ok (.goto (-71), 3) := by decide +kernel
theorem dX10_mostBy_91 : decode cX10_mostBy 91 = .ok (.aload_n 0, 1) := by decide +kernel
theorem dX10_mostBy_92 : decode cX10_mostBy 92 = .ok (.getfield 7, 3) := by decide +kernel
theorem dX10_mostBy_95 : decode cX10_mostBy 95 = .ok (.iload_n 1, 1) := by decide +kernel
theorem dX10_mostBy_96 : decode cX10_mostBy 96 = .ok (.iload 5, 2) := by decide +kernel
theorem dX10_mostBy_98 : decode cX10_mostBy 98 = .ok (.iastore, 1) := by decide +kernel
theorem dX10_mostBy_99 : decode cX10_mostBy 99 = .ok (.iload 6, 2) := by decide +kernel
theorem dX10_mostBy_101 : decode cX10_mostBy 101 = .ok (.ireturn, 1) := by decide +kernel
theorem dX10_round_0 : decode cX10_round 0 = .ok (.aload_n 0, 1) := by decide +kernel
theorem dX10_round_1 : decode cX10_round 1 = .ok (.iload_n 1, 1) := by decide +kernel
theorem dX10_round_2 : decode cX10_round 2 = .ok (.invokevirtual 140, 3) := by decide +kernel
theorem dX10_round_5 : decode cX10_round 5 = .ok (.ifCond .eq 29, 3) := by decide +kernel
theorem dX10_round_8 : decode cX10_round 8 = .ok (.iload_n 2, 1) := by decide +kernel
theorem dX10_round_9 : decode cX10_round 9 = .ok (.invokestatic 193, 3) := by decide +kernel
theorem dX10_round_12 : decode cX10_round 12 = .ok (.ifCond .eq 22, 3) := by decide +kernel
theorem dX10_round_15 : decode cX10_round 15 = .ok (.aload_n 0, 1) := by decide +kernel
theorem dX10_round_16 : decode cX10_round 16 = .ok (.iload_n 1, 1) := by decide +kernel
theorem dX10_round_17 : decode cX10_round 17 = .ok (.iconst 1, 1) := by decide +kernel
theorem dX10_round_18 : decode cX10_round 18 = .ok (.invokestatic 49, 3) := by decide +kernel
theorem dX10_round_21 : decode cX10_round 21 = .ok (.iconst 5, 1) := by decide +kernel
theorem dX10_round_22 : decode cX10_round 22 = .ok (.iload_n 1, 1) := by decide +kernel
theorem dX10_round_23 : decode cX10_round 23 = .ok (.iconst 0, 1) := by decide +kernel
theorem dX10_round_24 : decode cX10_round 24 = .ok (.invokestatic 49, 3) := by decide +kernel
theorem dX10_round_27 : decode cX10_round 27 = .ok (.iload_n 2, 1) := by decide +kernel
theorem dX10_round_28 : decode cX10_round 28 = .ok (.invokevirtual 199, 3) := by decide +kernel
theorem dX10_round_31 : decode cX10_round 31 = .ok (.goto 9, 3) := by decide +kernel
theorem dX10_round_34 : decode cX10_round 34 = .ok (.aload_n 0, 1) := by decide +kernel
theorem dX10_round_35 : decode cX10_round 35 = .ok (.ldc 45, 2) := by decide +kernel
theorem dX10_round_37 : decode cX10_round 37 = .ok (.invokevirtual 75, 3) := by decide +kernel
theorem dX10_round_40 : decode cX10_round 40 = .ok (.ireturn, 1) := by decide +kernel
theorem dX10_kind_0 : decode cX10_kind 0 = .ok (.aload_n 0, 1) := by decide +kernel
theorem dX10_kind_1 : decode cX10_kind 1 = .ok (.iload_n 1, 1) := by decide +kernel
theorem dX10_kind_2 : decode cX10_kind 2 = .ok (.invokevirtual 79, 3) := by decide +kernel
theorem dX10_kind_5 : decode cX10_kind 5 = .ok (.ifCond .eq 25, 3) := by decide +kernel
theorem dX10_kind_8 : decode cX10_kind 8 = .ok (.iload_n 2, 1) := by decide +kernel
theorem dX10_kind_9 : decode cX10_kind 9 = .ok (.invokestatic 193, 3) := by decide +kernel
theorem dX10_kind_12 : decode cX10_kind 12 = .ok (.ifCond .eq 18, 3) := by decide +kernel
theorem dX10_kind_15 : decode cX10_kind 15 = .ok (.aload_n 0, 1) := by decide +kernel
theorem dX10_kind_16 : decode cX10_kind 16 = .ok (.iload_n 1, 1) := by decide +kernel
theorem dX10_kind_17 : decode cX10_kind 17 = .ok (.iconst 0, 1) := by decide +kernel
theorem dX10_kind_18 : decode cX10_kind 18 = .ok (.invokestatic 46, 3) := by decide +kernel
theorem dX10_kind_21 : decode cX10_kind 21 = .ok (.iconst 5, 1) := by decide +kernel
theorem dX10_kind_22 : decode cX10_kind 22 = .ok (.iconst (-1), 1) := by decide +kernel
theorem dX10_kind_23 : decode cX10_kind 23 = .ok (.iload_n 2, 1) := by decide +kernel
theorem dX10_kind_24 : decode cX10_kind 24 = .ok (.invokevirtual 199, 3) := by decide +kernel
theorem dX10_kind_27 : decode cX10_kind 27 = .ok (.goto 9, 3) := by decide +kernel
theorem dX10_kind_30 : decode cX10_kind 30 = .ok (.aload_n 0, 1) := by decide +kernel
theorem dX10_kind_31 : decode cX10_kind 31 = .ok (.ldc 45, 2) := by decide +kernel
theorem dX10_kind_33 : decode cX10_kind 33 = .ok (.invokevirtual 75, 3) := by decide +kernel
theorem dX10_kind_36 : decode cX10_kind 36 = .ok (.ireturn, 1) := by decide +kernel
theorem dX10_enough_0 : decode cX10_enough 0 = .ok (.aload_n 0, 1) := by decide +kernel
theorem dX10_enough_1 : decode cX10_enough 1 = .ok (.iload_n 1, 1) := by decide +kernel
theorem dX10_enough_2 : decode cX10_enough 2 = .ok (.invokevirtual 140, 3) := by decide +kernel
theorem dX10_enough_5 : decode cX10_enough 5 = .ok (.ifCond .eq 10, 3) := by decide +kernel
theorem dX10_enough_8 : decode cX10_enough 8 = .ok (.iload_n 2, 1) := by decide +kernel
theorem dX10_enough_9 : decode cX10_enough 9 = .ok (.invokestatic 193, 3) := by decide +kernel
theorem dX10_enough_12 : decode cX10_enough 12 = .ok (.ifCond .ne 10, 3) := by decide +kernel
theorem dX10_enough_15 : decode cX10_enough 15 = .ok (.aload_n 0, 1) := by decide +kernel
theorem dX10_enough_16 : decode cX10_enough 16 = .ok (.ldc 45, 2) := by decide +kernel
theorem dX10_enough_18 : decode cX10_enough 18 = .ok (.invokevirtual 75, 3) := by decide +kernel
theorem dX10_enough_21 : decode cX10_enough 21 = .ok (.ireturn, 1) := by decide +kernel
theorem dX10_enough_22 : decode cX10_enough 22 = .ok (.aload_n 0, 1) := by decide +kernel
theorem dX10_enough_23 : decode cX10_enough 23 = .ok (.iload_n 1, 1) := by decide +kernel
theorem dX10_enough_24 : decode cX10_enough 24 = .ok (.invokevirtual 145, 3) := by decide +kernel
theorem dX10_enough_27 : decode cX10_enough 27 = .ok (.istore_n 3, 1) := by decide +kernel
theorem dX10_enough_28 : decode cX10_enough 28 = .ok (.iload_n 3, 1) := by decide +kernel
theorem dX10_enough_29 : decode cX10_enough 29 = .ok (.iconst (-1), 1) := by decide +kernel
theorem dX10_enough_30 : decode cX10_enough 30 = .ok (.if_icmp .ne 10, 3) := by decide +kernel
theorem dX10_enough_33 : decode cX10_enough 33 = .ok (.aload_n 0, 1) := by decide +kernel
theorem dX10_enough_34 : decode cX10_enough 34 = .ok (.ldc 148, 2) := by decide +kernel
theorem dX10_enough_36 : decode cX10_enough 36 = .ok (.invokevirtual 75, 3) := by decide +kernel
theorem dX10_enough_39 : decode cX10_enough 39 = .ok (.ireturn, 1) := by decide +kernel
theorem dX10_enough_40 : decode cX10_enough 40 = .ok (.iload_n 1, 1) := by decide +kernel
theorem dX10_enough_41 : decode cX10_enough 41 = .ok (.iconst 0, 1) := by decide +kernel
theorem dX10_enough_42 : decode cX10_enough 42 = .ok (.invokestatic 49, 3) := by decide +kernel
theorem dX10_enough_45 : decode cX10_enough 45 = .ok (.istore 4, 2) := by decide +kernel
theorem dX10_enough_47 : decode cX10_enough 47 = .ok (.aload_n 0, 1) := by decide +kernel
theorem dX10_enough_48 : decode cX10_enough 48 = .ok (.getfield 7, 3) := by decide +kernel
theorem dX10_enough_51 : decode cX10_enough 51 = .ok (.iload 4, 2) := by decide +kernel
theorem dX10_enough_53 : decode cX10_enough 53 = .ok (.iaload, 1) := by decide +kernel
theorem dX10_enough_54 : decode cX10_enough 54 = .ok (.istore 5, 2) := by decide +kernel
theorem dX10_enough_56 : decode cX10_enough 56 = .ok (.iconst (-1), 1) := by decide +kernel
theorem dX10_enough_57 : decode cX10_enough 57 = .ok (.istore 6, 2) := by decide +kernel
theorem dX10_enough_59 : decode cX10_enough 59 = .ok (.iconst 0, 1) := by decide +kernel
theorem dX10_enough_60 : decode cX10_enough 60 = .ok (.istore 7, 2) := by decide +kernel
theorem dX10_enough_62 : decode cX10_enough 62 = .ok (.iload 7, 2) := by decide +kernel
theorem dX10_enough_64 : decode cX10_enough 64 = .ok (.sipush 2000, 3) := by decide +kernel
theorem dX10_enough_67 : decode cX10_enough 67 = .ok (.if_icmp .gt 41, 3) := by decide +kernel
theorem dX10_enough_70 : decode cX10_enough 70 = .ok (.iload 6, 2) := by decide +kernel
theorem dX10_enough_72 : decode cX10_enough 72 = .ok (.ifCond .ge 36, 3) := by decide +kernel
theorem dX10_enough_75 : decode cX10_enough 75 = .ok (.aload_n 0, 1) := by decide +kernel
theorem dX10_enough_76 : decode cX10_enough 76 = .ok (.getfield 7, 3) := by decide +kernel
theorem dX10_enough_79 : decode cX10_enough 79 = .ok (.iload 4, 2) := by decide +kernel
theorem dX10_enough_81 : decode cX10_enough 81 = .ok (.iload 7, 2) := by decide +kernel
theorem dX10_enough_83 : decode cX10_enough 83 = .ok (.iastore, 1) := by decide +kernel
theorem dX10_enough_84 : decode cX10_enough 84 = .ok (.aload_n 0, 1) := by decide +kernel
theorem dX10_enough_85 : decode cX10_enough 85 = .ok (.iload_n 1, 1) := by decide +kernel
theorem dX10_enough_86 : decode cX10_enough 86 = .ok (.iload_n 2, 1) := by decide +kernel
theorem dX10_enough_87 : decode cX10_enough 87 = .ok (.invokevirtual 184, 3) := by decide +kernel
theorem dX10_enough_90 : decode cX10_enough 90 = .ok (.iload_n 3, 1) := by decide +kernel
theorem dX10_enough_91 : decode cX10_enough 91 = .ok (.if_icmp .ne 8, 3) := by decide +kernel
theorem dX10_enough_94 : decode cX10_enough 94 = .ok (.iload 7, 2) := by decide +kernel
theorem dX10_enough_96 : decode cX10_enough 96 = .ok (.goto 4, 3) := by decide +kernel
theorem dX10_enough_99 : decode cX10_enough 99 = .ok (.iconst (-1), 1) := by decide +kernel
theorem dX10_enough_100 : decode cX10_enough 100 = .ok (.istore 6, 2) := by decide +kernel
theorem dX10_enough_102 : decode cX10_enough 102 = .ok (.iinc 7 10, 3) := by decide +kernel
theorem dX10_enough_105 : decode cX10_enough 105 = .ok (.goto (-43), 3) := by decide +kernel
theorem dX10_enough_108 : decode cX10_enough 108 = .ok (.aload_n 0, 1) := by decide +kernel
theorem dX10_enough_109 : decode cX10_enough 109 = .ok (.getfield 7, 3) := by decide +kernel
theorem dX10_enough_112 : decode cX10_enough 112 = .ok (.iload 4, 2) := by decide +kernel
theorem dX10_enough_114 : decode cX10_enough 114 = .ok (.iload 5, 2) := by decide +kernel
theorem dX10_enough_116 : decode cX10_enough 116 = .ok (.iastore, 1) := by decide +kernel
theorem dX10_enough_117 : decode cX10_enough 117 = .ok (.iload 6, 2) := by decide +kernel
theorem dX10_enough_119 : decode cX10_enough 119 = .ok (.ifCond .ge 12, 3) := by decide +kernel
theorem dX10_enough_122 : decode cX10_enough 122 = .ok (.aload_n 0, 1) := by decide +kernel
theorem dX10_enough_123 : decode cX10_enough 123 = .ok (.ldc 187, 2) := by decide +kernel
theorem dX10_enough_125 : decode cX10_enough 125 = .ok (.invokevirtual 75, 3) := by decide +kernel
theorem dX10_enough_128 : decode cX10_enough 128 = .ok (.goto 5, 3) := by decide +kernel
theorem dX10_enough_131 : decode cX10_enough 131 = .ok (.iload 6, 2) := by decide +kernel
theorem dX10_enough_133 : decode cX10_enough 133 = .ok (.ireturn, 1) := by decide +kernel
theorem dX10_please_0 : decode cX10_please 0 = .ok (.aload_n 0, 1) := by decide +kernel
theorem dX10_please_1 : decode cX10_please 1 = .ok (.iload_n 1, 1) := by decide +kernel
theorem dX10_please_2 : decode cX10_please 2 = .ok (.invokevirtual 140, 3) := by decide +kernel
theorem dX10_please_5 : decode cX10_please 5 = .ok (.ifCond .eq 30, 3) := by decide +kernel
theorem dX10_please_8 : decode cX10_please 8 = .ok (.iload_n 2, 1) := by decide +kernel
theorem dX10_please_9 : decode cX10_please 9 = .ok (.invokestatic 64, 3) := by decide +kernel
theorem dX10_please_12 : decode cX10_please 12 = .ok (.ifCond .eq 23, 3) := by decide +kernel
theorem dX10_please_15 : decode cX10_please 15 = .ok (.iload_n 3, 1) := by decide +kernel
theorem dX10_please_16 : decode cX10_please 16 = .ok (.invokestatic 193, 3) := by decide +kernel
theorem dX10_please_19 : decode cX10_please 19 = .ok (.ifCond .eq 16, 3) := by decide +kernel
theorem dX10_please_22 : decode cX10_please 22 = .ok (.iload 4, 2) := by decide +kernel
theorem dX10_please_24 : decode cX10_please 24 = .ok (.i2l, 1) := by decide +kernel
theorem dX10_please_25 : decode cX10_please 25 = .ok (.lconst 0, 1) := by decide +kernel
theorem dX10_please_26 : decode cX10_please 26 = .ok (.ldc2_w 135, 3) := by decide +kernel
theorem dX10_please_29 : decode cX10_please 29 = .ok (.invokestatic 54, 3) := by decide +kernel
theorem dX10_please_32 : decode cX10_please 32 = .ok (.ifCond .ne 10, 3) := by decide +kernel
theorem dX10_please_35 : decode cX10_please 35 = .ok (.aload_n 0, 1) := by decide +kernel
theorem dX10_please_36 : decode cX10_please 36 = .ok (.ldc 45, 2) := by decide +kernel
theorem dX10_please_38 : decode cX10_please 38 = .ok (.invokevirtual 75, 3) := by decide +kernel
theorem dX10_please_41 : decode cX10_please 41 = .ok (.ireturn, 1) := by decide +kernel
theorem dX10_please_42 : decode cX10_please 42 = .ok (.iload_n 2, 1) := by decide +kernel
theorem dX10_please_43 : decode cX10_please 43 = .ok (.iconst 1, 1) := by decide +kernel
theorem dX10_please_44 : decode cX10_please 44 = .ok (.invokestatic 41, 3) := by decide +kernel
theorem dX10_please_47 : decode cX10_please 47 = .ok (.istore 5, 2) := by decide +kernel
theorem dX10_please_49 : decode cX10_please 49 = .ok (.aload_n 0, 1) := by decide +kernel
theorem dX10_please_50 : decode cX10_please 50 = .ok (.getfield 7, 3) := by decide +kernel
theorem dX10_please_53 : decode cX10_please 53 = .ok (.iload 5, 2) := by decide +kernel
theorem dX10_please_55 : decode cX10_please 55 = .ok (.iaload, 1) := by decide +kernel
theorem dX10_please_56 : decode cX10_please 56 = .ok (.istore 6, 2) := by decide +kernel
theorem dX10_please_58 : decode cX10_please 58 = .ok (.bipush 51, 2) := by decide +kernel
theorem dX10_please_60 : decode cX10_please 60 = .ok (.istore 7, 2) := by decide +kernel
theorem dX10_please_62 : decode cX10_please 62 = .ok (.bipush (-50), 2) := by decide +kernel
theorem dX10_please_64 : decode cX10_please 64 = .ok (.istore 8, 2) := by decide +kernel
theorem dX10_please_66 : decode cX10_please 66 = .ok (.iload 8, 2) := by decide +kernel
theorem dX10_please_68 : decode cX10_please 68 = .ok (.bipush 50, 2) := by decide +kernel
theorem dX10_please_70 : decode cX10_please 70 = .ok (.if_icmp .gt 49, 3) := by decide +kernel
theorem dX10_please_73 : decode cX10_please 73 = .ok (.iload 7, 2) := by decide +kernel
theorem dX10_please_75 : decode cX10_please 75 = .ok (.bipush 50, 2) := by decide +kernel
theorem dX10_please_77 : decode cX10_please 77 = .ok (.if_icmp .le 42, 3) := by decide +kernel
theorem dX10_please_80 : decode cX10_please 80 = .ok (.aload_n 0, 1) := by decide +kernel
theorem dX10_please_81 : decode cX10_please 81 = .ok (.getfield 7, 3) := by decide +kernel
theorem dX10_please_84 : decode cX10_please 84 = .ok (.iload 5, 2) := by decide +kernel
theorem dX10_please_86 : decode cX10_please 86 = .ok (.iload 8, 2) := by decide +kernel
theorem dX10_please_88 : decode cX10_please 88 = .ok (.iastore, 1) := by decide +kernel
theorem dX10_please_89 : decode cX10_please 89 = .ok (.aload_n 0, 1) := by decide +kernel
theorem dX10_please_90 : decode cX10_please 90 = .ok (.iload_n 1, 1) := by decide +kernel
theorem dX10_please_91 : decode cX10_please 91 = .ok (.iconst 0, 1) := by decide +kernel
theorem dX10_please_92 : decode cX10_please 92 = .ok (.invokestatic 49, 3) := by decide +kernel
theorem dX10_please_95 : decode cX10_please 95 = .ok (.iload_n 3, 1) := by decide +kernel
theorem dX10_please_96 : decode cX10_please 96 = .ok (.invokevirtual 181, 3) := by decide +kernel
theorem dX10_please_99 : decode cX10_please 99 = .ok (.iload 4, 2) := by decide +kernel
theorem dX10_please_101 : decode cX10_please 101 = .ok (.if_icmp .lt 8, 3) := by decide +kernel
theorem dX10_please_104 : decode cX10_please 104 = .ok (.iload 8, 2) := by decide +kernel
theorem dX10_please_106 : decode cX10_please 106 = .ok (.goto 5, 3) := by decide +kernel
theorem dX10_please_109 : decode cX10_please 109 = .ok (.iload 7, 2) := by decide +kernel
theorem dX10_please_111 : decode cX10_please 111 = .ok (.istore 7, 2) := by decide +kernel
theorem dX10_please_113 : decode cX10_please 113 = .ok (.iinc 8 1, 3) := by decide +kernel
theorem dX10_please_116 : decode cX10_please 116 = .ok (.goto (-50), 3) := by decide +kernel
theorem dX10_please_119 : decode cX10_please 119 = .ok (.aload_n 0, 1) := by decide +kernel
theorem dX10_please_120 : decode cX10_please 120 = .ok (.getfield 7, 3) := by decide +kernel
theorem dX10_please_123 : decode cX10_please 123 = .ok (.iload 5, 2) := by decide +kernel
theorem dX10_please_125 : decode cX10_please 125 = .ok (.iload 6, 2) := by decide +kernel
theorem dX10_please_127 : decode cX10_please 127 = .ok (.iastore, 1) := by decide +kernel
theorem dX10_please_128 : decode cX10_please 128 = .ok (.iload 7, 2) := by decide +kernel
theorem dX10_please_130 : decode cX10_please 130 = .ok (.bipush 50, 2) := by decide +kernel
theorem dX10_please_132 : decode cX10_please 132 = .ok (.if_icmp .le 12, 3) := by decide +kernel
theorem dX10_please_135 : decode cX10_please 135 = .ok (.aload_n 0, 1) := by decide +kernel
theorem dX10_please_136 : decode cX10_please 136 = .ok (.ldc 187, 2) := by decide +kernel
theorem dX10_please_138 : decode cX10_please 138 = .ok (.invokevirtual 75, 3) := by decide +kernel
theorem dX10_please_141 : decode cX10_please 141 = .ok (.goto 5, 3) := by decide +kernel
theorem dX10_please_144 : decode cX10_please 144 = .ok (.iload 7, 2) := by decide +kernel
theorem dX10_please_146 : decode cX10_please 146 = .ok (.ireturn, 1) := by decide +kernel
theorem dX10_richest_0 : decode cX10_richest 0 = .ok (.iload_n 1, 1) := by decide +kernel
theorem dX10_richest_1 : decode cX10_richest 1 = .ok (.invokestatic 178, 3) := by decide +kernel
theorem dX10_richest_4 : decode cX10_richest 4 = .ok (.ifCond .ne 10, 3) := by decide +kernel
theorem dX10_richest_7 : decode cX10_richest 7 = .ok (.aload_n 0, 1) := by decide +kernel
theorem dX10_richest_8 : decode cX10_richest 8 = .ok (.ldc 45, 2) := by decide +kernel
theorem dX10_richest_10 : decode cX10_richest 10 = .ok (.invokevirtual 75, 3) := by decide +kernel
theorem dX10_richest_13 : decode cX10_richest 13 = .ok (.ireturn, 1) := by decide +kernel
theorem dX10_richest_14 : decode cX10_richest 14 = .ok (.aload_n 0, 1) := by decide +kernel
theorem dX10_richest_15 : decode cX10_richest 15 = .ok (.getfield 7, 3) := by decide +kernel
theorem dX10_richest_18 : decode cX10_richest 18 = .ok (.iconst 1, 1) := by decide +kernel
theorem dX10_richest_19 : decode cX10_richest 19 = .ok (.iaload, 1) := by decide +kernel
theorem dX10_richest_20 : decode cX10_richest 20 = .ok (.ifCond .ne 10, 3) := by decide +kernel
theorem dX10_richest_23 : decode cX10_richest 23 = .ok (.aload_n 0, 1) := by decide +kernel
theorem dX10_richest_24 : decode cX10_richest 24 = .ok (.ldc 187, 2) := by decide +kernel
theorem dX10_richest_26 : decode cX10_richest 26 = .ok (.invokevirtual 75, 3) := by decide +kernel
theorem dX10_richest_29 : decode cX10_richest 29 = .ok (.ireturn, 1) := by decide +kernel
theorem dX10_richest_30 : decode cX10_richest 30 = .ok (.aload_n 0, 1) := by decide +kernel
theorem dX10_richest_31 : decode cX10_richest 31 = .ok (.invokevirtual 172, 3) := by decide +kernel
theorem dX10_richest_34 : decode cX10_richest 34 = .ok (.aload_n 0, 1) := by decide +kernel
theorem dX10_richest_35 : decode cX10_richest 35 = .ok (.iload_n 1, 1) := by decide +kernel
theorem dX10_richest_36 : decode cX10_richest 36 = .ok (.invokevirtual 166, 3) := by decide +kernel
theorem dX10_richest_39 : decode cX10_richest 39 = .ok (.iconst 0, 1) := by decide +kernel
theorem dX10_richest_40 : decode cX10_richest 40 = .ok (.istore_n 2, 1) := by decide +kernel
theorem dX10_richest_41 : decode cX10_richest 41 = .ok (.iconst 1, 1) := by decide +kernel
theorem dX10_richest_42 : decode cX10_richest 42 = .ok (.istore_n 3, 1) := by decide +kernel
theorem dX10_richest_43 : decode cX10_richest 43 = .ok (.iload_n 3, 1) := by decide +kernel
theorem dX10_richest_44 : decode cX10_richest 44 = .ok (.aload_n 0, 1) := by decide +kernel
theorem dX10_richest_45 : decode cX10_richest 45 = .ok (.getfield 7, 3) := by decide +kernel
theorem dX10_richest_48 : decode cX10_richest 48 = .ok (.iconst 1, 1) := by decide +kernel
theorem dX10_richest_49 : decode cX10_richest 49 = .ok (.iaload, 1) := by decide +kernel
theorem dX10_richest_50 : decode cX10_richest 50 = .ok (.if_icmp .ge 30, 3) := by decide +kernel
theorem dX10_richest_53 : decode cX10_richest 53 = .ok (.aload_n 0, 1) := by decide +kernel
theorem dX10_richest_54 : decode cX10_richest 54 = .ok (.iload_n 3, 1) := by decide +kernel
theorem dX10_richest_55 : decode cX10_richest 55 = .ok (.iconst 2, 1) := by decide +kernel
theorem dX10_richest_56 : decode cX10_richest 56 = .ok (.invokevirtual 61, 3) := by decide +kernel
theorem dX10_richest_59 : decode cX10_richest 59 = .ok (.aload_n 0, 1) := by decide +kernel
theorem dX10_richest_60 : decode cX10_richest 60 = .ok (.iload_n 2, 1) := by decide +kernel
theorem dX10_richest_61 : decode cX10_richest 61 = .ok (.iconst 2, 1) := by decide +kernel
theorem dX10_richest_62 : decode cX10_richest 62 = .ok (.invokevirtual 61, 3) := by decide +kernel
theorem dX10_richest_65 : decode cX10_richest 65 = .ok (.if_icmp .le 7, 3) := by decide +kernel
theorem dX10_richest_68 : decode cX10_richest 68 = .ok (.iload_n 3, 1) := by decide +kernel
theorem dX10_richest_69 : decode cX10_richest 69 = .ok (.goto 4, 3) := by decide +kernel
theorem dX10_richest_72 : decode cX10_richest 72 = .ok (.iload_n 2, 1) := by decide +kernel
theorem dX10_richest_73 : decode cX10_richest 73 = .ok (.istore_n 2, 1) := by decide +kernel
theorem dX10_richest_74 : decode cX10_richest 74 = .ok (.iinc 3 1, 3) := by decide +kernel
theorem dX10_richest_77 : decode cX10_richest 77 = .ok (.goto (-34), 3) := by decide +kernel
theorem dX10_richest_80 : decode cX10_richest 80 = .ok (.aload_n 0, 1) := by decide +kernel
theorem dX10_richest_81 : decode cX10_richest 81 = .ok (.iload_n 2, 1) := by decide +kernel
theorem dX10_richest_82 : decode cX10_richest 82 = .ok (.invokevirtual 175, 3) := by decide +kernel
theorem dX10_richest_85 : decode cX10_richest 85 = .ok (.ireturn, 1) := by decide +kernel
theorem dX10_feed_0 : decode cX10_feed 0 = .ok (.iload_n 2, 1) := by decide +kernel
theorem dX10_feed_1 : decode cX10_feed 1 = .ok (.i2l, 1) := by decide +kernel
theorem dX10_feed_2 : decode cX10_feed 2 = .ok (.lconst 1, 1) := by decide +kernel
theorem dX10_feed_3 : decode cX10_feed 3 = .ok (.ldc2_w 203, 3) := by decide +kernel
theorem dX10_feed_6 : decode cX10_feed 6 = .ok (.invokestatic 54, 3) := by decide +kernel
theorem dX10_feed_9 : decode cX10_feed 9 = .ok (.ifCond .ne 10, 3) := by decide +kernel
theorem dX10_feed_12 : decode cX10_feed 12 = .ok (.aload_n 0, 1) := by decide +kernel
theorem dX10_feed_13 : decode cX10_feed 13 = .ok (.ldc 45, 2) := by decide +kernel
theorem dX10_feed_15 : decode cX10_feed 15 = .ok (.invokevirtual 75, 3) := by decide +kernel
theorem dX10_feed_18 : decode cX10_feed 18 = .ok (.ireturn, 1) := by decide +kernel
theorem dX10_feed_19 : decode cX10_feed 19 = .ok (.aload_n 0, 1) := by decide +kernel
theorem dX10_feed_20 : decode cX10_feed 20 = .ok (.getfield 205, 3) := by decide +kernel
theorem dX10_feed_23 : decode cX10_feed 23 = .ok (.iload_n 2, 1) := by decide +kernel
theorem dX10_feed_24 : decode cX10_feed 24 = .ok (.iadd, 1) := by decide +kernel
theorem dX10_feed_25 : decode cX10_feed 25 = .ok (.bipush 120, 2) := by decide +kernel
theorem dX10_feed_27 : decode cX10_feed 27 = .ok (.if_icmp .le 10, 3) := by decide +kernel
theorem dX10_feed_30 : decode cX10_feed 30 = .ok (.aload_n 0, 1) := by decide +kernel
theorem dX10_feed_31 : decode cX10_feed 31 = .ok (.ldc 110, 2) := by decide +kernel
theorem dX10_feed_33 : decode cX10_feed 33 = .ok (.invokevirtual 75, 3) := by decide +kernel
theorem dX10_feed_36 : decode cX10_feed 36 = .ok (.ireturn, 1) := by decide +kernel
theorem dX10_feed_37 : decode cX10_feed 37 = .ok (.iload_n 2, 1) := by decide +kernel
theorem dX10_feed_38 : decode cX10_feed 38 = .ok (.iconst 1, 1) := by decide +kernel
theorem dX10_feed_39 : decode cX10_feed 39 = .ok (.isub, 1) := by decide +kernel
theorem dX10_feed_40 : decode cX10_feed 40 = .ok (.istore_n 3, 1) := by decide +kernel
theorem dX10_feed_41 : decode cX10_feed 41 = .ok (.iload_n 3, 1) := by decide +kernel
theorem dX10_feed_42 : decode cX10_feed 42 = .ok (.ifCond .lt 38, 3) := by decide +kernel
theorem dX10_feed_45 : decode cX10_feed 45 = .ok (.aload_n 0, 1) := by decide +kernel
theorem dX10_feed_46 : decode cX10_feed 46 = .ok (.getfield 25, 3) := by decide +kernel
theorem dX10_feed_49 : decode cX10_feed 49 = .ok (.aload_n 0, 1) := by decide +kernel
theorem dX10_feed_50 : decode cX10_feed 50 = .ok (.getfield 205, 3) := by decide +kernel
theorem dX10_feed_53 : decode cX10_feed 53 = .ok (.iload_n 1, 1) := by decide +kernel
theorem dX10_feed_54 : decode cX10_feed 54 = .ok (.bipush 8, 2) := by decide +kernel
theorem dX10_feed_56 : decode cX10_feed 56 = .ok (.iload_n 3, 1) := by decide +kernel
theorem dX10_feed_57 : decode cX10_feed 57 = .ok (.imul, 1) := by decide +kernel
theorem dX10_feed_58 : decode cX10_feed 58 = .ok (.ishr, 1) := by decide +kernel
theorem dX10_feed_59 : decode cX10_feed 59 = .ok (.sipush 255, 3) := by decide +kernel
theorem dX10_feed_62 : decode cX10_feed 62 = .ok (.iand, 1) := by decide +kernel
theorem dX10_feed_63 : decode cX10_feed 63 = .ok (.iastore, 1) := by decide +kernel
theorem dX10_feed_64 : decode cX10_feed 64 = .ok (.aload_n 0, 1) := by decide +kernel
theorem dX10_feed_65 : decode cX10_feed 65 = .ok (.dup, 1) := by decide +kernel
theorem dX10_feed_66 : decode cX10_feed 66 = .ok (.getfield 205, 3) := by decide +kernel
theorem dX10_feed_69 : decode cX10_feed 69 = .ok (.iconst 1, 1) := by decide +kernel
theorem dX10_feed_70 : decode cX10_feed 70 = .ok (.iadd, 1) := by decide +kernel
theorem dX10_feed_71 : decode cX10_feed 71 = .ok (.putfield 205, 3) := by decide +kernel
theorem dX10_feed_74 : decode cX10_feed 74 = .ok (.iinc 3 (-1), 3) := by decide +kernel
theorem dX10_feed_77 : decode cX10_feed 77 = .ok (.goto (-36), 3) := by decide +kernel
theorem dX10_feed_80 : decode cX10_feed 80 = .ok (.aload_n 0, 1) := by decide +kernel
theorem dX10_feed_81 : decode cX10_feed 81 = .ok (.getfield 205, 3) := by decide +kernel
theorem dX10_feed_84 : decode cX10_feed 84 = .ok (.ireturn, 1) := by decide +kernel
theorem dX10_wipe_0 : decode cX10_wipe 0 = .ok (.aload_n 0, 1) := by decide +kernel
theorem dX10_wipe_1 : decode cX10_wipe 1 = .ok (.getfield 205, 3) := by decide +kernel
theorem dX10_wipe_4 : decode cX10_wipe 4 = .ok (.istore_n 1, 1) := by decide +kernel
theorem dX10_wipe_5 : decode cX10_wipe 5 = .ok (.aload_n 0, 1) := by decide +kernel
theorem dX10_wipe_6 : decode cX10_wipe 6 = .ok (.iconst 0, 1) := by decide +kernel
theorem dX10_wipe_7 : decode cX10_wipe 7 = .ok (.putfield 205, 3) := by decide +kernel
theorem dX10_wipe_10 : decode cX10_wipe 10 = .ok (.iload_n 1, 1) := by decide +kernel
theorem dX10_wipe_11 : decode cX10_wipe 11 = .ok (.ireturn, 1) := by decide +kernel
theorem dX10_byteAt_0 : decode cX10_byteAt 0 = .ok (.iload_n 1, 1) := by decide +kernel
theorem dX10_byteAt_1 : decode cX10_byteAt 1 = .ok (.aload_n 0, 1) := by decide +kernel
theorem dX10_byteAt_2 : decode cX10_byteAt 2 = .ok (.getfield 205, 3) := by decide +kernel
theorem dX10_byteAt_5 : decode cX10_byteAt 5 = .ok (.if_icmp .ge 12, 3) := by decide +kernel
theorem dX10_byteAt_8 : decode cX10_byteAt 8 = .ok (.aload_n 0, 1) := by decide +kernel
theorem dX10_byteAt_9 : decode cX10_byteAt 9 = .ok (.getfield 25, 3) := by decide +kernel
theorem dX10_byteAt_12 : decode cX10_byteAt 12 = .ok (.iload_n 1, 1) := by decide +kernel
theorem dX10_byteAt_13 : decode cX10_byteAt 13 = .ok (.iaload, 1) := by decide +kernel
theorem dX10_byteAt_14 : decode cX10_byteAt 14 = .ok (.goto 4, 3) := by decide +kernel
theorem dX10_byteAt_17 : decode cX10_byteAt 17 = .ok (.iconst (-1), 1) := by decide +kernel
theorem dX10_byteAt_18 : decode cX10_byteAt 18 = .ok (.ireturn, 1) := by decide +kernel
theorem dX10_isLetter_0 : decode cX10_isLetter 0 = .ok (.iload_n 0, 1) := by decide +kernel
theorem dX10_isLetter_1 : decode cX10_isLetter 1 = .ok (.i2l, 1) := by decide +kernel
theorem dX10_isLetter_2 : decode cX10_isLetter 2 = .ok (.ldc2_w 209, 3) := by decide +kernel
theorem dX10_isLetter_5 : decode cX10_isLetter 5 = .ok (.ldc2_w 211, 3) := by decide +kernel
theorem dX10_isLetter_8 : decode cX10_isLetter 8 = .ok (.invokestatic 54, 3) := by decide +kernel
theorem dX10_isLetter_11 : decode cX10_isLetter 11 = .ok (.ireturn, 1) := by decide +kernel
theorem dX10_isDigit_0 : decode cX10_isDigit 0 = .ok (.iload_n 0, 1) := by decide +kernel
theorem dX10_isDigit_1 : decode cX10_isDigit 1 = .ok (.i2l, 1) := by decide +kernel
theorem dX10_isDigit_2 : decode cX10_isDigit 2 = .ok (.ldc2_w 213, 3) := by decide +kernel
theorem dX10_isDigit_5 : decode cX10_isDigit 5 = .ok (.ldc2_w 215, 3) := by decide +kernel
theorem dX10_isDigit_8 : decode cX10_isDigit 8 = .ok (.invokestatic 54, 3) := by decide +kernel
theorem dX10_isDigit_11 : decode cX10_isDigit 11 = .ok (.ireturn, 1) := by decide +kernel
theorem dX10_token_0 : decode cX10_token 0 = .ok (.aload_n 0, 1) := by decide +kernel
theorem dX10_token_1 : decode cX10_token 1 = .ok (.aload_n 0, 1) := by decide +kernel
theorem dX10_token_2 : decode cX10_token 2 = .ok (.getfield 217, 3) := by decide +kernel
theorem dX10_token_5 : decode cX10_token 5 = .ok (.putfield 220, 3) := by decide +kernel
theorem dX10_token_8 : decode cX10_token 8 = .ok (.aload_n 0, 1) := by decide +kernel
theorem dX10_token_9 : decode cX10_token 9 = .ok (.aload_n 0, 1) := by decide +kernel
theorem dX10_token_10 : decode cX10_token 10 = .ok (.getfield 220, 3) := by decide +kernel
theorem dX10_token_13 : decode cX10_token 13 = .ok (.invokevirtual 223, 3) := by decide +kernel
theorem dX10_token_16 : decode cX10_token 16 = .ok (.bipush 32, 2) := by decide +kernel
theorem dX10_token_18 : decode cX10_token 18 = .ok (.if_icmp .ne 16, 3) := by decide +kernel
theorem dX10_token_21 : decode cX10_token 21 = .ok (.aload_n 0, 1) := by decide +kernel
theorem dX10_token_22 : decode cX10_token 22 = .ok (.dup, 1) := by decide +kernel
theorem dX10_token_23 : decode cX10_token 23 = .ok (.getfield 220, 3) := by decide +kernel
theorem dX10_token_26 : decode cX10_token 26 = .ok (.iconst 1, 1) := by decide +kernel
theorem dX10_token_27 : decode cX10_token 27 = .ok (.iadd, 1) := by decide +kernel
theorem dX10_token_28 : decode cX10_token 28 = .ok (.putfield 220, 3) := by decide +kernel
theorem dX10_token_31 : decode cX10_token 31 = .ok (.goto (-23), 3) := by decide +kernel
theorem dX10_token_34 : decode cX10_token 34 = .ok (.aload_n 0, 1) := by decide +kernel
theorem dX10_token_35 : decode cX10_token 35 = .ok (.aload_n 0, 1) := by decide +kernel
theorem dX10_token_36 : decode cX10_token 36 = .ok (.getfield 220, 3) := by decide +kernel
theorem dX10_token_39 : decode cX10_token 39 = .ok (.invokevirtual 223, 3) := by decide +kernel
theorem dX10_token_42 : decode cX10_token 42 = .ok (.invokestatic 226, 3) := by decide +kernel
theorem dX10_token_45 : decode cX10_token 45 = .ok (.istore_n 1, 1) := by decide +kernel
theorem dX10_token_46 : decode cX10_token 46 = .ok (.aload_n 0, 1) := by decide +kernel
theorem dX10_token_47 : decode cX10_token 47 = .ok (.aload_n 0, 1) := by decide +kernel
theorem dX10_token_48 : decode cX10_token 48 = .ok (.getfield 220, 3) := by decide +kernel
theorem dX10_token_51 : decode cX10_token 51 = .ok (.invokevirtual 223, 3) := by decide +kernel
theorem dX10_token_54 : decode cX10_token 54 = .ok (.invokestatic 229, 3) := by decide +kernel
theorem dX10_token_57 : decode cX10_token 57 = .ok (.istore_n 2, 1) := by decide +kernel
theorem dX10_token_58 : decode cX10_token 58 = .ok (.aload_n 0, 1) := by decide +kernel
theorem dX10_token_59 : decode cX10_token 59 = .ok (.aload_n 0, 1) := by decide +kernel
theorem dX10_token_60 : decode cX10_token 60 = .ok (.getfield 220, 3) := by decide +kernel
theorem dX10_token_63 : decode cX10_token 63 = .ok (.aload_n 0, 1) := by decide +kernel
theorem dX10_token_64 : decode cX10_token 64 = .ok (.getfield 205, 3) := by decide +kernel
theorem dX10_token_67 : decode cX10_token 67 = .ok (.if_icmp .ge 12, 3) := by decide +kernel
theorem dX10_token_70 : decode cX10_token 70 = .ok (.aload_n 0, 1) := by decide +kernel
theorem dX10_token_71 : decode cX10_token 71 = .ok (.getfield 220, 3) := by decide +kernel
theorem dX10_token_74 : decode cX10_token 74 = .ok (.iconst 1, 1) := by decide +kernel
theorem dX10_token_75 : decode cX10_token 75 = .ok (.iadd, 1) := by decide +kernel
theorem dX10_token_76 : decode cX10_token 76 = .ok (.goto 7, 3) := by decide +kernel
theorem dX10_token_79 : decode cX10_token 79 = .ok (.aload_n 0, 1) := by decide +kernel
theorem dX10_token_80 : decode cX10_token 80 = .ok (.getfield 220, 3) := by decide +kernel
theorem dX10_token_83 : decode cX10_token 83 = .ok (.putfield 217, 3) := by decide +kernel
theorem dX10_token_86 : decode cX10_token 86 = .ok (.iload_n 1, 1) := by decide +kernel
theorem dX10_token_87 : decode cX10_token 87 = .ok (.ifCond .eq 17, 3) := by decide +kernel
theorem dX10_token_90 : decode cX10_token 90 = .ok (.aload_n 0, 1) := by decide +kernel
theorem dX10_token_91 : decode cX10_token 91 = .ok (.aload_n 0, 1) := by decide +kernel
theorem dX10_token_92 : decode cX10_token 92 = .ok (.getfield 217, 3) := by decide +kernel
theorem dX10_token_95 : decode cX10_token 95 = .ok (.invokevirtual 223, 3) := by decide +kernel
theorem dX10_token_98 : decode cX10_token 98 = .ok (.invokestatic 226, 3) := by decide +kernel
theorem dX10_token_101 : decode cX10_token 101 = .ok (.ifCond .ne 21, 3) := by decide +kernel
theorem dX10_token_104 : decode cX10_token 104 = .ok (.iload_n 2, 1) := by decide +kernel
theorem dX10_token_105 : decode cX10_token 105 = .ok (.ifCond .eq 30, 3) := by decide +kernel
theorem dX10_token_108 : decode cX10_token 108 = .ok (.aload_n 0, 1) := by decide +kernel
theorem dX10_token_109 : decode cX10_token 109 = .ok (.aload_n 0, 1) := by decide +kernel
theorem dX10_token_110 : decode cX10_token 110 = .ok (.getfield 217, 3) := by decide +kernel
theorem dX10_token_113 : decode cX10_token 113 = .ok (.invokevirtual 223, 3) := by decide +kernel
theorem dX10_token_116 : decode cX10_token 116 = .ok (.invokestatic 229, 3) := by decide +kernel
theorem dX10_token_119 : decode cX10_token 119 = .ok (.ifCond .eq 16, 3) := by decide +kernel
theorem dX10_token_122 : decode cX10_token 122 = .ok (.aload_n 0, 1) := by decide +kernel
theorem dX10_token_123 : decode cX10_token 123 = .ok (.dup, 1) := by decide +kernel
theorem dX10_token_124 : decode cX10_token 124 = .ok (.getfield 217, 3) := by decide +kernel
theorem dX10_token_127 : decode cX10_token 127 = .ok (.iconst 1, 1) := by decide +kernel
theorem dX10_token_128 : decode cX10_token 128 = .ok (.iadd, 1) := by decide +kernel
theorem dX10_token_129 : decode cX10_token 129 = .ok (.putfield 217, 3) := by decide +kernel
theorem dX10_token_132 : decode cX10_token 132 = .ok (.goto (-46), 3) := by decide +kernel
theorem dX10_token_135 : decode cX10_token 135 = .ok (.return_, 1) := by decide +kernel
theorem dX10_must_0 : decode cX10_must 0 = .ok (.aload_n 0, 1) := by decide +kernel
theorem dX10_must_1 : decode cX10_must 1 = .ok (.aload_n 0, 1) := by decide +kernel
theorem dX10_must_2 : decode cX10_must 2 = .ok (.getfield 232, 3) := by decide +kernel
theorem dX10_must_5 : decode cX10_must 5 = .ok (.ifCond .ne 7, 3) := by decide +kernel
theorem dX10_must_8 : decode cX10_must 8 = .ok (.iload_n 1, 1) := by decide +kernel
theorem dX10_must_9 : decode cX10_must 9 = .ok (.ifCond .ne 7, 3) := by decide +kernel
theorem dX10_must_12 : decode cX10_must 12 = .ok (.iconst 1, 1) := by decide +kernel
theorem dX10_must_13 : decode cX10_must 13 = .ok (.goto 4, 3) := by decide +kernel
theorem dX10_must_16 : decode cX10_must 16 = .ok (.iconst 0, 1) := by decide +kernel
theorem dX10_must_17 : decode cX10_must 17 = .ok (.putfield 232, 3) := by decide +kernel
theorem dX10_must_20 : decode cX10_must 20 = .ok (.aload_n 0, 1) := by decide +kernel
theorem dX10_must_21 : decode cX10_must 21 = .ok (.getfield 232, 3) := by decide +kernel
theorem dX10_must_24 : decode cX10_must 24 = .ok (.ifCond .ne 7, 3) := by decide +kernel
theorem dX10_must_27 : decode cX10_must 27 = .ok (.aload_n 0, 1) := by decide +kernel
theorem dX10_must_28 : decode cX10_must 28 = .ok (.invokevirtual 236, 3) := by decide +kernel
theorem dX10_must_31 : decode cX10_must 31 = .ok (.return_, 1) := by decide +kernel
theorem dX10_word_0 : decode cX10_word 0 = .ok (.lconst 0, 1) := by decide +kernel
theorem dX10_word_1 : decode cX10_word 1 = .ok (.lstore_n 1, 1) := by decide +kernel
theorem dX10_word_2 : decode cX10_word 2 = .ok (.aload_n 0, 1) := by decide +kernel
theorem dX10_word_3 : decode cX10_word 3 = .ok (.getfield 220, 3) := by decide +kernel
theorem dX10_word_6 : decode cX10_word 6 = .ok (.istore_n 3, 1) := by decide +kernel
theorem dX10_word_7 : decode cX10_word 7 = .ok (.iload_n 3, 1) := by decide +kernel
theorem dX10_word_8 : decode cX10_word 8 = .ok (.aload_n 0, 1) := by decide +kernel
theorem dX10_word_9 : decode cX10_word 9 = .ok (.getfield 217, 3) := by decide +kernel
theorem dX10_word_12 : decode cX10_word 12 = .ok (.if_icmp .ge 38, 3) := by decide +kernel
theorem dX10_word_15 : decode cX10_word 15 = .ok (.lload_n 1, 1) := by decide +kernel
theorem dX10_word_16 : decode cX10_word 16 = .ok (.ldc2_w 239, 3) := by decide +kernel
theorem dX10_word_19 : decode cX10_word 19 = .ok (.lcmp, 1) := by decide +kernel
theorem dX10_word_20 : decode cX10_word 20 = .ok (.ifCond .le 7, 3) := by decide +kernel
theorem dX10_word_23 : decode cX10_word 23 = .ok (.lload_n 1, 1) := by decide +kernel
theorem dX10_word_24 : decode cX10_word 24 = .ok (.goto 19, 3) := by decide +kernel
theorem dX10_word_27 : decode cX10_word 27 = .ok (.ldc2_w 241, 3) := by decide +kernel
theorem dX10_word_30 : decode cX10_word 30 = .ok (.lload_n 1, 1) := by decide +kernel
theorem dX10_word_31 : decode cX10_word 31 = .ok (.lmul, 1) := by decide +kernel
theorem dX10_word_32 : decode cX10_word 32 = .ok (.aload_n 0, 1) := by decide +kernel
theorem dX10_word_33 : decode cX10_word 33 = .ok (.getfield 25, 3) := by decide +kernel
theorem dX10_word_36 : decode cX10_word 36 = .ok (.iload_n 3, 1) := by decide +kernel
theorem dX10_word_37 : decode cX10_word 37 = .ok (.iaload, 1) := by decide +kernel
theorem dX10_word_38 : decode cX10_word 38 = .ok (.bipush 96, 2) := by decide +kernel
theorem dX10_word_40 : decode cX10_word 40 = .ok (.isub, 1) := by decide +kernel
theorem dX10_word_41 : decode cX10_word 41 = .ok (.i2l, 1) := by decide +kernel
theorem dX10_word_42 : decode cX10_word 42 = .ok (.ladd, 1) := by decide +kernel
theorem dX10_word_43 : decode cX10_word 43 = .ok (.lstore_n 1, 1) := by decide +kernel
theorem dX10_word_44 : decode cX10_word 44 = .ok (.iinc 3 1, 3) := by decide +kernel
theorem dX10_word_47 : decode cX10_word 47 = .ok (.goto (-40), 3) := by decide +kernel
theorem dX10_word_50 : decode cX10_word 50 = .ok (.aload_n 0, 1) := by decide +kernel
theorem dX10_word_51 : decode cX10_word 51 = .ok (.getfield 232, 3) := by decide +kernel
theorem dX10_word_54 : decode cX10_word 54 = .ok (.ifCond .ne 17, 3) := by decide +kernel
theorem dX10_word_57 : decode cX10_word 57 = .ok (.aload_n 0, 1) := by decide +kernel
theorem dX10_word_58 : decode cX10_word 58 = .ok (.aload_n 0, 1) := by decide +kernel
theorem dX10_word_59 : decode cX10_word 59 = .ok (.getfield 220, 3) := by decide +kernel
theorem dX10_word_62 : decode cX10_word 62 = .ok (.invokevirtual 223, 3) := by decide +kernel
theorem dX10_word_65 : decode cX10_word 65 = .ok (.invokestatic 226, 3) := by decide +kernel
theorem dX10_word_68 : decode cX10_word 68 = .ok (.ifCond .ne 7, 3) := by decide +kernel
theorem dX10_word_71 : decode cX10_word 71 = .ok (.lconst 0, 1) := by decide +kernel
theorem dX10_word_72 : decode cX10_word 72 = .ok (.goto 4, 3) := by decide +kernel
theorem dX10_word_75 : decode cX10_word 75 = .ok (.lload_n 1, 1) := by decide +kernel
theorem dX10_word_76 : decode cX10_word 76 = .ok (.lreturn, 1) := by decide +kernel
theorem dX10_number_0 : decode cX10_number 0 = .ok (.aload_n 0, 1) := by decide +kernel
theorem dX10_number_1 : decode cX10_number 1 = .ok (.getfield 232, 3) := by decide +kernel
theorem dX10_number_4 : decode cX10_number 4 = .ok (.ifCond .eq 4, 3) := by decide +kernel
theorem dX10_number_7 : decode cX10_number 7 = .ok (.return_, 1) := by decide +kernel
theorem dX10_number_8 : decode cX10_number 8 = .ok (.aload_n 0, 1) := by decide +kernel
theorem dX10_number_9 : decode cX10_number 9 = .ok (.aload_n 0, 1) := by decide +kernel
theorem dX10_number_10 : decode cX10_number 10 = .ok (.getfield 220, 3) := by decide +kernel
theorem dX10_number_13 : decode cX10_number 13 = .ok (.invokevirtual 223, 3) := by decide +kernel
theorem dX10_number_16 : decode cX10_number 16 = .ok (.invokestatic 229, 3) := by decide +kernel
theorem dX10_number_19 : decode cX10_number 19 = .ok (.istore_n 3, 1) := by decide +kernel
theorem dX10_number_20 : decode cX10_number 20 = .ok (.iconst 0, 1) := by decide +kernel
theorem dX10_number_21 : decode cX10_number 21 = .ok (.istore 4, 2) := by decide +kernel
theorem dX10_number_23 : decode cX10_number 23 = .ok (.aload_n 0, 1) := by decide +kernel
theorem dX10_number_24 : decode cX10_number 24 = .ok (.getfield 220, 3) := by decide +kernel
theorem dX10_number_27 : decode cX10_number 27 = .ok (.istore 5, 2) := by decide +kernel
theorem dX10_number_29 : decode cX10_number 29 = .ok (.iload 5, 2) := by decide +kernel
theorem dX10_number_31 : decode cX10_number 31 = .ok (.aload_n 0, 1) := by decide +kernel
theorem dX10_number_32 : decode cX10_number 32 = .ok (.getfield 217, 3) := by decide +kernel
theorem dX10_number_35 : decode cX10_number 35 = .ok (.if_icmp .ge 44, 3) := by decide +kernel
theorem dX10_number_38 : decode cX10_number 38 = .ok (.iload_n 3, 1) := by decide +kernel
theorem dX10_number_39 : decode cX10_number 39 = .ok (.ifCond .eq 40, 3) := by decide +kernel
theorem dX10_number_42 : decode cX10_number 42 = .ok (.iload 4, 2) := by decide +kernel
theorem dX10_number_44 : decode cX10_number 44 = .ok (.sipush 9999, 3) := by decide +kernel
theorem dX10_number_47 : decode cX10_number 47 = .ok (.if_icmp .le 8, 3) := by decide +kernel
theorem dX10_number_50 : decode cX10_number 50 = .ok (.iload 4, 2) := by decide +kernel
theorem dX10_number_52 : decode cX10_number 52 = .ok (.goto 19, 3) := by decide +kernel
theorem dX10_number_55 : decode cX10_number 55 = .ok (.bipush 10, 2) := by decide +kernel
theorem dX10_number_57 : decode cX10_number 57 = .ok (.iload 4, 2) := by decide +kernel
theorem dX10_number_59 : decode cX10_number 59 = .ok (.imul, 1) := by decide +kernel
theorem dX10_number_60 : decode cX10_number 60 = .ok (.aload_n 0, 1) := by decide +kernel
theorem dX10_number_61 : decode cX10_number 61 = .ok (.getfield 25, 3) := by decide +kernel
theorem dX10_number_64 : decode cX10_number 64 = .ok (.iload 5, 2) := by decide +kernel
theorem dX10_number_66 : decode cX10_number 66 = .ok (.iaload, 1) := by decide +kernel
theorem dX10_number_67 : decode cX10_number 67 = .ok (.iadd, 1) := by decide +kernel
theorem dX10_number_68 : decode cX10_number 68 = .ok (.bipush 48, 2) := by decide +kernel
theorem dX10_number_70 : decode cX10_number 70 = .ok (.isub, 1) := by decide +kernel
theorem dX10_number_71 : decode cX10_number 71 = .ok (.istore 4, 2) := by decide +kernel
theorem dX10_number_73 : decode cX10_number 73 = .ok (.iinc 5 1, 3) := by decide +kernel
theorem dX10_number_76 : decode cX10_number 76 = .ok (.goto (-47), 3) := by decide +kernel
theorem dX10_number_79 : decode cX10_number 79 = .ok (.aload_n 0, 1) := by decide +kernel
theorem dX10_number_80 : decode cX10_number 80 = .ok (.iload 4, 2) := by decide +kernel
theorem dX10_number_82 : decode cX10_number 82 = .ok (.putfield 243, 3) := by decide +kernel
theorem dX10_number_85 : decode cX10_number 85 = .ok (.aload_n 0, 1) := by decide +kernel
theorem dX10_number_86 : decode cX10_number 86 = .ok (.iload_n 3, 1) := by decide +kernel
theorem dX10_number_87 : decode cX10_number 87 = .ok (.ifCond .eq 20, 3) := by decide +kernel
theorem dX10_number_90 : decode cX10_number 90 = .ok (.iload 4, 2) := by decide +kernel
theorem dX10_number_92 : decode cX10_number 92 = .ok (.i2l, 1) := by decide +kernel
theorem dX10_number_93 : decode cX10_number 93 = .ok (.iload_n 1, 1) := by decide +kernel
theorem dX10_number_94 : decode cX10_number 94 = .ok (.i2l, 1) := by decide +kernel
theorem dX10_number_95 : decode cX10_number 95 = .ok (.iload_n 2, 1) := by decide +kernel
theorem dX10_number_96 : decode cX10_number 96 = .ok (.i2l, 1) := by decide +kernel
theorem dX10_number_97 : decode cX10_number 97 = .ok (.invokestatic 54, 3) := by decide +kernel
theorem dX10_number_100 : decode cX10_number 100 = .ok (.ifCond .eq 7, 3) := by decide +kernel
theorem dX10_number_103 : decode cX10_number 103 = .ok (.iconst 1, 1) := by decide +kernel
theorem dX10_number_104 : decode cX10_number 104 = .ok (.goto 4, 3) := by decide +kernel
theorem dX10_number_107 : decode cX10_number 107 = .ok (.iconst 0, 1) := by decide +kernel
theorem dX10_number_108 : decode cX10_number 108 = .ok (.invokevirtual 246, 3) := by decide +kernel
theorem dX10_number_111 : decode cX10_number 111 = .ok (.return_, 1) := by decide +kernel
theorem dX10_kindHere_0 : decode cX10_kindHere 0 = .ok (.aload_n 0, 1) := by decide +kernel
theorem dX10_kindHere_1 : decode cX10_kindHere 1 = .ok (.invokevirtual 250, 3) := by decide +kernel
theorem dX10_kindHere_4 : decode cX10_kindHere 4 = .ok (.lstore_n 1, 1) := by decide +kernel
theorem dX10_kindHere_5 : decode cX10_kindHere 5 = .ok (.lload_n 1, 1) := by decide +kernel
theorem dX10_kindHere_6 : decode cX10_kindHere 6 = .ok (.ldc2_w 254, 3) := by decide +kernel
theorem dX10_kindHere_9 : decode cX10_kindHere 9 = .ok (.lcmp, 1) := by decide +kernel
theorem dX10_kindHere_10 : decode cX10_kindHere 10 = .ok (.ifCond .ne 7, 3) := by decide +kernel
theorem dX10_kindHere_13 : decode cX10_kindHere 13 = .ok (.iconst 0, 1) := by decide +kernel
theorem dX10_kindHere_14 : decode cX10_kindHere 14 = .ok (.goto 64, 3) := by decide +kernel
theorem dX10_kindHere_17 : decode cX10_kindHere 17 = .ok (.lload_n 1, 1) := by decide +kernel
theorem dX10_kindHere_18 : decode cX10_kindHere 18 = .ok (.ldc2_w 256, 3) := by decide +kernel
theorem dX10_kindHere_21 : decode cX10_kindHere 21 = .ok (.lcmp, 1) := by decide +kernel
theorem dX10_kindHere_22 : decode cX10_kindHere 22 = .ok (.ifCond .ne 7, 3) := by decide +kernel
theorem dX10_kindHere_25 : decode cX10_kindHere 25 = .ok (.iconst 1, 1) := by decide +kernel
theorem dX10_kindHere_26 : decode cX10_kindHere 26 = .ok (.goto 52, 3) := by decide +kernel
theorem dX10_kindHere_29 : decode cX10_kindHere 29 = .ok (.lload_n 1, 1) := by decide +kernel
theorem dX10_kindHere_30 : decode cX10_kindHere 30 = .ok (.ldc2_w 258, 3) := by decide +kernel
theorem dX10_kindHere_33 : decode cX10_kindHere 33 = .ok (.lcmp, 1) := by decide +kernel
theorem dX10_kindHere_34 : decode cX10_kindHere 34 = .ok (.ifCond .ne 7, 3) := by decide +kernel
theorem dX10_kindHere_37 : decode cX10_kindHere 37 = .ok (.iconst 2, 1) := by decide +kernel
theorem dX10_kindHere_38 : decode cX10_kindHere 38 = .ok (.goto 40, 3) := by decide +kernel
theorem dX10_kindHere_41 : decode cX10_kindHere 41 = .ok (.lload_n 1, 1) := by decide +kernel
theorem dX10_kindHere_42 : decode cX10_kindHere 42 = .ok (.ldc2_w 260, 3) := by decide +kernel
theorem dX10_kindHere_45 : decode cX10_kindHere 45 = .ok (.lcmp, 1) := by decide +kernel
theorem dX10_kindHere_46 : decode cX10_kindHere 46 = .ok (.ifCond .ne 7, 3) := by decide +kernel
theorem dX10_kindHere_49 : decode cX10_kindHere 49 = .ok (.iconst 3, 1) := by decide +kernel
theorem dX10_kindHere_50 : decode cX10_kindHere 50 = .ok (.goto 28, 3) := by decide +kernel
theorem dX10_kindHere_53 : decode cX10_kindHere 53 = .ok (.lload_n 1, 1) := by decide +kernel
theorem dX10_kindHere_54 : decode cX10_kindHere 54 = .ok (.ldc2_w 262, 3) := by decide +kernel
theorem dX10_kindHere_57 : decode cX10_kindHere 57 = .ok (.lcmp, 1) := by decide +kernel
theorem dX10_kindHere_58 : decode cX10_kindHere 58 = .ok (.ifCond .ne 7, 3) := by decide +kernel
theorem dX10_kindHere_61 : decode cX10_kindHere 61 = .ok (.iconst 4, 1) := by decide +kernel
theorem dX10_kindHere_62 : decode cX10_kindHere 62 = .ok (.goto 16, 3) := by decide +kernel
theorem dX10_kindHere_65 : decode cX10_kindHere 65 = .ok (.lload_n 1, 1) := by decide +kernel
theorem dX10_kindHere_66 : decode cX10_kindHere 66 = .ok (.ldc2_w 264, 3) := by decide +kernel
theorem dX10_kindHere_69 : decode cX10_kindHere 69 = .ok (.lcmp, 1) := by decide +kernel
theorem dX10_kindHere_70 : decode cX10_kindHere 70 = .ok (.ifCond .ne 7, 3) := by decide +kernel
theorem dX10_kindHere_73 : decode cX10_kindHere 73 = .ok (.iconst 5, 1) := by decide +kernel
theorem dX10_kindHere_74 : decode cX10_kindHere 74 = .ok (.goto 4, 3) := by decide +kernel
theorem dX10_kindHere_77 : decode cX10_kindHere 77 = .ok (.iconst (-1), 1) := by decide +kernel
theorem dX10_kindHere_78 : decode cX10_kindHere 78 = .ok (.ireturn, 1) := by decide +kernel
theorem dX10_partItem_0 : decode cX10_partItem 0 = .ok (.aload_n 0, 1) := by decide +kernel
theorem dX10_partItem_1 : decode cX10_partItem 1 = .ok (.invokevirtual 250, 3) := by decide +kernel
theorem dX10_partItem_4 : decode cX10_partItem 4 = .ok (.lload_n 1, 1) := by decide +kernel
theorem dX10_partItem_5 : decode cX10_partItem 5 = .ok (.lcmp, 1) := by decide +kernel
theorem dX10_partItem_6 : decode cX10_partItem 6 = .ok (.ifCond .ne 41, 3) := by decide +kernel
theorem dX10_partItem_9 : decode cX10_partItem 9 = .ok (.aload_n 0, 1) := by decide +kernel
theorem dX10_partItem_10 : decode cX10_partItem 10 = .ok (.iconst 1, 1) := by decide +kernel
theorem dX10_partItem_11 : decode cX10_partItem 11 = .ok (.invokevirtual 246, 3) := by decide +kernel
theorem dX10_partItem_14 : decode cX10_partItem 14 = .ok (.aload_n 0, 1) := by decide +kernel
theorem dX10_partItem_15 : decode cX10_partItem 15 = .ok (.iconst 0, 1) := by decide +kernel
theorem dX10_partItem_16 : decode cX10_partItem 16 = .ok (.iload 4, 2) := by decide +kernel
theorem dX10_partItem_18 : decode cX10_partItem 18 = .ok (.invokevirtual 266, 3) := by decide +kernel
theorem dX10_partItem_21 : decode cX10_partItem 21 = .ok (.aload_n 0, 1) := by decide +kernel
theorem dX10_partItem_22 : decode cX10_partItem 22 = .ok (.getfield 7, 3) := by decide +kernel
theorem dX10_partItem_25 : decode cX10_partItem 25 = .ok (.iload_n 3, 1) := by decide +kernel
theorem dX10_partItem_26 : decode cX10_partItem 26 = .ok (.aload_n 0, 1) := by decide +kernel
theorem dX10_partItem_27 : decode cX10_partItem 27 = .ok (.getfield 232, 3) := by decide +kernel
theorem dX10_partItem_30 : decode cX10_partItem 30 = .ok (.ifCond .eq 12, 3) := by decide +kernel
theorem dX10_partItem_33 : decode cX10_partItem 33 = .ok (.aload_n 0, 1) := by decide +kernel
theorem dX10_partItem_34 : decode cX10_partItem 34 = .ok (.getfield 7, 3) := by decide +kernel
theorem dX10_partItem_37 : decode cX10_partItem 37 = .ok (.iload_n 3, 1) := by decide +kernel
theorem dX10_partItem_38 : decode cX10_partItem 38 = .ok (.iaload, 1) := by decide +kernel
theorem dX10_partItem_39 : decode cX10_partItem 39 = .ok (.goto 7, 3) := by decide +kernel
theorem dX10_partItem_42 : decode cX10_partItem 42 = .ok (.aload_n 0, 1) := by decide +kernel
theorem dX10_partItem_43 : decode cX10_partItem 43 = .ok (.getfield 243, 3) := by decide +kernel
theorem dX10_partItem_46 : decode cX10_partItem 46 = .ok (.iastore, 1) := by decide +kernel
theorem dX10_partItem_47 : decode cX10_partItem 47 = .ok (.return_, 1) := by decide +kernel
theorem dX10_beardItem_0 : decode cX10_beardItem 0 = .ok (.aload_n 0, 1) := by decide +kernel
theorem dX10_beardItem_1 : decode cX10_beardItem 1 = .ok (.aload_n 0, 1) := by decide +kernel
theorem dX10_beardItem_2 : decode cX10_beardItem 2 = .ok (.getfield 7, 3) := by decide +kernel
theorem dX10_beardItem_5 : decode cX10_beardItem 5 = .ok (.iconst 1, 1) := by decide +kernel
theorem dX10_beardItem_6 : decode cX10_beardItem 6 = .ok (.iaload, 1) := by decide +kernel
theorem dX10_beardItem_7 : decode cX10_beardItem 7 = .ok (.bipush 8, 2) := by decide +kernel
theorem dX10_beardItem_9 : decode cX10_beardItem 9 = .ok (.if_icmp .ge 7, 3) := by decide +kernel
theorem dX10_beardItem_12 : decode cX10_beardItem 12 = .ok (.iconst 1, 1) := by decide +kernel
theorem dX10_beardItem_13 : decode cX10_beardItem 13 = .ok (.goto 4, 3) := by decide +kernel
theorem dX10_beardItem_16 : decode cX10_beardItem 16 = .ok (.iconst 0, 1) := by decide +kernel
theorem dX10_beardItem_17 : decode cX10_beardItem 17 = .ok (.invokevirtual 246, 3) := by decide +kernel
theorem dX10_beardItem_20 : decode cX10_beardItem 20 = .ok (.aload_n 0, 1) := by decide +kernel
theorem dX10_beardItem_21 : decode cX10_beardItem 21 = .ok (.getfield 232, 3) := by decide +kernel
theorem dX10_beardItem_24 : decode cX10_beardItem 24 = .ok (.ifCond .eq 4, 3) := by decide +kernel
theorem dX10_beardItem_27 : decode cX10_beardItem 27 = .ok (.return_, 1) := by decide +kernel
theorem dX10_beardItem_28 : decode cX10_beardItem 28 = .ok (.aload_n 0, 1) := by decide +kernel
theorem dX10_beardItem_29 : decode cX10_beardItem 29 = .ok (.iload_n 1, 1) := by decide +kernel
theorem dX10_beardItem_30 : decode cX10_beardItem 30 = .ok (.invokevirtual 111, 3) := by decide +kernel
theorem dX10_beardItem_33 : decode cX10_beardItem 33 = .ok (.istore_n 2, 1) := by decide +kernel
theorem dX10_beardItem_34 : decode cX10_beardItem 34 = .ok (.aload_n 0, 1) := by decide +kernel
theorem dX10_beardItem_35 : decode cX10_beardItem 35 = .ok (.ldc2_w 269, 3) := by decide +kernel
theorem dX10_beardItem_38 : decode cX10_beardItem 38 = .ok (.iload_n 2, 1) := by decide +kernel
theorem dX10_beardItem_39 : decode cX10_beardItem 39 = .ok (.iconst 1, 1) := by decide +kernel
theorem dX10_beardItem_40 : decode cX10_beardItem 40 = .ok (.invokestatic 46, 3) := by decide +kernel
theorem dX10_beardItem_43 : decode cX10_beardItem 43 = .ok (.bipush 99, 2) := by decide +kernel
theorem dX10_beardItem_45 : decode cX10_beardItem 45 = .ok (.invokevirtual 271, 3) := by decide +kernel
theorem dX10_beardItem_48 : decode cX10_beardItem 48 = .ok (.aload_n 0, 1) := by decide +kernel
theorem dX10_beardItem_49 : decode cX10_beardItem 49 = .ok (.ldc2_w 275, 3) := by decide +kernel
theorem dX10_beardItem_52 : decode cX10_beardItem 52 = .ok (.iload_n 2, 1) := by decide +kernel
theorem dX10_beardItem_53 : decode cX10_beardItem 53 = .ok (.iconst 2, 1) := by decide +kernel
theorem dX10_beardItem_54 : decode cX10_beardItem 54 = .ok (.invokestatic 46, 3) := by decide +kernel
theorem dX10_beardItem_57 : decode cX10_beardItem 57 = .ok (.sipush 999, 3) := by decide +kernel
theorem dX10_beardItem_60 : decode cX10_beardItem 60 = .ok (.invokevirtual 271, 3) := by decide +kernel
theorem dX10_beardItem_63 : decode cX10_beardItem 63 = .ok (.return_, 1) := by decide +kernel
theorem dX10_wearerItem_0 : decode cX10_wearerItem 0 = .ok (.aload_n 0, 1) := by decide +kernel
theorem dX10_wearerItem_1 : decode cX10_wearerItem 1 = .ok (.aload_n 0, 1) := by decide +kernel
theorem dX10_wearerItem_2 : decode cX10_wearerItem 2 = .ok (.getfield 7, 3) := by decide +kernel
theorem dX10_wearerItem_5 : decode cX10_wearerItem 5 = .ok (.iconst 2, 1) := by decide +kernel
theorem dX10_wearerItem_6 : decode cX10_wearerItem 6 = .ok (.iaload, 1) := by decide +kernel
theorem dX10_wearerItem_7 : decode cX10_wearerItem 7 = .ok (.bipush 6, 2) := by decide +kernel
theorem dX10_wearerItem_9 : decode cX10_wearerItem 9 = .ok (.if_icmp .ge 7, 3) := by decide +kernel
theorem dX10_wearerItem_12 : decode cX10_wearerItem 12 = .ok (.iconst 1, 1) := by decide +kernel
theorem dX10_wearerItem_13 : decode cX10_wearerItem 13 = .ok (.goto 4, 3) := by decide +kernel
theorem dX10_wearerItem_16 : decode cX10_wearerItem 16 = .ok (.iconst 0, 1) := by decide +kernel
theorem dX10_wearerItem_17 : decode cX10_wearerItem 17 = .ok (.invokevirtual 246, 3) := by decide +kernel
theorem dX10_wearerItem_20 : decode cX10_wearerItem 20 = .ok (.aload_n 0, 1) := by decide +kernel
theorem dX10_wearerItem_21 : decode cX10_wearerItem 21 = .ok (.iconst 0, 1) := by decide +kernel
theorem dX10_wearerItem_22 : decode cX10_wearerItem 22 = .ok (.sipush 9999, 3) := by decide +kernel
theorem dX10_wearerItem_25 : decode cX10_wearerItem 25 = .ok (.invokevirtual 266, 3) := by decide +kernel
theorem dX10_wearerItem_28 : decode cX10_wearerItem 28 = .ok (.aload_n 0, 1) := by decide +kernel
theorem dX10_wearerItem_29 : decode cX10_wearerItem 29 = .ok (.getfield 232, 3) := by decide +kernel
theorem dX10_wearerItem_32 : decode cX10_wearerItem 32 = .ok (.ifCond .eq 4, 3) := by decide +kernel
theorem dX10_wearerItem_35 : decode cX10_wearerItem 35 = .ok (.return_, 1) := by decide +kernel
theorem dX10_wearerItem_36 : decode cX10_wearerItem 36 = .ok (.aload_n 0, 1) := by decide +kernel
theorem dX10_wearerItem_37 : decode cX10_wearerItem 37 = .ok (.aload_n 0, 1) := by decide +kernel
theorem dX10_wearerItem_38 : decode cX10_wearerItem 38 = .ok (.getfield 243, 3) := by decide +kernel
theorem dX10_wearerItem_41 : decode cX10_wearerItem 41 = .ok (.invokevirtual 137, 3) := by decide +kernel
theorem dX10_wearerItem_44 : decode cX10_wearerItem 44 = .ok (.istore_n 1, 1) := by decide +kernel
theorem dX10_wearerItem_45 : decode cX10_wearerItem 45 = .ok (.aload_n 0, 1) := by decide +kernel
theorem dX10_wearerItem_46 : decode cX10_wearerItem 46 = .ok (.ldc2_w 277, 3) := by decide +kernel
theorem dX10_wearerItem_49 : decode cX10_wearerItem 49 = .ok (.iload_n 1, 1) := by decide +kernel
theorem dX10_wearerItem_50 : decode cX10_wearerItem 50 = .ok (.iconst 1, 1) := by decide +kernel
theorem dX10_wearerItem_51 : decode cX10_wearerItem 51 = .ok (.invokestatic 49, 3) := by decide +kernel
theorem dX10_wearerItem_54 : decode cX10_wearerItem 54 = .ok (.iconst 5, 1) := by decide +kernel
theorem dX10_wearerItem_55 : decode cX10_wearerItem 55 = .ok (.invokevirtual 271, 3) := by decide +kernel
theorem dX10_wearerItem_58 : decode cX10_wearerItem 58 = .ok (.return_, 1) := by decide +kernel
theorem dX10_houseItem_0 : decode cX10_houseItem 0 = .ok (.aload_n 0, 1) := by decide +kernel
theorem dX10_houseItem_1 : decode cX10_houseItem 1 = .ok (.iconst 1, 1) := by decide +kernel
theorem dX10_houseItem_2 : decode cX10_houseItem 2 = .ok (.invokevirtual 246, 3) := by decide +kernel
theorem dX10_houseItem_5 : decode cX10_houseItem 5 = .ok (.aload_n 0, 1) := by decide +kernel
theorem dX10_houseItem_6 : decode cX10_houseItem 6 = .ok (.iconst 0, 1) := by decide +kernel
theorem dX10_houseItem_7 : decode cX10_houseItem 7 = .ok (.iconst 5, 1) := by decide +kernel
theorem dX10_houseItem_8 : decode cX10_houseItem 8 = .ok (.invokevirtual 266, 3) := by decide +kernel
theorem dX10_houseItem_11 : decode cX10_houseItem 11 = .ok (.aload_n 0, 1) := by decide +kernel
theorem dX10_houseItem_12 : decode cX10_houseItem 12 = .ok (.getfield 232, 3) := by decide +kernel
theorem dX10_houseItem_15 : decode cX10_houseItem 15 = .ok (.ifCond .eq 4, 3) := by decide +kernel
theorem dX10_houseItem_18 : decode cX10_houseItem 18 = .ok (.return_, 1) := by decide +kernel
theorem dX10_houseItem_19 : decode cX10_houseItem 19 = .ok (.aload_n 0, 1) := by decide +kernel
theorem dX10_houseItem_20 : decode cX10_houseItem 20 = .ok (.getfield 243, 3) := by decide +kernel
theorem dX10_houseItem_23 : decode cX10_houseItem 23 = .ok (.istore_n 1, 1) := by decide +kernel
theorem dX10_houseItem_24 : decode cX10_houseItem 24 = .ok (.aload_n 0, 1) := by decide +kernel
theorem dX10_houseItem_25 : decode cX10_houseItem 25 = .ok (.invokevirtual 250, 3) := by decide +kernel
theorem dX10_houseItem_28 : decode cX10_houseItem 28 = .ok (.ldc2_w 279, 3) := by decide +kernel
theorem dX10_houseItem_31 : decode cX10_houseItem 31 = .ok (.lcmp, 1) := by decide +kernel
theorem dX10_houseItem_32 : decode cX10_houseItem 32 = .ok (.ifCond .ne 7, 3) := by decide +kernel
theorem dX10_houseItem_35 : decode cX10_houseItem 35 = .ok (.iconst 1, 1) := by decide +kernel
theorem dX10_houseItem_36 : decode cX10_houseItem 36 = .ok (.goto 4, 3) := by decide +kernel
theorem dX10_houseItem_39 : decode cX10_houseItem 39 = .ok (.iconst 0, 1) := by decide +kernel
theorem dX10_houseItem_40 : decode cX10_houseItem 40 = .ok (.istore_n 2, 1) := by decide +kernel
theorem dX10_houseItem_41 : decode cX10_houseItem 41 = .ok (.aload_n 0, 1) := by decide +kernel
theorem dX10_houseItem_42 : decode cX10_houseItem 42 = .ok (.iload_n 2, 1) := by decide +kernel
theorem dX10_houseItem_43 : decode cX10_houseItem 43 = .ok (.ifCond .ne 14, 3) := by decide +kernel
theorem dX10_houseItem_46 : decode cX10_houseItem 46 = .ok (.aload_n 0, 1) := by decide +kernel
theorem dX10_houseItem_47 : decode cX10_houseItem 47 = .ok (.invokevirtual 250, 3) := by decide +kernel
theorem dX10_houseItem_50 : decode cX10_houseItem 50 = .ok (.ldc2_w 281, 3) := by decide +kernel
theorem dX10_houseItem_53 : decode cX10_houseItem 53 = .ok (.lcmp, 1) := by decide +kernel
theorem dX10_houseItem_54 : decode cX10_houseItem 54 = .ok (.ifCond .ne 7, 3) := by decide +kernel
theorem dX10_houseItem_57 : decode cX10_houseItem 57 = .ok (.iconst 1, 1) := by decide +kernel
theorem dX10_houseItem_58 : decode cX10_houseItem 58 = .ok (.goto 4, 3) := by decide +kernel
theorem dX10_houseItem_61 : decode cX10_houseItem 61 = .ok (.iconst 0, 1) := by decide +kernel
theorem dX10_houseItem_62 : decode cX10_houseItem 62 = .ok (.invokevirtual 246, 3) := by decide +kernel
theorem dX10_houseItem_65 : decode cX10_houseItem 65 = .ok (.aload_n 0, 1) := by decide +kernel
theorem dX10_houseItem_66 : decode cX10_houseItem 66 = .ok (.iconst 0, 1) := by decide +kernel
theorem dX10_houseItem_67 : decode cX10_houseItem 67 = .ok (.bipush 50, 2) := by decide +kernel
theorem dX10_houseItem_69 : decode cX10_houseItem 69 = .ok (.invokevirtual 266, 3) := by decide +kernel
theorem dX10_houseItem_72 : decode cX10_houseItem 72 = .ok (.aload_n 0, 1) := by decide +kernel
theorem dX10_houseItem_73 : decode cX10_houseItem 73 = .ok (.getfield 7, 3) := by decide +kernel
theorem dX10_houseItem_76 : decode cX10_houseItem 76 = .ok (.iload_n 1, 1) := by decide +kernel
theorem dX10_houseItem_77 : decode cX10_houseItem 77 = .ok (.iconst 1, 1) := by decide +kernel
theorem dX10_houseItem_78 : decode cX10_houseItem 78 = .ok (.invokestatic 41, 3) := by decide +kernel
theorem dX10_houseItem_81 : decode cX10_houseItem 81 = .ok (.aload_n 0, 1) := by decide +kernel
theorem dX10_houseItem_82 : decode cX10_houseItem 82 = .ok (.getfield 232, 3) := by decide +kernel
theorem dX10_houseItem_85 : decode cX10_houseItem 85 = .ok (.ifCond .eq 12, 3) := by decide +kernel
theorem dX10_houseItem_88 : decode cX10_houseItem 88 = .ok (.aload_n 0, 1) := by decide +kernel
theorem dX10_houseItem_89 : decode cX10_houseItem 89 = .ok (.iload_n 1, 1) := by decide +kernel
theorem dX10_houseItem_90 : decode cX10_houseItem 90 = .ok (.iconst 1, 1) := by decide +kernel
theorem dX10_houseItem_91 : decode cX10_houseItem 91 = .ok (.invokevirtual 87, 3) := by decide +kernel
theorem dX10_houseItem_94 : decode cX10_houseItem 94 = .ok (.goto 20, 3) := by decide +kernel
theorem dX10_houseItem_97 : decode cX10_houseItem 97 = .ok (.iload_n 2, 1) := by decide +kernel
theorem dX10_houseItem_98 : decode cX10_houseItem 98 = .ok (.ifCond .eq 10, 3) := by decide +kernel
theorem dX10_houseItem_101 : decode cX10_houseItem 101 = .ok (.aload_n 0, 1) := by decide +kernel
theorem dX10_houseItem_102 : decode cX10_houseItem 102 = .ok (.getfield 243, 3) := by decide +kernel
theorem dX10_houseItem_105 : decode cX10_houseItem 105 = .ok (.goto 9, 3) := by decide +kernel
theorem dX10_houseItem_108 : decode cX10_houseItem 108 = .ok (.iconst 0, 1) := by decide +kernel
theorem dX10_houseItem_109 : decode cX10_houseItem 109 = .ok (.aload_n 0, 1) := by decide +kernel
theorem dX10_houseItem_110 : decode cX10_houseItem 110 = .ok (.getfield 243, 3) := by decide +kernel
theorem dX10_houseItem_113 : decode cX10_houseItem 113 = .ok (.isub, 1) := by decide +kernel
theorem dX10_houseItem_114 : decode cX10_houseItem 114 = .ok (.iastore, 1) := by decide +kernel
theorem dX10_houseItem_115 : decode cX10_houseItem 115 = .ok (.return_, 1) := by decide +kernel
theorem dX10_numberHere_0 : decode cX10_numberHere 0 = .ok (.iconst 0, 1) := by decide +kernel
theorem dX10_numberHere_1 : decode cX10_numberHere 1 = .ok (.istore_n 1, 1) := by decide +kernel
theorem dX10_numberHere_2 : decode cX10_numberHere 2 = .ok (.aload_n 0, 1) := by decide +kernel
theorem dX10_numberHere_3 : decode cX10_numberHere 3 = .ok (.getfield 220, 3) := by decide +kernel
theorem dX10_numberHere_6 : decode cX10_numberHere 6 = .ok (.istore_n 2, 1) := by decide +kernel
theorem dX10_numberHere_7 : decode cX10_numberHere 7 = .ok (.iload_n 2, 1) := by decide +kernel
theorem dX10_numberHere_8 : decode cX10_numberHere 8 = .ok (.aload_n 0, 1) := by decide +kernel
theorem dX10_numberHere_9 : decode cX10_numberHere 9 = .ok (.getfield 217, 3) := by decide +kernel
theorem dX10_numberHere_12 : decode cX10_numberHere 12 = .ok (.if_icmp .ge 34, 3) := by decide +kernel
theorem dX10_numberHere_15 : decode cX10_numberHere 15 = .ok (.iload_n 1, 1) := by decide +kernel
theorem dX10_numberHere_16 : decode cX10_numberHere 16 = .ok (.bipush 99, 2) := by decide +kernel
theorem dX10_numberHere_18 : decode cX10_numberHere 18 = .ok (.if_icmp .le 7, 3) := by decide +kernel
theorem dX10_numberHere_21 : decode cX10_numberHere 21 = .ok (.iload_n 1, 1) := by decide +kernel
theorem dX10_numberHere_22 : decode cX10_numberHere 22 = .ok (.goto 17, 3) := by decide +kernel
theorem dX10_numberHere_25 : decode cX10_numberHere 25 = .ok (.bipush 10, 2) := by decide +kernel
theorem dX10_numberHere_27 : decode cX10_numberHere 27 = .ok (.iload_n 1, 1) := by decide +kernel
theorem dX10_numberHere_28 : decode cX10_numberHere 28 = .ok (.imul, 1) := by decide +kernel
theorem dX10_numberHere_29 : decode cX10_numberHere 29 = .ok (.aload_n 0, 1) := by decide +kernel
theorem dX10_numberHere_30 : decode cX10_numberHere 30 = .ok (.getfield 25, 3) := by decide +kernel
theorem dX10_numberHere_33 : decode cX10_numberHere 33 = .ok (.iload_n 2, 1) := by decide +kernel
theorem dX10_numberHere_34 : decode cX10_numberHere 34 = .ok (.iaload, 1) := by decide +kernel
theorem dX10_numberHere_35 : decode cX10_numberHere 35 = .ok (.iadd, 1) := by decide +kernel
theorem dX10_numberHere_36 : decode cX10_numberHere 36 = .ok (.bipush 48, 2) := by decide +kernel
theorem dX10_numberHere_38 : decode cX10_numberHere 38 = .ok (.isub, 1) := by decide +kernel
theorem dX10_numberHere_39 : decode cX10_numberHere 39 = .ok (.istore_n 1, 1) := by decide +kernel
theorem dX10_numberHere_40 : decode cX10_numberHere 40 = .ok (.iinc 2 1, 3) := by decide +kernel
theorem dX10_numberHere_43 : decode cX10_numberHere 43 = .ok (.goto (-36), 3) := by decide +kernel
theorem dX10_numberHere_46 : decode cX10_numberHere 46 = .ok (.aload_n 0, 1) := by decide +kernel
theorem dX10_numberHere_47 : decode cX10_numberHere 47 = .ok (.aload_n 0, 1) := by decide +kernel
theorem dX10_numberHere_48 : decode cX10_numberHere 48 = .ok (.getfield 220, 3) := by decide +kernel
theorem dX10_numberHere_51 : decode cX10_numberHere 51 = .ok (.invokevirtual 223, 3) := by decide +kernel
theorem dX10_numberHere_54 : decode cX10_numberHere 54 = .ok (.invokestatic 229, 3) := by decide +kernel
theorem dX10_numberHere_57 : decode cX10_numberHere 57 = .ok (.ifCond .eq 13, 3) := by decide +kernel
theorem dX10_numberHere_60 : decode cX10_numberHere 60 = .ok (.iload_n 1, 1) := by decide +kernel
theorem dX10_numberHere_61 : decode cX10_numberHere 61 = .ok (.bipush 8, 2) := by decide +kernel
theorem dX10_numberHere_63 : decode cX10_numberHere 63 = .ok (.if_icmp .ge 7, 3) := by decide +kernel
theorem dX10_numberHere_66 : decode cX10_numberHere 66 = .ok (.iload_n 1, 1) := by decide +kernel
theorem dX10_numberHere_67 : decode cX10_numberHere 67 = .ok (.goto 4, 3) := by decide +kernel
theorem dX10_numberHere_70 : decode cX10_numberHere 70 = .ok (.iconst (-1), 1) := by decide +kernel
theorem dX10_numberHere_71 : decode cX10_numberHere 71 = .ok (.ireturn, 1) := by decide +kernel
theorem dX10_hireItem_0 : decode cX10_hireItem 0 = .ok (.aload_n 0, 1) := by decide +kernel
theorem dX10_hireItem_1 : decode cX10_hireItem 1 = .ok (.iconst 1, 1) := by decide +kernel
theorem dX10_hireItem_2 : decode cX10_hireItem 2 = .ok (.invokevirtual 246, 3) := by decide +kernel
theorem dX10_hireItem_5 : decode cX10_hireItem 5 = .ok (.aload_n 0, 1) := by decide +kernel
theorem dX10_hireItem_6 : decode cX10_hireItem 6 = .ok (.invokevirtual 283, 3) := by decide +kernel
theorem dX10_hireItem_9 : decode cX10_hireItem 9 = .ok (.istore_n 1, 1) := by decide +kernel
theorem dX10_hireItem_10 : decode cX10_hireItem 10 = .ok (.aload_n 0, 1) := by decide +kernel
theorem dX10_hireItem_11 : decode cX10_hireItem 11 = .ok (.aload_n 0, 1) := by decide +kernel
theorem dX10_hireItem_12 : decode cX10_hireItem 12 = .ok (.iload_n 1, 1) := by decide +kernel
theorem dX10_hireItem_13 : decode cX10_hireItem 13 = .ok (.invokevirtual 140, 3) := by decide +kernel
theorem dX10_hireItem_16 : decode cX10_hireItem 16 = .ok (.ifCond .eq 16, 3) := by decide +kernel
theorem dX10_hireItem_19 : decode cX10_hireItem 19 = .ok (.aload_n 0, 1) := by decide +kernel
theorem dX10_hireItem_20 : decode cX10_hireItem 20 = .ok (.iload_n 1, 1) := by decide +kernel
theorem dX10_hireItem_21 : decode cX10_hireItem 21 = .ok (.invokevirtual 145, 3) := by decide +kernel
theorem dX10_hireItem_24 : decode cX10_hireItem 24 = .ok (.iconst (-1), 1) := by decide +kernel
theorem dX10_hireItem_25 : decode cX10_hireItem 25 = .ok (.if_icmp .ne 7, 3) := by decide +kernel
theorem dX10_hireItem_28 : decode cX10_hireItem 28 = .ok (.iconst 1, 1) := by decide +kernel
theorem dX10_hireItem_29 : decode cX10_hireItem 29 = .ok (.goto 4, 3) := by decide +kernel
theorem dX10_hireItem_32 : decode cX10_hireItem 32 = .ok (.iconst 0, 1) := by decide +kernel
theorem dX10_hireItem_33 : decode cX10_hireItem 33 = .ok (.invokevirtual 246, 3) := by decide +kernel
theorem dX10_hireItem_36 : decode cX10_hireItem 36 = .ok (.aload_n 0, 1) := by decide +kernel
theorem dX10_hireItem_37 : decode cX10_hireItem 37 = .ok (.invokevirtual 283, 3) := by decide +kernel
theorem dX10_hireItem_40 : decode cX10_hireItem 40 = .ok (.istore_n 2, 1) := by decide +kernel
theorem dX10_hireItem_41 : decode cX10_hireItem 41 = .ok (.aload_n 0, 1) := by decide +kernel
theorem dX10_hireItem_42 : decode cX10_hireItem 42 = .ok (.aload_n 0, 1) := by decide +kernel
theorem dX10_hireItem_43 : decode cX10_hireItem 43 = .ok (.iload_n 2, 1) := by decide +kernel
theorem dX10_hireItem_44 : decode cX10_hireItem 44 = .ok (.invokevirtual 79, 3) := by decide +kernel
theorem dX10_hireItem_47 : decode cX10_hireItem 47 = .ok (.ifCond .eq 17, 3) := by decide +kernel
theorem dX10_hireItem_50 : decode cX10_hireItem 50 = .ok (.aload_n 0, 1) := by decide +kernel
theorem dX10_hireItem_51 : decode cX10_hireItem 51 = .ok (.iload_n 2, 1) := by decide +kernel
theorem dX10_hireItem_52 : decode cX10_hireItem 52 = .ok (.iconst 3, 1) := by decide +kernel
theorem dX10_hireItem_53 : decode cX10_hireItem 53 = .ok (.invokevirtual 61, 3) := by decide +kernel
theorem dX10_hireItem_56 : decode cX10_hireItem 56 = .ok (.iconst (-1), 1) := by decide +kernel
theorem dX10_hireItem_57 : decode cX10_hireItem 57 = .ok (.if_icmp .ne 7, 3) := by decide +kernel
theorem dX10_hireItem_60 : decode cX10_hireItem 60 = .ok (.iconst 1, 1) := by decide +kernel
theorem dX10_hireItem_61 : decode cX10_hireItem 61 = .ok (.goto 4, 3) := by decide +kernel
theorem dX10_hireItem_64 : decode cX10_hireItem 64 = .ok (.iconst 0, 1) := by decide +kernel
theorem dX10_hireItem_65 : decode cX10_hireItem 65 = .ok (.invokevirtual 246, 3) := by decide +kernel
theorem dX10_hireItem_68 : decode cX10_hireItem 68 = .ok (.aload_n 0, 1) := by decide +kernel
theorem dX10_hireItem_69 : decode cX10_hireItem 69 = .ok (.getfield 232, 3) := by decide +kernel
theorem dX10_hireItem_72 : decode cX10_hireItem 72 = .ok (.ifCond .ne 14, 3) := by decide +kernel
theorem dX10_hireItem_75 : decode cX10_hireItem 75 = .ok (.aload_n 0, 1) := by decide +kernel
theorem dX10_hireItem_76 : decode cX10_hireItem 76 = .ok (.getfield 7, 3) := by decide +kernel
theorem dX10_hireItem_79 : decode cX10_hireItem 79 = .ok (.iload_n 2, 1) := by decide +kernel
theorem dX10_hireItem_80 : decode cX10_hireItem 80 = .ok (.iconst 3, 1) := by decide +kernel
theorem dX10_hireItem_81 : decode cX10_hireItem 81 = .ok (.invokestatic 46, 3) := by decide +kernel
theorem dX10_hireItem_84 : decode cX10_hireItem 84 = .ok (.iload_n 1, 1) := by decide +kernel
theorem dX10_hireItem_85 : decode cX10_hireItem 85 = .ok (.iastore, 1) := by decide +kernel
theorem dX10_hireItem_86 : decode cX10_hireItem 86 = .ok (.return_, 1) := by decide +kernel
theorem dX10_item_0 : decode cX10_item 0 = .ok (.aload_n 0, 1) := by decide +kernel
theorem dX10_item_1 : decode cX10_item 1 = .ok (.invokevirtual 286, 3) := by decide +kernel
theorem dX10_item_4 : decode cX10_item 4 = .ok (.istore_n 1, 1) := by decide +kernel
theorem dX10_item_5 : decode cX10_item 5 = .ok (.aload_n 0, 1) := by decide +kernel
theorem dX10_item_6 : decode cX10_item 6 = .ok (.invokevirtual 250, 3) := by decide +kernel
theorem dX10_item_9 : decode cX10_item 9 = .ok (.lstore_n 2, 1) := by decide +kernel
theorem dX10_item_10 : decode cX10_item 10 = .ok (.iload_n 1, 1) := by decide +kernel
theorem dX10_item_11 : decode cX10_item 11 = .ok (.ifCond .lt 11, 3) := by decide +kernel
theorem dX10_item_14 : decode cX10_item 14 = .ok (.aload_n 0, 1) := by decide +kernel
theorem dX10_item_15 : decode cX10_item 15 = .ok (.iload_n 1, 1) := by decide +kernel
theorem dX10_item_16 : decode cX10_item 16 = .ok (.invokevirtual 289, 3) := by decide +kernel
theorem dX10_item_19 : decode cX10_item 19 = .ok (.goto 53, 3) := by decide +kernel
theorem dX10_item_22 : decode cX10_item 22 = .ok (.lload_n 2, 1) := by decide +kernel
theorem dX10_item_23 : decode cX10_item 23 = .ok (.ldc2_w 292, 3) := by decide +kernel
theorem dX10_item_26 : decode cX10_item 26 = .ok (.lcmp, 1) := by decide +kernel
theorem dX10_item_27 : decode cX10_item 27 = .ok (.ifCond .ne 10, 3) := by decide +kernel
theorem dX10_item_30 : decode cX10_item 30 = .ok (.aload_n 0, 1) := by decide +kernel
theorem dX10_item_31 : decode cX10_item 31 = .ok (.invokevirtual 294, 3) := by decide +kernel
theorem dX10_item_34 : decode cX10_item 34 = .ok (.goto 38, 3) := by decide +kernel
theorem dX10_item_37 : decode cX10_item 37 = .ok (.lload_n 2, 1) := by decide +kernel
theorem dX10_item_38 : decode cX10_item 38 = .ok (.ldc2_w 297, 3) := by decide +kernel
theorem dX10_item_41 : decode cX10_item 41 = .ok (.lcmp, 1) := by decide +kernel
theorem dX10_item_42 : decode cX10_item 42 = .ok (.ifCond .ne 10, 3) := by decide +kernel
theorem dX10_item_45 : decode cX10_item 45 = .ok (.aload_n 0, 1) := by decide +kernel
theorem dX10_item_46 : decode cX10_item 46 = .ok (.invokevirtual 299, 3) := by decide +kernel
theorem dX10_item_49 : decode cX10_item 49 = .ok (.goto 23, 3) := by decide +kernel
theorem dX10_item_52 : decode cX10_item 52 = .ok (.lload_n 2, 1) := by decide +kernel
theorem dX10_item_53 : decode cX10_item 53 = .ok (.ldc2_w 302, 3) := by decide +kernel
theorem dX10_item_56 : decode cX10_item 56 = .ok (.lcmp, 1) := by decide +kernel
theorem dX10_item_57 : decode cX10_item 57 = .ok (.ifCond .ne 10, 3) := by decide +kernel
theorem dX10_item_60 : decode cX10_item 60 = .ok (.aload_n 0, 1) := by decide +kernel
theorem dX10_item_61 : decode cX10_item 61 = .ok (.invokevirtual 304, 3) := by decide +kernel
theorem dX10_item_64 : decode cX10_item 64 = .ok (.goto 8, 3) := by decide +kernel
theorem dX10_item_67 : decode cX10_item 67 = .ok (.aload_n 0, 1) := by decide +kernel
theorem dX10_item_68 : decode cX10_item 68 = .ok (.iconst 0, 1) := by decide +kernel
theorem dX10_item_69 : decode cX10_item 69 = .ok (.invokevirtual 246, 3) := by decide +kernel
theorem dX10_item_72 : decode cX10_item 72 = .ok (.return_, 1) := by decide +kernel
theorem dX10_shop_0 : decode cX10_shop 0 = .ok (.aload_n 0, 1) := by decide +kernel
theorem dX10_shop_1 : decode cX10_shop 1 = .ok (.invokevirtual 307, 3) := by decide +kernel
theorem dX10_shop_4 : decode cX10_shop 4 = .ok (.aload_n 0, 1) := by decide +kernel
theorem dX10_shop_5 : decode cX10_shop 5 = .ok (.iconst 0, 1) := by decide +kernel
theorem dX10_shop_6 : decode cX10_shop 6 = .ok (.putfield 232, 3) := by decide +kernel
theorem dX10_shop_9 : decode cX10_shop 9 = .ok (.aload_n 0, 1) := by decide +kernel
theorem dX10_shop_10 : decode cX10_shop 10 = .ok (.iconst 0, 1) := by decide +kernel
theorem dX10_shop_11 : decode cX10_shop 11 = .ok (.putfield 217, 3) := by decide +kernel
theorem dX10_shop_14 : decode cX10_shop 14 = .ok (.aload_n 0, 1) := by decide +kernel
theorem dX10_shop_15 : decode cX10_shop 15 = .ok (.invokevirtual 236, 3) := by decide +kernel
theorem dX10_shop_18 : decode cX10_shop 18 = .ok (.iconst 1, 1) := by decide +kernel
theorem dX10_shop_19 : decode cX10_shop 19 = .ok (.istore_n 1, 1) := by decide +kernel
theorem dX10_shop_20 : decode cX10_shop 20 = .ok (.aload_n 0, 1) := by decide +kernel
theorem dX10_shop_21 : decode cX10_shop 21 = .ok (.invokevirtual 310, 3) := by decide +kernel
theorem dX10_shop_24 : decode cX10_shop 24 = .ok (.aload_n 0, 1) := by decide +kernel
theorem dX10_shop_25 : decode cX10_shop 25 = .ok (.getfield 232, 3) := by decide +kernel
theorem dX10_shop_28 : decode cX10_shop 28 = .ok (.ifCond .ne 31, 3) := by decide +kernel
theorem dX10_shop_31 : decode cX10_shop 31 = .ok (.aload_n 0, 1) := by decide +kernel
theorem dX10_shop_32 : decode cX10_shop 32 = .ok (.aload_n 0, 1) := by decide +kernel
theorem dX10_shop_33 : decode cX10_shop 33 = .ok (.getfield 220, 3) := by decide +kernel
theorem dX10_shop_36 : decode cX10_shop 36 = .ok (.invokevirtual 223, 3) := by decide +kernel
theorem dX10_shop_39 : decode cX10_shop 39 = .ok (.bipush 59, 2) := by decide +kernel
theorem dX10_shop_41 : decode cX10_shop 41 = .ok (.if_icmp .ne 18, 3) := by decide +kernel
theorem dX10_shop_44 : decode cX10_shop 44 = .ok (.aload_n 0, 1) := by decide +kernel
theorem dX10_shop_45 : decode cX10_shop 45 = .ok (.iconst 1, 1) := by decide +kernel
theorem dX10_shop_46 : decode cX10_shop 46 = .ok (.invokevirtual 246, 3) := by decide +kernel
theorem dX10_shop_49 : decode cX10_shop 49 = .ok (.aload_n 0, 1) := by decide +kernel
theorem dX10_shop_50 : decode cX10_shop 50 = .ok (.invokevirtual 310, 3) := by decide +kernel
theorem dX10_shop_53 : decode cX10_shop 53 = .ok (.iinc 1 1, 3) := by decide +kernel
theorem dX10_shop_56 : decode cX10_shop 56 = .ok (.goto (-32), 3) := by decide +kernel
theorem dX10_shop_59 : decode cX10_shop 59 = .ok (.aload_n 0, 1) := by decide +kernel
theorem dX10_shop_60 : decode cX10_shop 60 = .ok (.aload_n 0, 1) := by decide +kernel
theorem dX10_shop_61 : decode cX10_shop 61 = .ok (.getfield 232, 3) := by decide +kernel
theorem dX10_shop_64 : decode cX10_shop 64 = .ok (.ifCond .ne 14, 3) := by decide +kernel
theorem dX10_shop_67 : decode cX10_shop 67 = .ok (.aload_n 0, 1) := by decide +kernel
theorem dX10_shop_68 : decode cX10_shop 68 = .ok (.getfield 220, 3) := by decide +kernel
theorem dX10_shop_71 : decode cX10_shop 71 = .ok (.aload_n 0, 1) := by decide +kernel
theorem dX10_shop_72 : decode cX10_shop 72 = .ok (.getfield 205, 3) := by decide +kernel
theorem dX10_shop_75 : decode cX10_shop 75 = .ok (.if_icmp .ge 7, 3) := by decide +kernel
theorem dX10_shop_78 : decode cX10_shop 78 = .ok (.iconst 1, 1) := by decide +kernel
theorem dX10_shop_79 : decode cX10_shop 79 = .ok (.goto 4, 3) := by decide +kernel
theorem dX10_shop_82 : decode cX10_shop 82 = .ok (.iconst 0, 1) := by decide +kernel
theorem dX10_shop_83 : decode cX10_shop 83 = .ok (.putfield 232, 3) := by decide +kernel
theorem dX10_shop_86 : decode cX10_shop 86 = .ok (.aload_n 0, 1) := by decide +kernel
theorem dX10_shop_87 : decode cX10_shop 87 = .ok (.getfield 232, 3) := by decide +kernel
theorem dX10_shop_90 : decode cX10_shop 90 = .ok (.ifCond .eq 7, 3) := by decide +kernel
theorem dX10_shop_93 : decode cX10_shop 93 = .ok (.aload_n 0, 1) := by decide +kernel
theorem dX10_shop_94 : decode cX10_shop 94 = .ok (.invokevirtual 313, 3) := by decide +kernel
theorem dX10_shop_97 : decode cX10_shop 97 = .ok (.aload_n 0, 1) := by decide +kernel
theorem dX10_shop_98 : decode cX10_shop 98 = .ok (.iconst 0, 1) := by decide +kernel
theorem dX10_shop_99 : decode cX10_shop 99 = .ok (.putfield 205, 3) := by decide +kernel
theorem dX10_shop_102 : decode cX10_shop 102 = .ok (.aload_n 0, 1) := by decide +kernel
theorem dX10_shop_103 : decode cX10_shop 103 = .ok (.getfield 232, 3) := by decide +kernel
theorem dX10_shop_106 : decode cX10_shop 106 = .ok (.ifCond .eq 12, 3) := by decide +kernel
theorem dX10_shop_109 : decode cX10_shop 109 = .ok (.iconst (-1), 1) := by decide +kernel
theorem dX10_shop_110 : decode cX10_shop 110 = .ok (.aload_n 0, 1) := by decide +kernel
theorem dX10_shop_111 : decode cX10_shop 111 = .ok (.getfield 220, 3) := by decide +kernel
theorem dX10_shop_114 : decode cX10_shop 114 = .ok (.isub, 1) := by decide +kernel
theorem dX10_shop_115 : decode cX10_shop 115 = .ok (.goto 4, 3) := by decide +kernel
theorem dX10_shop_118 : decode cX10_shop 118 = .ok (.iload_n 1, 1) := by decide +kernel
theorem dX10_shop_119 : decode cX10_shop 119 = .ok (.ireturn, 1) := by decide +kernel
theorem dX10_isOne_0 : decode cX10_isOne 0 = .ok (.iload_n 0, 1) := by decide +kernel
theorem dX10_isOne_1 : decode cX10_isOne 1 = .ok (.i2l, 1) := by decide +kernel
theorem dX10_isOne_2 : decode cX10_isOne 2 = .ok (.lconst 0, 1) := by decide +kernel
theorem dX10_isOne_3 : decode cX10_isOne 3 = .ok (.ldc2_w 143, 3) := by decide +kernel
theorem dX10_isOne_6 : decode cX10_isOne 6 = .ok (.invokestatic 54, 3) := by decide +kernel
theorem dX10_isOne_9 : decode cX10_isOne 9 = .ok (.ireturn, 1) := by decide +kernel
theorem dX10_sheet_0 : decode cX10_sheet 0 = .ok (.iload_n 1, 1) := by decide +kernel
theorem dX10_sheet_1 : decode cX10_sheet 1 = .ok (.invokestatic 316, 3) := by decide +kernel
theorem dX10_sheet_4 : decode cX10_sheet 4 = .ok (.ifCond .eq 25, 3) := by decide +kernel
theorem dX10_sheet_7 : decode cX10_sheet 7 = .ok (.iload_n 2, 1) := by decide +kernel
theorem dX10_sheet_8 : decode cX10_sheet 8 = .ok (.ifCond .eq 28, 3) := by decide +kernel
theorem dX10_sheet_11 : decode cX10_sheet 11 = .ok (.iload_n 2, 1) := by decide +kernel
theorem dX10_sheet_12 : decode cX10_sheet 12 = .ok (.bipush 8, 2) := by decide +kernel
theorem dX10_sheet_14 : decode cX10_sheet 14 = .ok (.if_icmp .eq 22, 3) := by decide +kernel
theorem dX10_sheet_17 : decode cX10_sheet 17 = .ok (.iload_n 2, 1) := by decide +kernel
theorem dX10_sheet_18 : decode cX10_sheet 18 = .ok (.bipush 16, 2) := by decide +kernel
theorem dX10_sheet_20 : decode cX10_sheet 20 = .ok (.if_icmp .eq 16, 3) := by decide +kernel
theorem dX10_sheet_23 : decode cX10_sheet 23 = .ok (.iload_n 2, 1) := by decide +kernel
theorem dX10_sheet_24 : decode cX10_sheet 24 = .ok (.bipush 64, 2) := by decide +kernel
theorem dX10_sheet_26 : decode cX10_sheet 26 = .ok (.if_icmp .eq 10, 3) := by decide +kernel
theorem dX10_sheet_29 : decode cX10_sheet 29 = .ok (.aload_n 0, 1) := by decide +kernel
theorem dX10_sheet_30 : decode cX10_sheet 30 = .ok (.ldc 45, 2) := by decide +kernel
theorem dX10_sheet_32 : decode cX10_sheet 32 = .ok (.invokevirtual 75, 3) := by decide +kernel
theorem dX10_sheet_35 : decode cX10_sheet 35 = .ok (.ireturn, 1) := by decide +kernel
theorem dX10_sheet_36 : decode cX10_sheet 36 = .ok (.iload_n 3, 1) := by decide +kernel
theorem dX10_sheet_37 : decode cX10_sheet 37 = .ok (.ifCond .ge 11, 3) := by decide +kernel
theorem dX10_sheet_40 : decode cX10_sheet 40 = .ok (.aload_n 0, 1) := by decide +kernel
theorem dX10_sheet_41 : decode cX10_sheet 41 = .ok (.ldc_w 319, 3) := by decide +kernel
theorem dX10_sheet_44 : decode cX10_sheet 44 = .ok (.invokevirtual 75, 3) := by decide +kernel
theorem dX10_sheet_47 : decode cX10_sheet 47 = .ok (.ireturn, 1) := by decide +kernel
theorem dX10_sheet_48 : decode cX10_sheet 48 = .ok (.iload_n 3, 1) := by decide +kernel
theorem dX10_sheet_49 : decode cX10_sheet 49 = .ok (.bipush 40, 2) := by decide +kernel
theorem dX10_sheet_51 : decode cX10_sheet 51 = .ok (.if_icmp .le 10, 3) := by decide +kernel
theorem dX10_sheet_54 : decode cX10_sheet 54 = .ok (.aload_n 0, 1) := by decide +kernel
theorem dX10_sheet_55 : decode cX10_sheet 55 = .ok (.ldc 45, 2) := by decide +kernel
theorem dX10_sheet_57 : decode cX10_sheet 57 = .ok (.invokevirtual 75, 3) := by decide +kernel
theorem dX10_sheet_60 : decode cX10_sheet 60 = .ok (.ireturn, 1) := by decide +kernel
theorem dX10_sheet_61 : decode cX10_sheet 61 = .ok (.aload_n 0, 1) := by decide +kernel
theorem dX10_sheet_62 : decode cX10_sheet 62 = .ok (.getfield 28, 3) := by decide +kernel
theorem dX10_sheet_65 : decode cX10_sheet 65 = .ok (.iload_n 1, 1) := by decide +kernel
theorem dX10_sheet_66 : decode cX10_sheet 66 = .ok (.iload_n 2, 1) := by decide +kernel
theorem dX10_sheet_67 : decode cX10_sheet 67 = .ok (.iastore, 1) := by decide +kernel
theorem dX10_sheet_68 : decode cX10_sheet 68 = .ok (.aload_n 0, 1) := by decide +kernel
theorem dX10_sheet_69 : decode cX10_sheet 69 = .ok (.getfield 31, 3) := by decide +kernel
theorem dX10_sheet_72 : decode cX10_sheet 72 = .ok (.iload_n 1, 1) := by decide +kernel
theorem dX10_sheet_73 : decode cX10_sheet 73 = .ok (.iload_n 2, 1) := by decide +kernel
theorem dX10_sheet_74 : decode cX10_sheet 74 = .ok (.ifCond .ne 7, 3) := by decide +kernel
theorem dX10_sheet_77 : decode cX10_sheet 77 = .ok (.iconst 0, 1) := by decide +kernel
theorem dX10_sheet_78 : decode cX10_sheet 78 = .ok (.goto 4, 3) := by decide +kernel
theorem dX10_sheet_81 : decode cX10_sheet 81 = .ok (.iload_n 3, 1) := by decide +kernel
theorem dX10_sheet_82 : decode cX10_sheet 82 = .ok (.iastore, 1) := by decide +kernel
theorem dX10_sheet_83 : decode cX10_sheet 83 = .ok (.iconst 0, 1) := by decide +kernel
theorem dX10_sheet_84 : decode cX10_sheet 84 = .ok (.istore 4, 2) := by decide +kernel
theorem dX10_sheet_86 : decode cX10_sheet 86 = .ok (.iload 4, 2) := by decide +kernel
theorem dX10_sheet_88 : decode cX10_sheet 88 = .ok (.bipush 40, 2) := by decide +kernel
theorem dX10_sheet_90 : decode cX10_sheet 90 = .ok (.if_icmp .ge 22, 3) := by decide +kernel
theorem dX10_sheet_93 : decode cX10_sheet 93 = .ok (.aload_n 0, 1) := by decide +kernel
theorem dX10_sheet_94 : decode cX10_sheet 94 = .ok (.getfield 34, 3) := by decide +kernel
theorem dX10_sheet_97 : decode cX10_sheet 97 = .ok (.bipush 40, 2) := by decide +kernel
theorem dX10_sheet_99 : decode cX10_sheet 99 = .ok (.iload_n 1, 1) := by decide +kernel
theorem dX10_sheet_100 : decode cX10_sheet 100 = .ok (.imul, 1) := by decide +kernel
theorem dX10_sheet_101 : decode cX10_sheet 101 = .ok (.iload 4, 2) := by decide +kernel
theorem dX10_sheet_103 : decode cX10_sheet 103 = .ok (.iadd, 1) := by decide +kernel
theorem dX10_sheet_104 : decode cX10_sheet 104 = .ok (.lconst 0, 1) := by decide +kernel
theorem dX10_sheet_105 : decode cX10_sheet 105 = .ok (.lastore, 1) := by decide +kernel
theorem dX10_sheet_106 : decode cX10_sheet 106 = .ok (.iinc 4 1, 3) := by decide +kernel
theorem dX10_sheet_109 : decode cX10_sheet 109 = .ok (.goto (-23), 3) := by decide +kernel
theorem dX10_sheet_112 : decode cX10_sheet 112 = .ok (.aload_n 0, 1) := by decide +kernel
theorem dX10_sheet_113 : decode cX10_sheet 113 = .ok (.getfield 31, 3) := by decide +kernel
theorem dX10_sheet_116 : decode cX10_sheet 116 = .ok (.iload_n 1, 1) := by decide +kernel
theorem dX10_sheet_117 : decode cX10_sheet 117 = .ok (.iaload, 1) := by decide +kernel
theorem dX10_sheet_118 : decode cX10_sheet 118 = .ok (.ireturn, 1) := by decide +kernel
theorem dX10_narrowed_0 : decode cX10_narrowed 0 = .ok (.iload_n 0, 1) := by decide +kernel
theorem dX10_narrowed_1 : decode cX10_narrowed 1 = .ok (.bipush 8, 2) := by decide +kernel
theorem dX10_narrowed_3 : decode cX10_narrowed 3 = .ok (.if_icmp .ne 10, 3) := by decide +kernel
theorem dX10_narrowed_6 : decode cX10_narrowed 6 = .ok (.lload_n 1, 1) := by decide +kernel
theorem dX10_narrowed_7 : decode cX10_narrowed 7 = .ok (.l2i, 1) := by decide +kernel
theorem dX10_narrowed_8 : decode cX10_narrowed 8 = .ok (.i2b, 1) := by decide +kernel
theorem dX10_narrowed_9 : decode cX10_narrowed 9 = .ok (.i2l, 1) := by decide +kernel
theorem dX10_narrowed_10 : decode cX10_narrowed 10 = .ok (.goto 17, 3) := by decide +kernel
theorem dX10_narrowed_13 : decode cX10_narrowed 13 = .ok (.iload_n 0, 1) := by decide +kernel
theorem dX10_narrowed_14 : decode cX10_narrowed 14 = .ok (.bipush 16, 2) := by decide +kernel
theorem dX10_narrowed_16 : decode cX10_narrowed 16 = .ok (.if_icmp .ne 10, 3) := by decide +kernel
theorem dX10_narrowed_19 : decode cX10_narrowed 19 = .ok (.lload_n 1, 1) := by decide +kernel
theorem dX10_narrowed_20 : decode cX10_narrowed 20 = .ok (.l2i, 1) := by decide +kernel
theorem dX10_narrowed_21 : decode cX10_narrowed 21 = .ok (.i2s, 1) := by decide +kernel
theorem dX10_narrowed_22 : decode cX10_narrowed 22 = .ok (.i2l, 1) := by decide +kernel
theorem dX10_narrowed_23 : decode cX10_narrowed 23 = .ok (.goto 4, 3) := by decide +kernel
theorem dX10_narrowed_26 : decode cX10_narrowed 26 = .ok (.lload_n 1, 1) := by decide +kernel
theorem dX10_narrowed_27 : decode cX10_narrowed 27 = .ok (.lreturn, 1) := by decide +kernel
theorem dX10_wrongSheet_0 : decode cX10_wrongSheet 0 = .ok (.iload_n 1, 1) := by decide +kernel
theorem dX10_wrongSheet_1 : decode cX10_wrongSheet 1 = .ok (.invokestatic 316, 3) := by decide +kernel
theorem dX10_wrongSheet_4 : decode cX10_wrongSheet 4 = .ok (.ifCond .ne 8, 3) := by decide +kernel
theorem dX10_wrongSheet_7 : decode cX10_wrongSheet 7 = .ok (.ldc 45, 2) := by decide +kernel
theorem dX10_wrongSheet_9 : decode cX10_wrongSheet 9 = .ok (.goto 19, 3) := by decide +kernel
theorem dX10_wrongSheet_12 : decode cX10_wrongSheet 12 = .ok (.aload_n 0, 1) := by decide +kernel
theorem dX10_wrongSheet_13 : decode cX10_wrongSheet 13 = .ok (.getfield 28, 3) := by decide +kernel
theorem dX10_wrongSheet_16 : decode cX10_wrongSheet 16 = .ok (.iload_n 1, 1) := by decide +kernel
theorem dX10_wrongSheet_17 : decode cX10_wrongSheet 17 = .ok (.iaload, 1) := by decide +kernel
theorem dX10_wrongSheet_18 : decode cX10_wrongSheet 18 = .ok (.ifCond .ne 9, 3) := by decide +kernel
theorem dX10_wrongSheet_21 : decode cX10_wrongSheet 21 = .ok (.ldc_w 320, 3) := by decide +kernel
theorem dX10_wrongSheet_24 : decode cX10_wrongSheet 24 = .ok (.goto 4, 3) := by decide +kernel
theorem dX10_wrongSheet_27 : decode cX10_wrongSheet 27 = .ok (.iconst 0, 1) := by decide +kernel
theorem dX10_wrongSheet_28 : decode cX10_wrongSheet 28 = .ok (.ireturn, 1) := by decide +kernel
theorem dX10_write_0 : decode cX10_write 0 = .ok (.aload_n 0, 1) := by decide +kernel
theorem dX10_write_1 : decode cX10_write 1 = .ok (.iload_n 1, 1) := by decide +kernel
theorem dX10_write_2 : decode cX10_write 2 = .ok (.invokevirtual 321, 3) := by decide +kernel
theorem dX10_write_5 : decode cX10_write 5 = .ok (.istore 5, 2) := by decide +kernel
theorem dX10_write_7 : decode cX10_write 7 = .ok (.iload 5, 2) := by decide +kernel
theorem dX10_write_9 : decode cX10_write 9 = .ok (.ifCond .eq 11, 3) := by decide +kernel
theorem dX10_write_12 : decode cX10_write 12 = .ok (.aload_n 0, 1) := by decide +kernel
theorem dX10_write_13 : decode cX10_write 13 = .ok (.iload 5, 2) := by decide +kernel
theorem dX10_write_15 : decode cX10_write 15 = .ok (.invokevirtual 75, 3) := by decide +kernel
theorem dX10_write_18 : decode cX10_write 18 = .ok (.i2l, 1) := by decide +kernel
theorem dX10_write_19 : decode cX10_write 19 = .ok (.lreturn, 1) := by decide +kernel
theorem dX10_write_20 : decode cX10_write 20 = .ok (.iload_n 2, 1) := by decide +kernel
theorem dX10_write_21 : decode cX10_write 21 = .ok (.i2l, 1) := by decide +kernel
theorem dX10_write_22 : decode cX10_write 22 = .ok (.lconst 0, 1) := by decide +kernel
theorem dX10_write_23 : decode cX10_write 23 = .ok (.aload_n 0, 1) := by decide +kernel
theorem dX10_write_24 : decode cX10_write 24 = .ok (.getfield 31, 3) := by decide +kernel
theorem dX10_write_27 : decode cX10_write 27 = .ok (.iload_n 1, 1) := by decide +kernel
theorem dX10_write_28 : decode cX10_write 28 = .ok (.iaload, 1) := by decide +kernel
theorem dX10_write_29 : decode cX10_write 29 = .ok (.iconst 1, 1) := by decide +kernel
theorem dX10_write_30 : decode cX10_write 30 = .ok (.isub, 1) := by decide +kernel
theorem dX10_write_31 : decode cX10_write 31 = .ok (.i2l, 1) := by decide +kernel
theorem dX10_write_32 : decode cX10_write 32 = .ok (.invokestatic 54, 3) := by decide +kernel
theorem dX10_write_35 : decode cX10_write 35 = .ok (.ifCond .ne 11, 3) := by decide +kernel
theorem dX10_write_38 : decode cX10_write 38 = .ok (.aload_n 0, 1) := by decide +kernel
theorem dX10_write_39 : decode cX10_write 39 = .ok (.ldc 45, 2) := by decide +kernel
theorem dX10_write_41 : decode cX10_write 41 = .ok (.invokevirtual 75, 3) := by decide +kernel
theorem dX10_write_44 : decode cX10_write 44 = .ok (.i2l, 1) := by decide +kernel
theorem dX10_write_45 : decode cX10_write 45 = .ok (.lreturn, 1) := by decide +kernel
theorem dX10_write_46 : decode cX10_write 46 = .ok (.aload_n 0, 1) := by decide +kernel
theorem dX10_write_47 : decode cX10_write 47 = .ok (.getfield 34, 3) := by decide +kernel
theorem dX10_write_50 : decode cX10_write 50 = .ok (.bipush 40, 2) := by decide +kernel
theorem dX10_write_52 : decode cX10_write 52 = .ok (.iload_n 1, 1) := by decide +kernel
theorem dX10_write_53 : decode cX10_write 53 = .ok (.imul, 1) := by decide +kernel
theorem dX10_write_54 : decode cX10_write 54 = .ok (.iload_n 2, 1) := by decide +kernel
theorem dX10_write_55 : decode cX10_write 55 = .ok (.iadd, 1) := by decide +kernel
theorem dX10_write_56 : decode cX10_write 56 = .ok (.laload, 1) := by decide +kernel
theorem dX10_write_57 : decode cX10_write 57 = .ok (.lstore 6, 2) := by decide +kernel
theorem dX10_write_59 : decode cX10_write 59 = .ok (.aload_n 0, 1) := by decide +kernel
theorem dX10_write_60 : decode cX10_write 60 = .ok (.getfield 34, 3) := by decide +kernel
theorem dX10_write_63 : decode cX10_write 63 = .ok (.bipush 40, 2) := by decide +kernel
theorem dX10_write_65 : decode cX10_write 65 = .ok (.iload_n 1, 1) := by decide +kernel
theorem dX10_write_66 : decode cX10_write 66 = .ok (.imul, 1) := by decide +kernel
theorem dX10_write_67 : decode cX10_write 67 = .ok (.iload_n 2, 1) := by decide +kernel
theorem dX10_write_68 : decode cX10_write 68 = .ok (.iadd, 1) := by decide +kernel
theorem dX10_write_69 : decode cX10_write 69 = .ok (.aload_n 0, 1) := by decide +kernel
theorem dX10_write_70 : decode cX10_write 70 = .ok (.getfield 28, 3) := by decide +kernel
theorem dX10_write_73 : decode cX10_write 73 = .ok (.iload_n 1, 1) := by decide +kernel
theorem dX10_write_74 : decode cX10_write 74 = .ok (.iaload, 1) := by decide +kernel
theorem dX10_write_75 : decode cX10_write 75 = .ok (.lload_n 3, 1) := by decide +kernel
theorem dX10_write_76 : decode cX10_write 76 = .ok (.invokestatic 324, 3) := by decide +kernel
theorem dX10_write_79 : decode cX10_write 79 = .ok (.lastore, 1) := by decide +kernel
theorem dX10_write_80 : decode cX10_write 80 = .ok (.lload 6, 2) := by decide +kernel
theorem dX10_write_82 : decode cX10_write 82 = .ok (.lreturn, 1) := by decide +kernel
theorem dX10_copy_0 : decode cX10_copy 0 = .ok (.iload_n 1, 1) := by decide +kernel
theorem dX10_copy_1 : decode cX10_copy 1 = .ok (.invokestatic 316, 3) := by decide +kernel
theorem dX10_copy_4 : decode cX10_copy 4 = .ok (.ifCond .eq 10, 3) := by decide +kernel
theorem dX10_copy_7 : decode cX10_copy 7 = .ok (.iload_n 3, 1) := by decide +kernel
theorem dX10_copy_8 : decode cX10_copy 8 = .ok (.invokestatic 316, 3) := by decide +kernel
theorem dX10_copy_11 : decode cX10_copy 11 = .ok (.ifCond .ne 10, 3) := by decide +kernel
theorem dX10_copy_14 : decode cX10_copy 14 = .ok (.aload_n 0, 1) := by decide +kernel
theorem dX10_copy_15 : decode cX10_copy 15 = .ok (.ldc 45, 2) := by decide +kernel
theorem dX10_copy_17 : decode cX10_copy 17 = .ok (.invokevirtual 75, 3) := by decide +kernel
theorem dX10_copy_20 : decode cX10_copy 20 = .ok (.ireturn, 1) := by decide +kernel
theorem dX10_copy_21 : decode cX10_copy 21 = .ok (.aload_n 0, 1) := by decide +kernel
theorem dX10_copy_22 : decode cX10_copy 22 = .ok (.getfield 28, 3) := by decide +kernel
theorem dX10_copy_25 : decode cX10_copy 25 = .ok (.iload_n 1, 1) := by decide +kernel
theorem dX10_copy_26 : decode cX10_copy 26 = .ok (.iaload, 1) := by decide +kernel
theorem dX10_copy_27 : decode cX10_copy 27 = .ok (.ifCond .eq 12, 3) := by decide +kernel
theorem dX10_copy_30 : decode cX10_copy 30 = .ok (.aload_n 0, 1) := by decide +kernel
theorem dX10_copy_31 : decode cX10_copy 31 = .ok (.getfield 28, 3) := by decide +kernel
theorem dX10_copy_34 : decode cX10_copy 34 = .ok (.iload_n 3, 1) := by decide +kernel
theorem dX10_copy_35 : decode cX10_copy 35 = .ok (.iaload, 1) := by decide +kernel
theorem dX10_copy_36 : decode cX10_copy 36 = .ok (.ifCond .ne 11, 3) := by decide +kernel
theorem dX10_copy_39 : decode cX10_copy 39 = .ok (.aload_n 0, 1) := by decide +kernel
theorem dX10_copy_40 : decode cX10_copy 40 = .ok (.ldc_w 320, 3) := by decide +kernel
theorem dX10_copy_43 : decode cX10_copy 43 = .ok (.invokevirtual 75, 3) := by decide +kernel
theorem dX10_copy_46 : decode cX10_copy 46 = .ok (.ireturn, 1) := by decide +kernel
theorem dX10_copy_47 : decode cX10_copy 47 = .ok (.aload_n 0, 1) := by decide +kernel
theorem dX10_copy_48 : decode cX10_copy 48 = .ok (.getfield 28, 3) := by decide +kernel
theorem dX10_copy_51 : decode cX10_copy 51 = .ok (.iload_n 1, 1) := by decide +kernel
theorem dX10_copy_52 : decode cX10_copy 52 = .ok (.iaload, 1) := by decide +kernel
theorem dX10_copy_53 : decode cX10_copy 53 = .ok (.aload_n 0, 1) := by decide +kernel
theorem dX10_copy_54 : decode cX10_copy 54 = .ok (.getfield 28, 3) := by decide +kernel
theorem dX10_copy_57 : decode cX10_copy 57 = .ok (.iload_n 3, 1) := by decide +kernel
theorem dX10_copy_58 : decode cX10_copy 58 = .ok (.iaload, 1) := by decide +kernel
theorem dX10_copy_59 : decode cX10_copy 59 = .ok (.if_icmp .eq 10, 3) := by decide +kernel
theorem dX10_copy_62 : decode cX10_copy 62 = .ok (.aload_n 0, 1) := by decide +kernel
theorem dX10_copy_63 : decode cX10_copy 63 = .ok (.ldc 134, 2) := by decide +kernel
theorem dX10_copy_65 : decode cX10_copy 65 = .ok (.invokevirtual 75, 3) := by decide +kernel
theorem dX10_copy_68 : decode cX10_copy 68 = .ok (.ireturn, 1) := by decide +kernel
theorem dX10_copy_69 : decode cX10_copy 69 = .ok (.iload_n 2, 1) := by decide +kernel
theorem dX10_copy_70 : decode cX10_copy 70 = .ok (.ifCond .lt 40, 3) := by decide +kernel
theorem dX10_copy_73 : decode cX10_copy 73 = .ok (.iload 4, 2) := by decide +kernel
theorem dX10_copy_75 : decode cX10_copy 75 = .ok (.ifCond .lt 35, 3) := by decide +kernel
theorem dX10_copy_78 : decode cX10_copy 78 = .ok (.iload 5, 2) := by decide +kernel
theorem dX10_copy_80 : decode cX10_copy 80 = .ok (.ifCond .lt 30, 3) := by decide +kernel
theorem dX10_copy_83 : decode cX10_copy 83 = .ok (.iload 5, 2) := by decide +kernel
theorem dX10_copy_85 : decode cX10_copy 85 = .ok (.aload_n 0, 1) := by decide +kernel
theorem dX10_copy_86 : decode cX10_copy 86 = .ok (.getfield 31, 3) := by decide +kernel
theorem dX10_copy_89 : decode cX10_copy 89 = .ok (.iload_n 1, 1) := by decide +kernel
theorem dX10_copy_90 : decode cX10_copy 90 = .ok (.iaload, 1) := by decide +kernel
theorem dX10_copy_91 : decode cX10_copy 91 = .ok (.iload_n 2, 1) := by decide +kernel
theorem dX10_copy_92 : decode cX10_copy 92 = .ok (.isub, 1) := by decide +kernel
theorem dX10_copy_93 : decode cX10_copy 93 = .ok (.if_icmp .gt 17, 3) := by decide +kernel
theorem dX10_copy_96 : decode cX10_copy 96 = .ok (.iload 5, 2) := by decide +kernel
theorem dX10_copy_98 : decode cX10_copy 98 = .ok (.aload_n 0, 1) := by decide +kernel
theorem dX10_copy_99 : decode cX10_copy 99 = .ok (.getfield 31, 3) := by decide +kernel
theorem dX10_copy_102 : decode cX10_copy 102 = .ok (.iload_n 3, 1) := by decide +kernel
theorem dX10_copy_103 : decode cX10_copy 103 = .ok (.iaload, 1) := by decide +kernel
theorem dX10_copy_104 : decode cX10_copy 104 = .ok (.iload 4, 2) := by decide +kernel
theorem dX10_copy_106 : decode cX10_copy 106 = .ok (.isub, 1) := by decide +kernel
theorem dX10_copy_107 : decode cX10_copy 107 = .ok (.if_icmp .le 10, 3) := by decide +kernel
theorem dX10_copy_110 : decode cX10_copy 110 = .ok (.aload_n 0, 1) := by decide +kernel
theorem dX10_copy_111 : decode cX10_copy 111 = .ok (.ldc 45, 2) := by decide +kernel
theorem dX10_copy_113 : decode cX10_copy 113 = .ok (.invokevirtual 75, 3) := by decide +kernel
theorem dX10_copy_116 : decode cX10_copy 116 = .ok (.ireturn, 1) := by decide +kernel
theorem dX10_copy_117 : decode cX10_copy 117 = .ok (.iconst 0, 1) := by decide +kernel
theorem dX10_copy_118 : decode cX10_copy 118 = .ok (.istore 6, 2) := by decide +kernel
theorem dX10_copy_120 : decode cX10_copy 120 = .ok (.iload 6, 2) := by decide +kernel
theorem dX10_copy_122 : decode cX10_copy 122 = .ok (.iload 5, 2) := by decide +kernel
theorem dX10_copy_124 : decode cX10_copy 124 = .ok (.if_icmp .ge 30, 3) := by decide +kernel
theorem dX10_copy_127 : decode cX10_copy 127 = .ok (.aload_n 0, 1) := by decide +kernel
theorem dX10_copy_128 : decode cX10_copy 128 = .ok (.getfield 38, 3) := by decide +kernel
theorem dX10_copy_131 : decode cX10_copy 131 = .ok (.iload 6, 2) := by decide +kernel
theorem dX10_copy_133 : decode cX10_copy 133 = .ok (.aload_n 0, 1) := by decide +kernel
theorem dX10_copy_134 : decode cX10_copy 134 = .ok (.getfield 34, 3) := by decide +kernel
theorem dX10_copy_137 : decode cX10_copy 137 = .ok (.bipush 40, 2) := by decide +kernel
theorem dX10_copy_139 : decode cX10_copy 139 = .ok (.iload_n 1, 1) := by decide +kernel
theorem dX10_copy_140 : decode cX10_copy 140 = .ok (.imul, 1) := by decide +kernel
theorem dX10_copy_141 : decode cX10_copy 141 = .ok (.iload_n 2, 1) := by decide +kernel
theorem dX10_copy_142 : decode cX10_copy 142 = .ok (.iadd, 1) := by decide +kernel
theorem dX10_copy_143 : decode cX10_copy 143 = .ok (.iload 6, 2) := by decide +kernel
theorem dX10_copy_145 : decode cX10_copy 145 = .ok (.iadd, 1) := by decide +kernel
theorem dX10_copy_146 : decode cX10_copy 146 = .ok (.laload, 1) := by decide +kernel
theorem dX10_copy_147 : decode cX10_copy 147 = .ok (.lastore, 1) := by decide +kernel
theorem dX10_copy_148 : decode cX10_copy 148 = .ok (.iinc 6 1, 3) := by decide +kernel
theorem dX10_copy_151 : decode cX10_copy 151 = .ok (.goto (-31), 3) := by decide +kernel
theorem dX10_copy_154 : decode cX10_copy 154 = .ok (.iconst 0, 1) := by decide +kernel
theorem dX10_copy_155 : decode cX10_copy 155 = .ok (.istore 6, 2) := by decide +kernel
theorem dX10_copy_157 : decode cX10_copy 157 = .ok (.iload 6, 2) := by decide +kernel
theorem dX10_copy_159 : decode cX10_copy 159 = .ok (.iload 5, 2) := by decide +kernel
theorem dX10_copy_161 : decode cX10_copy 161 = .ok (.if_icmp .ge 31, 3) := by decide +kernel
theorem dX10_copy_164 : decode cX10_copy 164 = .ok (.aload_n 0, 1) := by decide +kernel
theorem dX10_copy_165 : decode cX10_copy 165 = .ok (.getfield 34, 3) := by decide +kernel
theorem dX10_copy_168 : decode cX10_copy 168 = .ok (.bipush 40, 2) := by decide +kernel
theorem dX10_copy_170 : decode cX10_copy 170 = .ok (.iload_n 3, 1) := by decide +kernel
theorem dX10_copy_171 : decode cX10_copy 171 = .ok (.imul, 1) := by decide +kernel
theorem dX10_copy_172 : decode cX10_copy 172 = .ok (.iload 4, 2) := by decide +kernel
theorem dX10_copy_174 : decode cX10_copy 174 = .ok (.iadd, 1) := by decide +kernel
theorem dX10_copy_175 : decode cX10_copy 175 = .ok (.iload 6, 2) := by decide +kernel
theorem dX10_copy_177 : decode cX10_copy 177 = .ok (.iadd, 1) := by decide +kernel
theorem dX10_copy_178 : decode cX10_copy 178 = .ok (.aload_n 0, 1) := by decide +kernel
theorem dX10_copy_179 : decode cX10_copy 179 = .ok (.getfield 38, 3) := by decide +kernel
theorem dX10_copy_182 : decode cX10_copy 182 = .ok (.iload 6, 2) := by decide +kernel
theorem dX10_copy_184 : decode cX10_copy 184 = .ok (.laload, 1) := by decide +kernel
theorem dX10_copy_185 : decode cX10_copy 185 = .ok (.lastore, 1) := by decide +kernel
theorem dX10_copy_186 : decode cX10_copy 186 = .ok (.iinc 6 1, 3) := by decide +kernel
theorem dX10_copy_189 : decode cX10_copy 189 = .ok (.goto (-32), 3) := by decide +kernel
theorem dX10_copy_192 : decode cX10_copy 192 = .ok (.iload 5, 2) := by decide +kernel
theorem dX10_copy_194 : decode cX10_copy 194 = .ok (.ireturn, 1) := by decide +kernel
theorem dX10_lays_0 : decode cX10_lays 0 = .ok (.aload_n 0, 1) := by decide +kernel
theorem dX10_lays_1 : decode cX10_lays 1 = .ok (.iload_n 1, 1) := by decide +kernel
theorem dX10_lays_2 : decode cX10_lays 2 = .ok (.invokevirtual 321, 3) := by decide +kernel
theorem dX10_lays_5 : decode cX10_lays 5 = .ok (.istore_n 2, 1) := by decide +kernel
theorem dX10_lays_6 : decode cX10_lays 6 = .ok (.iload_n 2, 1) := by decide +kernel
theorem dX10_lays_7 : decode cX10_lays 7 = .ok (.ifCond .eq 9, 3) := by decide +kernel
theorem dX10_lays_10 : decode cX10_lays 10 = .ok (.aload_n 0, 1) := by decide +kernel
theorem dX10_lays_11 : decode cX10_lays 11 = .ok (.iload_n 2, 1) := by decide +kernel
theorem dX10_lays_12 : decode cX10_lays 12 = .ok (.invokevirtual 75, 3) := by decide +kernel
theorem dX10_lays_15 : decode cX10_lays 15 = .ok (.ireturn, 1) := by decide +kernel
theorem dX10_lays_16 : decode cX10_lays 16 = .ok (.iconst 0, 1) := by decide +kernel
theorem dX10_lays_17 : decode cX10_lays 17 = .ok (.istore_n 3, 1) := by decide +kernel
theorem dX10_lays_18 : decode cX10_lays 18 = .ok (.iconst 0, 1) := by decide +kernel
theorem dX10_lays_19 : decode cX10_lays 19 = .ok (.istore 4, 2) := by decide +kernel
theorem dX10_lays_21 : decode cX10_lays 21 = .ok (.iload 4, 2) := by decide +kernel
theorem dX10_lays_23 : decode cX10_lays 23 = .ok (.aload_n 0, 1) := by decide +kernel
theorem dX10_lays_24 : decode cX10_lays 24 = .ok (.getfield 31, 3) := by decide +kernel
theorem dX10_lays_27 : decode cX10_lays 27 = .ok (.iload_n 1, 1) := by decide +kernel
theorem dX10_lays_28 : decode cX10_lays 28 = .ok (.iaload, 1) := by decide +kernel
theorem dX10_lays_29 : decode cX10_lays 29 = .ok (.if_icmp .ge 93, 3) := by decide +kernel
theorem dX10_lays_32 : decode cX10_lays 32 = .ok (.iload 4, 2) := by decide +kernel
theorem dX10_lays_34 : decode cX10_lays 34 = .ok (.aload_n 0, 1) := by decide +kernel
theorem dX10_lays_35 : decode cX10_lays 35 = .ok (.getfield 7, 3) := by decide +kernel
theorem dX10_lays_38 : decode cX10_lays 38 = .ok (.iconst 2, 1) := by decide +kernel
theorem dX10_lays_39 : decode cX10_lays 39 = .ok (.iaload, 1) := by decide +kernel
theorem dX10_lays_40 : decode cX10_lays 40 = .ok (.if_icmp .ge 82, 3) := by decide +kernel
theorem dX10_lays_43 : decode cX10_lays 43 = .ok (.aload_n 0, 1) := by decide +kernel
theorem dX10_lays_44 : decode cX10_lays 44 = .ok (.getfield 34, 3) := by decide +kernel
theorem dX10_lays_47 : decode cX10_lays 47 = .ok (.bipush 40, 2) := by decide +kernel
theorem dX10_lays_49 : decode cX10_lays 49 = .ok (.iload_n 1, 1) := by decide +kernel
theorem dX10_lays_50 : decode cX10_lays 50 = .ok (.imul, 1) := by decide +kernel
theorem dX10_lays_51 : decode cX10_lays 51 = .ok (.iload 4, 2) := by decide +kernel
theorem dX10_lays_53 : decode cX10_lays 53 = .ok (.iadd, 1) := by decide +kernel
theorem dX10_lays_54 : decode cX10_lays 54 = .ok (.laload, 1) := by decide +kernel
theorem dX10_lays_55 : decode cX10_lays 55 = .ok (.lconst 0, 1) := by decide +kernel
theorem dX10_lays_56 : decode cX10_lays 56 = .ok (.ldc2_w 135, 3) := by decide +kernel
theorem dX10_lays_59 : decode cX10_lays 59 = .ok (.invokestatic 54, 3) := by decide +kernel
theorem dX10_lays_62 : decode cX10_lays 62 = .ok (.istore 5, 2) := by decide +kernel
theorem dX10_lays_64 : decode cX10_lays 64 = .ok (.aload_n 0, 1) := by decide +kernel
theorem dX10_lays_65 : decode cX10_lays 65 = .ok (.getfield 7, 3) := by decide +kernel
theorem dX10_lays_68 : decode cX10_lays 68 = .ok (.iload 4, 2) := by decide +kernel
theorem dX10_lays_70 : decode cX10_lays 70 = .ok (.iconst 0, 1) := by decide +kernel
theorem dX10_lays_71 : decode cX10_lays 71 = .ok (.invokestatic 49, 3) := by decide +kernel
theorem dX10_lays_74 : decode cX10_lays 74 = .ok (.iload 5, 2) := by decide +kernel
theorem dX10_lays_76 : decode cX10_lays 76 = .ok (.ifCond .eq 19, 3) := by decide +kernel
theorem dX10_lays_79 : decode cX10_lays 79 = .ok (.aload_n 0, 1) := by decide +kernel
theorem dX10_lays_80 : decode cX10_lays 80 = .ok (.getfield 34, 3) := by decide +kernel
theorem dX10_lays_83 : decode cX10_lays 83 = .ok (.bipush 40, 2) := by decide +kernel
theorem dX10_lays_85 : decode cX10_lays 85 = .ok (.iload_n 1, 1) := by decide +kernel
theorem dX10_lays_86 : decode cX10_lays 86 = .ok (.imul, 1) := by decide +kernel
theorem dX10_lays_87 : decode cX10_lays 87 = .ok (.iload 4, 2) := by decide +kernel
theorem dX10_lays_89 : decode cX10_lays 89 = .ok (.iadd, 1) := by decide +kernel
theorem dX10_lays_90 : decode cX10_lays 90 = .ok (.laload, 1) := by decide +kernel
theorem dX10_lays_91 : decode cX10_lays 91 = .ok (.l2i, 1) := by decide +kernel
theorem dX10_lays_92 : decode cX10_lays 92 = .ok (.goto 10, 3) := by decide +kernel
theorem dX10_lays_95 : decode cX10_lays 95 = .ok (.aload_n 0, 1) := by decide +kernel
theorem dX10_lays_96 : decode cX10_lays 96 = .ok (.iload 4, 2) := by decide +kernel
theorem dX10_lays_98 : decode cX10_lays 98 = .ok (.iconst 0, 1) := by decide +kernel
theorem dX10_lays_99 : decode cX10_lays 99 = .ok (.invokevirtual 58, 3) := by decide +kernel
theorem dX10_lays_102 : decode cX10_lays 102 = .ok (.iastore, 1) := by decide +kernel
theorem dX10_lays_103 : decode cX10_lays 103 = .ok (.iload_n 3, 1) := by decide +kernel
theorem dX10_lays_104 : decode cX10_lays 104 = .ok (.iload 5, 2) := by decide +kernel
theorem dX10_lays_106 : decode cX10_lays 106 = .ok (.ifCond .eq 7, 3) := by decide +kernel
theorem dX10_lays_109 : decode cX10_lays 109 = .ok (.iconst 1, 1) := by decide +kernel
theorem dX10_lays_110 : decode cX10_lays 110 = .ok (.goto 4, 3) := by decide +kernel
theorem dX10_lays_113 : decode cX10_lays 113 = .ok (.iconst 0, 1) := by decide +kernel
theorem dX10_lays_114 : decode cX10_lays 114 = .ok (.iadd, 1) := by decide +kernel
theorem dX10_lays_115 : decode cX10_lays 115 = .ok (.istore_n 3, 1) := by decide +kernel
theorem dX10_lays_116 : decode cX10_lays 116 = .ok (.iinc 4 1, 3) := by decide +kernel
theorem dX10_lays_119 : decode cX10_lays 119 = .ok (.goto (-98), 3) := by decide +kernel
theorem dX10_lays_122 : decode cX10_lays 122 = .ok (.iload_n 3, 1) := by decide +kernel
theorem dX10_lays_123 : decode cX10_lays 123 = .ok (.ireturn, 1) := by decide +kernel
theorem dX10_book_0 : decode cX10_book 0 = .ok (.aload_n 0, 1) := by decide +kernel
theorem dX10_book_1 : decode cX10_book 1 = .ok (.iload_n 1, 1) := by decide +kernel
theorem dX10_book_2 : decode cX10_book 2 = .ok (.invokevirtual 321, 3) := by decide +kernel
theorem dX10_book_5 : decode cX10_book 5 = .ok (.istore_n 3, 1) := by decide +kernel
theorem dX10_book_6 : decode cX10_book 6 = .ok (.iload_n 3, 1) := by decide +kernel
theorem dX10_book_7 : decode cX10_book 7 = .ok (.ifCond .eq 9, 3) := by decide +kernel
theorem dX10_book_10 : decode cX10_book 10 = .ok (.aload_n 0, 1) := by decide +kernel
theorem dX10_book_11 : decode cX10_book 11 = .ok (.iload_n 3, 1) := by decide +kernel
theorem dX10_book_12 : decode cX10_book 12 = .ok (.invokevirtual 75, 3) := by decide +kernel
theorem dX10_book_15 : decode cX10_book 15 = .ok (.ireturn, 1) := by decide +kernel
theorem dX10_book_16 : decode cX10_book 16 = .ok (.aload_n 0, 1) := by decide +kernel
theorem dX10_book_17 : decode cX10_book 17 = .ok (.iload_n 2, 1) := by decide +kernel
theorem dX10_book_18 : decode cX10_book 18 = .ok (.invokevirtual 140, 3) := by decide +kernel
theorem dX10_book_21 : decode cX10_book 21 = .ok (.ifCond .ne 10, 3) := by decide +kernel
theorem dX10_book_24 : decode cX10_book 24 = .ok (.aload_n 0, 1) := by decide +kernel
theorem dX10_book_25 : decode cX10_book 25 = .ok (.ldc 45, 2) := by decide +kernel
theorem dX10_book_27 : decode cX10_book 27 = .ok (.invokevirtual 75, 3) := by decide +kernel
theorem dX10_book_30 : decode cX10_book 30 = .ok (.ireturn, 1) := by decide +kernel
theorem dX10_book_31 : decode cX10_book 31 = .ok (.aload_n 0, 1) := by decide +kernel
theorem dX10_book_32 : decode cX10_book 32 = .ok (.invokevirtual 172, 3) := by decide +kernel
theorem dX10_book_35 : decode cX10_book 35 = .ok (.iconst 0, 1) := by decide +kernel
theorem dX10_book_36 : decode cX10_book 36 = .ok (.istore 4, 2) := by decide +kernel
theorem dX10_book_38 : decode cX10_book 38 = .ok (.iload 4, 2) := by decide +kernel
theorem dX10_book_40 : decode cX10_book 40 = .ok (.aload_n 0, 1) := by decide +kernel
theorem dX10_book_41 : decode cX10_book 41 = .ok (.getfield 31, 3) := by decide +kernel
theorem dX10_book_44 : decode cX10_book 44 = .ok (.iload_n 1, 1) := by decide +kernel
theorem dX10_book_45 : decode cX10_book 45 = .ok (.iaload, 1) := by decide +kernel
theorem dX10_book_46 : decode cX10_book 46 = .ok (.if_icmp .ge 41, 3) := by decide +kernel
theorem dX10_book_49 : decode cX10_book 49 = .ok (.aload_n 0, 1) := by decide +kernel
theorem dX10_book_50 : decode cX10_book 50 = .ok (.getfield 34, 3) := by decide +kernel
theorem dX10_book_53 : decode cX10_book 53 = .ok (.bipush 40, 2) := by decide +kernel
theorem dX10_book_55 : decode cX10_book 55 = .ok (.iload_n 1, 1) := by decide +kernel
theorem dX10_book_56 : decode cX10_book 56 = .ok (.imul, 1) := by decide +kernel
theorem dX10_book_57 : decode cX10_book 57 = .ok (.iload 4, 2) := by decide +kernel
theorem dX10_book_59 : decode cX10_book 59 = .ok (.iadd, 1) := by decide +kernel
theorem dX10_book_60 : decode cX10_book 60 = .ok (.aload_n 0, 1) := by decide +kernel
theorem dX10_book_61 : decode cX10_book 61 = .ok (.getfield 28, 3) := by decide +kernel
theorem dX10_book_64 : decode cX10_book 64 = .ok (.iload_n 1, 1) := by decide +kernel
theorem dX10_book_65 : decode cX10_book 65 = .ok (.iaload, 1) := by decide +kernel
theorem dX10_book_66 : decode cX10_book 66 = .ok (.aload_n 0, 1) := by decide +kernel
theorem dX10_book_67 : decode cX10_book 67 = .ok (.iload_n 2, 1) := by decide +kernel
theorem dX10_book_68 : decode cX10_book 68 = .ok (.iconst 0, 1) := by decide +kernel
theorem dX10_book_69 : decode cX10_book 69 = .ok (.invokevirtual 58, 3) := by decide +kernel
theorem dX10_book_72 : decode cX10_book 72 = .ok (.i2l, 1) := by decide +kernel
theorem dX10_book_73 : decode cX10_book 73 = .ok (.invokestatic 324, 3) := by decide +kernel
theorem dX10_book_76 : decode cX10_book 76 = .ok (.lastore, 1) := by decide +kernel
theorem dX10_book_77 : decode cX10_book 77 = .ok (.aload_n 0, 1) := by decide +kernel
theorem dX10_book_78 : decode cX10_book 78 = .ok (.invokevirtual 160, 3) := by decide +kernel
theorem dX10_book_81 : decode cX10_book 81 = .ok (.iinc 4 1, 3) := by decide +kernel
theorem dX10_book_84 : decode cX10_book 84 = .ok (.goto (-46), 3) := by decide +kernel
theorem dX10_book_87 : decode cX10_book 87 = .ok (.aload_n 0, 1) := by decide +kernel
theorem dX10_book_88 : decode cX10_book 88 = .ok (.aload_n 0, 1) := by decide +kernel
theorem dX10_book_89 : decode cX10_book 89 = .ok (.getfield 31, 3) := by decide +kernel
theorem dX10_book_92 : decode cX10_book 92 = .ok (.iload_n 1, 1) := by decide +kernel
theorem dX10_book_93 : decode cX10_book 93 = .ok (.iaload, 1) := by decide +kernel
theorem dX10_book_94 : decode cX10_book 94 = .ok (.invokevirtual 175, 3) := by decide +kernel
theorem dX10_book_97 : decode cX10_book 97 = .ok (.ireturn, 1) := by decide +kernel
theorem dX10_isBook_0 : decode cX10_isBook 0 = .ok (.iconst 0, 1) := by decide +kernel
theorem dX10_isBook_1 : decode cX10_isBook 1 = .ok (.istore_n 3, 1) := by decide +kernel
theorem dX10_isBook_2 : decode cX10_isBook 2 = .ok (.iload_n 3, 1) := by decide +kernel
theorem dX10_isBook_3 : decode cX10_isBook 3 = .ok (.aload_n 0, 1) := by decide +kernel
theorem dX10_isBook_4 : decode cX10_isBook 4 = .ok (.getfield 31, 3) := by decide +kernel
theorem dX10_isBook_7 : decode cX10_isBook 7 = .ok (.iload_n 1, 1) := by decide +kernel
theorem dX10_isBook_8 : decode cX10_isBook 8 = .ok (.iaload, 1) := by decide +kernel
theorem dX10_isBook_9 : decode cX10_isBook 9 = .ok (.if_icmp .ge 37, 3) := by decide +kernel
theorem dX10_isBook_12 : decode cX10_isBook 12 = .ok (.aload_n 0, 1) := by decide +kernel
theorem dX10_isBook_13 : decode cX10_isBook 13 = .ok (.getfield 34, 3) := by decide +kernel
theorem dX10_isBook_16 : decode cX10_isBook 16 = .ok (.bipush 40, 2) := by decide +kernel
theorem dX10_isBook_18 : decode cX10_isBook 18 = .ok (.iload_n 1, 1) := by decide +kernel
theorem dX10_isBook_19 : decode cX10_isBook 19 = .ok (.imul, 1) := by decide +kernel
theorem dX10_isBook_20 : decode cX10_isBook 20 = .ok (.iload_n 3, 1) := by decide +kernel
theorem dX10_isBook_21 : decode cX10_isBook 21 = .ok (.iadd, 1) := by decide +kernel
theorem dX10_isBook_22 : decode cX10_isBook 22 = .ok (.laload, 1) := by decide +kernel
theorem dX10_isBook_23 : decode cX10_isBook 23 = .ok (.aload_n 0, 1) := by decide +kernel
theorem dX10_isBook_24 : decode cX10_isBook 24 = .ok (.iload_n 2, 1) := by decide +kernel
theorem dX10_isBook_25 : decode cX10_isBook 25 = .ok (.iconst 0, 1) := by decide +kernel
theorem dX10_isBook_26 : decode cX10_isBook 26 = .ok (.invokevirtual 58, 3) := by decide +kernel
theorem dX10_isBook_29 : decode cX10_isBook 29 = .ok (.i2l, 1) := by decide +kernel
theorem dX10_isBook_30 : decode cX10_isBook 30 = .ok (.lcmp, 1) := by decide +kernel
theorem dX10_isBook_31 : decode cX10_isBook 31 = .ok (.ifCond .eq 5, 3) := by decide +kernel
theorem dX10_isBook_34 : decode cX10_isBook 34 = .ok (.iconst 0, 1) := by decide +kernel
theorem dX10_isBook_35 : decode cX10_isBook 35 = .ok (.ireturn, 1) := by decide +kernel
theorem dX10_isBook_36 : decode cX10_isBook 36 = .ok (.aload_n 0, 1) := by decide +kernel
theorem dX10_isBook_37 : decode cX10_isBook 37 = .ok (.invokevirtual 160, 3) := by decide +kernel
theorem dX10_isBook_40 : decode cX10_isBook 40 = .ok (.iinc 3 1, 3) := by decide +kernel
theorem dX10_isBook_43 : decode cX10_isBook 43 = .ok (.goto (-41), 3) := by decide +kernel
theorem dX10_isBook_46 : decode cX10_isBook 46 = .ok (.iconst 1, 1) := by decide +kernel
theorem dX10_isBook_47 : decode cX10_isBook 47 = .ok (.ireturn, 1) := by decide +kernel
theorem dX10_read_0 : decode cX10_read 0 = .ok (.aload_n 0, 1) := by decide +kernel
theorem dX10_read_1 : decode cX10_read 1 = .ok (.iload_n 1, 1) := by decide +kernel
theorem dX10_read_2 : decode cX10_read 2 = .ok (.invokevirtual 321, 3) := by decide +kernel
theorem dX10_read_5 : decode cX10_read 5 = .ok (.istore 4, 2) := by decide +kernel
theorem dX10_read_7 : decode cX10_read 7 = .ok (.iload 4, 2) := by decide +kernel
theorem dX10_read_9 : decode cX10_read 9 = .ok (.ifCond .eq 10, 3) := by decide +kernel
theorem dX10_read_12 : decode cX10_read 12 = .ok (.aload_n 0, 1) := by decide +kernel
theorem dX10_read_13 : decode cX10_read 13 = .ok (.iload 4, 2) := by decide +kernel
theorem dX10_read_15 : decode cX10_read 15 = .ok (.invokevirtual 75, 3) := by decide +kernel
theorem dX10_read_18 : decode cX10_read 18 = .ok (.ireturn, 1) := by decide +kernel
theorem dX10_read_19 : decode cX10_read 19 = .ok (.aload_n 0, 1) := by decide +kernel
theorem dX10_read_20 : decode cX10_read 20 = .ok (.iload_n 2, 1) := by decide +kernel
theorem dX10_read_21 : decode cX10_read 21 = .ok (.invokevirtual 140, 3) := by decide +kernel
theorem dX10_read_24 : decode cX10_read 24 = .ok (.ifCond .eq 11, 3) := by decide +kernel
theorem dX10_read_27 : decode cX10_read 27 = .ok (.aload_n 0, 1) := by decide +kernel
theorem dX10_read_28 : decode cX10_read 28 = .ok (.iload_n 3, 1) := by decide +kernel
theorem dX10_read_29 : decode cX10_read 29 = .ok (.invokevirtual 79, 3) := by decide +kernel
theorem dX10_read_32 : decode cX10_read 32 = .ok (.ifCond .ne 10, 3) := by decide +kernel
theorem dX10_read_35 : decode cX10_read 35 = .ok (.aload_n 0, 1) := by decide +kernel
theorem dX10_read_36 : decode cX10_read 36 = .ok (.ldc 45, 2) := by decide +kernel
theorem dX10_read_38 : decode cX10_read 38 = .ok (.invokevirtual 75, 3) := by decide +kernel
theorem dX10_read_41 : decode cX10_read 41 = .ok (.ireturn, 1) := by decide +kernel
theorem dX10_read_42 : decode cX10_read 42 = .ok (.aload_n 0, 1) := by decide +kernel
theorem dX10_read_43 : decode cX10_read 43 = .ok (.invokevirtual 172, 3) := by decide +kernel
theorem dX10_read_46 : decode cX10_read 46 = .ok (.iconst 0, 1) := by decide +kernel
theorem dX10_read_47 : decode cX10_read 47 = .ok (.istore 5, 2) := by decide +kernel
theorem dX10_read_49 : decode cX10_read 49 = .ok (.iconst 0, 1) := by decide +kernel
theorem dX10_read_50 : decode cX10_read 50 = .ok (.istore 6, 2) := by decide +kernel
theorem dX10_read_52 : decode cX10_read 52 = .ok (.iload 6, 2) := by decide +kernel
theorem dX10_read_54 : decode cX10_read 54 = .ok (.bipush 36, 2) := by decide +kernel
theorem dX10_read_56 : decode cX10_read 56 = .ok (.if_icmp .ge 62, 3) := by decide +kernel
theorem dX10_read_59 : decode cX10_read 59 = .ok (.aload_n 0, 1) := by decide +kernel
theorem dX10_read_60 : decode cX10_read 60 = .ok (.getfield 7, 3) := by decide +kernel
theorem dX10_read_63 : decode cX10_read 63 = .ok (.iload_n 3, 1) := by decide +kernel
theorem dX10_read_64 : decode cX10_read 64 = .ok (.iconst 0, 1) := by decide +kernel
theorem dX10_read_65 : decode cX10_read 65 = .ok (.invokestatic 46, 3) := by decide +kernel
theorem dX10_read_68 : decode cX10_read 68 = .ok (.iload 6, 2) := by decide +kernel
theorem dX10_read_70 : decode cX10_read 70 = .ok (.bipush 6, 2) := by decide +kernel
theorem dX10_read_72 : decode cX10_read 72 = .ok (.idiv, 1) := by decide +kernel
theorem dX10_read_73 : decode cX10_read 73 = .ok (.iastore, 1) := by decide +kernel
theorem dX10_read_74 : decode cX10_read 74 = .ok (.aload_n 0, 1) := by decide +kernel
theorem dX10_read_75 : decode cX10_read 75 = .ok (.getfield 7, 3) := by decide +kernel
theorem dX10_read_78 : decode cX10_read 78 = .ok (.iload_n 2, 1) := by decide +kernel
theorem dX10_read_79 : decode cX10_read 79 = .ok (.iconst 1, 1) := by decide +kernel
theorem dX10_read_80 : decode cX10_read 80 = .ok (.invokestatic 49, 3) := by decide +kernel
theorem dX10_read_83 : decode cX10_read 83 = .ok (.iload 6, 2) := by decide +kernel
theorem dX10_read_85 : decode cX10_read 85 = .ok (.bipush 6, 2) := by decide +kernel
theorem dX10_read_87 : decode cX10_read 87 = .ok (.irem, 1) := by decide +kernel
theorem dX10_read_88 : decode cX10_read 88 = .ok (.iastore, 1) := by decide +kernel
theorem dX10_read_89 : decode cX10_read 89 = .ok (.aload_n 0, 1) := by decide +kernel
theorem dX10_read_90 : decode cX10_read 90 = .ok (.iload 5, 2) := by decide +kernel
theorem dX10_read_92 : decode cX10_read 92 = .ok (.aload_n 0, 1) := by decide +kernel
theorem dX10_read_93 : decode cX10_read 93 = .ok (.iload_n 1, 1) := by decide +kernel
theorem dX10_read_94 : decode cX10_read 94 = .ok (.iload_n 2, 1) := by decide +kernel
theorem dX10_read_95 : decode cX10_read 95 = .ok (.invokevirtual 328, 3) := by decide +kernel
theorem dX10_read_98 : decode cX10_read 98 = .ok (.ifCond .eq 7, 3) := by decide +kernel
theorem dX10_read_101 : decode cX10_read 101 = .ok (.iconst 1, 1) := by decide +kernel
theorem dX10_read_102 : decode cX10_read 102 = .ok (.goto 4, 3) := by decide +kernel
theorem dX10_read_105 : decode cX10_read 105 = .ok (.iconst 0, 1) := by decide +kernel
theorem dX10_read_106 : decode cX10_read 106 = .ok (.iadd, 1) := by decide +kernel
theorem dX10_read_107 : decode cX10_read 107 = .ok (.invokevirtual 175, 3) := by decide +kernel
theorem dX10_read_110 : decode cX10_read 110 = .ok (.istore 5, 2) := by decide +kernel
theorem dX10_read_112 : decode cX10_read 112 = .ok (.iinc 6 1, 3) := by decide +kernel
theorem dX10_read_115 : decode cX10_read 115 = .ok (.goto (-63), 3) := by decide +kernel
theorem dX10_read_118 : decode cX10_read 118 = .ok (.iload 5, 2) := by decide +kernel
theorem dX10_read_120 : decode cX10_read 120 = .ok (.ireturn, 1) := by decide +kernel
theorem dX10_image_0 : decode cX10_image 0 = .ok (.iconst 0, 1) := by decide +kernel
theorem dX10_image_1 : decode cX10_image 1 = .ok (.istore_n 1, 1) := by decide +kernel
theorem dX10_image_2 : decode cX10_image 2 = .ok (.iload_n 1, 1) := by decide +kernel
theorem dX10_image_3 : decode cX10_image 3 = .ok (.bipush 59, 2) := by decide +kernel
theorem dX10_image_5 : decode cX10_image 5 = .ok (.if_icmp .ge 21, 3) := by decide +kernel
theorem dX10_image_8 : decode cX10_image 8 = .ok (.aload_n 0, 1) := by decide +kernel
theorem dX10_image_9 : decode cX10_image 9 = .ok (.getfield 13, 3) := by decide +kernel
theorem dX10_image_12 : decode cX10_image 12 = .ok (.iload_n 1, 1) := by decide +kernel
theorem dX10_image_13 : decode cX10_image 13 = .ok (.aload_n 0, 1) := by decide +kernel
theorem dX10_image_14 : decode cX10_image 14 = .ok (.getfield 7, 3) := by decide +kernel
theorem dX10_image_17 : decode cX10_image 17 = .ok (.iload_n 1, 1) := by decide +kernel
theorem dX10_image_18 : decode cX10_image 18 = .ok (.iaload, 1) := by decide +kernel
theorem dX10_image_19 : decode cX10_image 19 = .ok (.iastore, 1) := by decide +kernel
theorem dX10_image_20 : decode cX10_image 20 = .ok (.iinc 1 1, 3) := by decide +kernel
theorem dX10_image_23 : decode cX10_image 23 = .ok (.goto (-21), 3) := by decide +kernel
theorem dX10_image_26 : decode cX10_image 26 = .ok (.aload_n 0, 1) := by decide +kernel
theorem dX10_image_27 : decode cX10_image 27 = .ok (.iconst 1, 1) := by decide +kernel
theorem dX10_image_28 : decode cX10_image 28 = .ok (.putfield 331, 3) := by decide +kernel
theorem dX10_image_31 : decode cX10_image 31 = .ok (.iconst 1, 1) := by decide +kernel
theorem dX10_image_32 : decode cX10_image 32 = .ok (.ireturn, 1) := by decide +kernel
theorem dX10_undo_0 : decode cX10_undo 0 = .ok (.aload_n 0, 1) := by decide +kernel
theorem dX10_undo_1 : decode cX10_undo 1 = .ok (.getfield 331, 3) := by decide +kernel
theorem dX10_undo_4 : decode cX10_undo 4 = .ok (.ifCond .ne 10, 3) := by decide +kernel
theorem dX10_undo_7 : decode cX10_undo 7 = .ok (.aload_n 0, 1) := by decide +kernel
theorem dX10_undo_8 : decode cX10_undo 8 = .ok (.ldc 187, 2) := by decide +kernel
theorem dX10_undo_10 : decode cX10_undo 10 = .ok (.invokevirtual 75, 3) := by decide +kernel
theorem dX10_undo_13 : decode cX10_undo 13 = .ok (.ireturn, 1) := by decide +kernel
theorem dX10_undo_14 : decode cX10_undo 14 = .ok (.iconst 0, 1) := by decide +kernel
theorem dX10_undo_15 : decode cX10_undo 15 = .ok (.istore_n 1, 1) := by decide +kernel
theorem dX10_undo_16 : decode cX10_undo 16 = .ok (.iload_n 1, 1) := by decide +kernel
theorem dX10_undo_17 : decode cX10_undo 17 = .ok (.bipush 59, 2) := by decide +kernel
theorem dX10_undo_19 : decode cX10_undo 19 = .ok (.if_icmp .ge 21, 3) := by decide +kernel
theorem dX10_undo_22 : decode cX10_undo 22 = .ok (.aload_n 0, 1) := by decide +kernel
theorem dX10_undo_23 : decode cX10_undo 23 = .ok (.getfield 7, 3) := by decide +kernel
theorem dX10_undo_26 : decode cX10_undo 26 = .ok (.iload_n 1, 1) := by decide +kernel
theorem dX10_undo_27 : decode cX10_undo 27 = .ok (.aload_n 0, 1) := by decide +kernel
theorem dX10_undo_28 : decode cX10_undo 28 = .ok (.getfield 13, 3) := by decide +kernel
theorem dX10_undo_31 : decode cX10_undo 31 = .ok (.iload_n 1, 1) := by decide +kernel
theorem dX10_undo_32 : decode cX10_undo 32 = .ok (.iaload, 1) := by decide +kernel
theorem dX10_undo_33 : decode cX10_undo 33 = .ok (.iastore, 1) := by decide +kernel
theorem dX10_undo_34 : decode cX10_undo 34 = .ok (.iinc 1 1, 3) := by decide +kernel
theorem dX10_undo_37 : decode cX10_undo 37 = .ok (.goto (-21), 3) := by decide +kernel
theorem dX10_undo_40 : decode cX10_undo 40 = .ok (.aload_n 0, 1) := by decide +kernel
theorem dX10_undo_41 : decode cX10_undo 41 = .ok (.getfield 7, 3) := by decide +kernel
theorem dX10_undo_44 : decode cX10_undo 44 = .ok (.iconst 1, 1) := by decide +kernel
theorem dX10_undo_45 : decode cX10_undo 45 = .ok (.iaload, 1) := by decide +kernel
theorem dX10_undo_46 : decode cX10_undo 46 = .ok (.ireturn, 1) := by decide +kernel
theorem dX10_tear_0 : decode cX10_tear 0 = .ok (.aload_n 0, 1) := by decide +kernel
theorem dX10_tear_1 : decode cX10_tear 1 = .ok (.getfield 331, 3) := by decide +kernel
theorem dX10_tear_4 : decode cX10_tear 4 = .ok (.ifCond .eq 7, 3) := by decide +kernel
theorem dX10_tear_7 : decode cX10_tear 7 = .ok (.iconst 1, 1) := by decide +kernel
theorem dX10_tear_8 : decode cX10_tear 8 = .ok (.goto 4, 3) := by decide +kernel
theorem dX10_tear_11 : decode cX10_tear 11 = .ok (.iconst 0, 1) := by decide +kernel
theorem dX10_tear_12 : decode cX10_tear 12 = .ok (.istore_n 1, 1) := by decide +kernel
theorem dX10_tear_13 : decode cX10_tear 13 = .ok (.aload_n 0, 1) := by decide +kernel
theorem dX10_tear_14 : decode cX10_tear 14 = .ok (.iconst 0, 1) := by decide +kernel
theorem dX10_tear_15 : decode cX10_tear 15 = .ok (.putfield 331, 3) := by decide +kernel
theorem dX10_tear_18 : decode cX10_tear 18 = .ok (.iload_n 1, 1) := by decide +kernel
theorem dX10_tear_19 : decode cX10_tear 19 = .ok (.ireturn, 1) := by decide +kernel
theorem dX10_count_0 : decode cX10_count 0 = .ok (.iload_n 1, 1) := by decide +kernel
theorem dX10_count_1 : decode cX10_count 1 = .ok (.tableswitch 55 0 3 #[31, 38, 45, 50], 31) := by decide +kernel
theorem dX10_count_32 : decode cX10_count 32 = .ok (.aload_n 0, 1) := by decide +kernel
theorem dX10_count_33 : decode cX10_count 33 = .ok (.getfield 7, 3) := by decide +kernel
theorem dX10_count_36 : decode cX10_count 36 = .ok (.iconst 1, 1) := by decide +kernel
theorem dX10_count_37 : decode cX10_count 37 = .ok (.iaload, 1) := by decide +kernel
theorem dX10_count_38 : decode cX10_count 38 = .ok (.ireturn, 1) := by decide +kernel
theorem dX10_count_39 : decode cX10_count 39 = .ok (.aload_n 0, 1) := by decide +kernel
theorem dX10_count_40 : decode cX10_count 40 = .ok (.getfield 7, 3) := by decide +kernel
theorem dX10_count_43 : decode cX10_count 43 = .ok (.iconst 2, 1) := by decide +kernel
theorem dX10_count_44 : decode cX10_count 44 = .ok (.iaload, 1) := by decide +kernel
theorem dX10_count_45 : decode cX10_count 45 = .ok (.ireturn, 1) := by decide +kernel
theorem dX10_count_46 : decode cX10_count 46 = .ok (.aload_n 0, 1) := by decide +kernel
theorem dX10_count_47 : decode cX10_count 47 = .ok (.getfield 205, 3) := by decide +kernel
theorem dX10_count_50 : decode cX10_count 50 = .ok (.ireturn, 1) := by decide +kernel
theorem dX10_count_51 : decode cX10_count 51 = .ok (.aload_n 0, 1) := by decide +kernel
theorem dX10_count_52 : decode cX10_count 52 = .ok (.invokevirtual 334, 3) := by decide +kernel
theorem dX10_count_55 : decode cX10_count 55 = .ok (.ireturn, 1) := by decide +kernel
theorem dX10_count_56 : decode cX10_count 56 = .ok (.aload_n 0, 1) := by decide +kernel
theorem dX10_count_57 : decode cX10_count 57 = .ok (.ldc 45, 2) := by decide +kernel
theorem dX10_count_59 : decode cX10_count 59 = .ok (.invokevirtual 75, 3) := by decide +kernel
theorem dX10_count_62 : decode cX10_count 62 = .ok (.ireturn, 1) := by decide +kernel
theorem dX10_status_0 : decode cX10_status 0 = .ok (.iload_n 1, 1) := by decide +kernel
theorem dX10_status_1 : decode cX10_status 1 = .ok (.i2l, 1) := by decide +kernel
theorem dX10_status_2 : decode cX10_status 2 = .ok (.ldc2_w 337, 3) := by decide +kernel
theorem dX10_status_5 : decode cX10_status 5 = .ok (.ldc2_w 339, 3) := by decide +kernel
theorem dX10_status_8 : decode cX10_status 8 = .ok (.invokestatic 54, 3) := by decide +kernel
theorem dX10_status_11 : decode cX10_status 11 = .ok (.ifCond .ne 10, 3) := by decide +kernel
theorem dX10_status_14 : decode cX10_status 14 = .ok (.aload_n 0, 1) := by decide +kernel
theorem dX10_status_15 : decode cX10_status 15 = .ok (.ldc 45, 2) := by decide +kernel
theorem dX10_status_17 : decode cX10_status 17 = .ok (.invokevirtual 75, 3) := by decide +kernel
theorem dX10_status_20 : decode cX10_status 20 = .ok (.ireturn, 1) := by decide +kernel
theorem dX10_status_21 : decode cX10_status 21 = .ok (.iconst 0, 1) := by decide +kernel
theorem dX10_status_22 : decode cX10_status 22 = .ok (.istore_n 2, 1) := by decide +kernel
theorem dX10_status_23 : decode cX10_status 23 = .ok (.iconst 0, 1) := by decide +kernel
theorem dX10_status_24 : decode cX10_status 24 = .ok (.istore_n 3, 1) := by decide +kernel
theorem dX10_status_25 : decode cX10_status 25 = .ok (.iload_n 3, 1) := by decide +kernel
theorem dX10_status_26 : decode cX10_status 26 = .ok (.bipush 7, 2) := by decide +kernel
theorem dX10_status_28 : decode cX10_status 28 = .ok (.if_icmp .ge 31, 3) := by decide +kernel
theorem dX10_status_31 : decode cX10_status 31 = .ok (.iload_n 2, 1) := by decide +kernel
theorem dX10_status_32 : decode cX10_status 32 = .ok (.iload_n 1, 1) := by decide +kernel
theorem dX10_status_33 : decode cX10_status 33 = .ok (.ifCond .lt 8, 3) := by decide +kernel
theorem dX10_status_36 : decode cX10_status 36 = .ok (.iload_n 3, 1) := by decide +kernel
theorem dX10_status_37 : decode cX10_status 37 = .ok (.iload_n 1, 1) := by decide +kernel
theorem dX10_status_38 : decode cX10_status 38 = .ok (.if_icmp .ne 12, 3) := by decide +kernel
theorem dX10_status_41 : decode cX10_status 41 = .ok (.aload_n 0, 1) := by decide +kernel
theorem dX10_status_42 : decode cX10_status 42 = .ok (.getfield 22, 3) := by decide +kernel
theorem dX10_status_45 : decode cX10_status 45 = .ok (.iload_n 3, 1) := by decide +kernel
theorem dX10_status_46 : decode cX10_status 46 = .ok (.iaload, 1) := by decide +kernel
theorem dX10_status_47 : decode cX10_status 47 = .ok (.goto 4, 3) := by decide +kernel
theorem dX10_status_50 : decode cX10_status 50 = .ok (.iconst 0, 1) := by decide +kernel
theorem dX10_status_51 : decode cX10_status 51 = .ok (.iadd, 1) := by decide +kernel
theorem dX10_status_52 : decode cX10_status 52 = .ok (.istore_n 2, 1) := by decide +kernel
theorem dX10_status_53 : decode cX10_status 53 = .ok (.iinc 3 1, 3) := by decide +kernel
theorem dX10_status_56 : decode cX10_status 56 = .ok (.goto (-31), 3) := by decide +kernel
theorem dX10_status_59 : decode cX10_status 59 = .ok (.iload_n 2, 1) := by decide +kernel
theorem dX10_status_60 : decode cX10_status 60 = .ok (.ireturn, 1) := by decide +kernel
end
section
theorem dL_law_0 : decode cL_law 0 = .ok (.new 7, 3) := by decide +kernel
theorem dL_law_3 : decode cL_law 3 = .ok (.dup, 1) := by decide +kernel
theorem dL_law_4 : decode cL_law 4 = .ok (.invokespecial 9, 3) := by decide +kernel
theorem dL_law_7 : decode cL_law 7 = .ok (.astore_n 1, 1) := by decide +kernel
theorem dL_law_8 : decode cL_law 8 = .ok (.new 10, 3) := by decide +kernel
theorem dL_law_11 : decode cL_law 11 = .ok (.dup, 1) := by decide +kernel
theorem dL_law_12 : decode cL_law 12 = .ok (.invokespecial 12, 3) := by decide +kernel
theorem dL_law_15 : decode cL_law 15 = .ok (.astore_n 2, 1) := by decide +kernel
theorem dL_law_16 : decode cL_law 16 = .ok (.iconst 0, 1) := by decide +kernel
theorem dL_law_17 : decode cL_law 17 = .ok (.istore_n 3, 1) := by decide +kernel
theorem dL_law_18 : decode cL_law 18 = .ok (.iload_n 3, 1) := by decide +kernel
theorem dL_law_19 : decode cL_law 19 = .ok (.aload_n 0, 1) := by decide +kernel
theorem dL_law_20 : decode cL_law 20 = .ok (.arraylength, 1) := by decide +kernel
theorem dL_law_21 : decode cL_law 21 = .ok (.bipush 6, 2) := by decide +kernel
theorem dL_law_23 : decode cL_law 23 = .ok (.isub, 1) := by decide +kernel
theorem dL_law_24 : decode cL_law 24 = .ok (.if_icmp .gt 1508, 3) := by decide +kernel
theorem dL_law_27 : decode cL_law 27 = .ok (.aload_n 0, 1) := by decide +kernel
theorem dL_law_28 : decode cL_law 28 = .ok (.iload_n 3, 1) := by decide +kernel
theorem dL_law_29 : decode cL_law 29 = .ok (.iaload, 1) := by decide +kernel
theorem dL_law_30 : decode cL_law 30 = .ok (.bipush 63, 2) := by decide +kernel
theorem dL_law_32 : decode cL_law 32 = .ok (.iand, 1) := by decide +kernel
theorem dL_law_33 : decode cL_law 33 = .ok (.tableswitch 1493 0 40 #[179, 212, 245, 278, 301, 324, 357, 400, 443, 476, 509, 532, 565, 608, 641, 664, 687, 730, 773, 806, 829, 862, 895, 928, 961, 994, 1047, 1070, 1103, 1116, 1129, 1172, 1246, 1309, 1332, 1365, 1408, 1421, 1434, 1447, 1470], 179) := by decide +kernel
theorem dL_law_212 : decode cL_law 212 = .ok (.aload_n 1, 1) := by decide +kernel
theorem dL_law_213 : decode cL_law 213 = .ok (.aload_n 0, 1) := by decide +kernel
theorem dL_law_214 : decode cL_law 214 = .ok (.iload_n 3, 1) := by decide +kernel
theorem dL_law_215 : decode cL_law 215 = .ok (.iconst 1, 1) := by decide +kernel
theorem dL_law_216 : decode cL_law 216 = .ok (.iadd, 1) := by decide +kernel
theorem dL_law_217 : decode cL_law 217 = .ok (.iaload, 1) := by decide +kernel
theorem dL_law_218 : decode cL_law 218 = .ok (.aload_n 0, 1) := by decide +kernel
theorem dL_law_219 : decode cL_law 219 = .ok (.iload_n 3, 1) := by decide +kernel
theorem dL_law_220 : decode cL_law 220 = .ok (.iconst 2, 1) := by decide +kernel
theorem dL_law_221 : decode cL_law 221 = .ok (.iadd, 1) := by decide +kernel
theorem dL_law_222 : decode cL_law 222 = .ok (.iaload, 1) := by decide +kernel
theorem dL_law_223 : decode cL_law 223 = .ok (.invokevirtual 13, 3) := by decide +kernel
theorem dL_law_226 : decode cL_law 226 = .ok (.aload_n 2, 1) := by decide +kernel
theorem dL_law_227 : decode cL_law 227 = .ok (.aload_n 0, 1) := by decide +kernel
theorem dL_law_228 : decode cL_law 228 = .ok (.iload_n 3, 1) := by decide +kernel
theorem dL_law_229 : decode cL_law 229 = .ok (.iconst 1, 1) := by decide +kernel
theorem dL_law_230 : decode cL_law 230 = .ok (.iadd, 1) := by decide +kernel
theorem dL_law_231 : decode cL_law 231 = .ok (.iaload, 1) := by decide +kernel
theorem dL_law_232 : decode cL_law 232 = .ok (.aload_n 0, 1) := by decide +kernel
theorem dL_law_233 : decode cL_law 233 = .ok (.iload_n 3, 1) := by decide +kernel
theorem dL_law_234 : decode cL_law 234 = .ok (.iconst 2, 1) := by decide +kernel
theorem dL_law_235 : decode cL_law 235 = .ok (.iadd, 1) := by decide +kernel
theorem dL_law_236 : decode cL_law 236 = .ok (.iaload, 1) := by decide +kernel
theorem dL_law_237 : decode cL_law 237 = .ok (.invokevirtual 17, 3) := by decide +kernel
theorem dL_law_240 : decode cL_law 240 = .ok (.if_icmp .eq 1286, 3) := by decide +kernel
theorem dL_law_243 : decode cL_law 243 = .ok (.iconst 0, 1) := by decide +kernel
theorem dL_law_244 : decode cL_law 244 = .ok (.ireturn, 1) := by decide +kernel
theorem dL_law_245 : decode cL_law 245 = .ok (.aload_n 1, 1) := by decide +kernel
theorem dL_law_246 : decode cL_law 246 = .ok (.aload_n 0, 1) := by decide +kernel
theorem dL_law_247 : decode cL_law 247 = .ok (.iload_n 3, 1) := by decide +kernel
theorem dL_law_248 : decode cL_law 248 = .ok (.iconst 1, 1) := by decide +kernel
theorem dL_law_249 : decode cL_law 249 = .ok (.iadd, 1) := by decide +kernel
theorem dL_law_250 : decode cL_law 250 = .ok (.iaload, 1) := by decide +kernel
theorem dL_law_251 : decode cL_law 251 = .ok (.aload_n 0, 1) := by decide +kernel
theorem dL_law_252 : decode cL_law 252 = .ok (.iload_n 3, 1) := by decide +kernel
theorem dL_law_253 : decode cL_law 253 = .ok (.iconst 2, 1) := by decide +kernel
theorem dL_law_254 : decode cL_law 254 = .ok (.iadd, 1) := by decide +kernel
theorem dL_law_255 : decode cL_law 255 = .ok (.iaload, 1) := by decide +kernel
theorem dL_law_256 : decode cL_law 256 = .ok (.invokevirtual 18, 3) := by decide +kernel
theorem dL_law_259 : decode cL_law 259 = .ok (.aload_n 2, 1) := by decide +kernel
theorem dL_law_260 : decode cL_law 260 = .ok (.aload_n 0, 1) := by decide +kernel
theorem dL_law_261 : decode cL_law 261 = .ok (.iload_n 3, 1) := by decide +kernel
theorem dL_law_262 : decode cL_law 262 = .ok (.iconst 1, 1) := by decide +kernel
theorem dL_law_263 : decode cL_law 263 = .ok (.iadd, 1) := by decide +kernel
theorem dL_law_264 : decode cL_law 264 = .ok (.iaload, 1) := by decide +kernel
theorem dL_law_265 : decode cL_law 265 = .ok (.aload_n 0, 1) := by decide +kernel
theorem dL_law_266 : decode cL_law 266 = .ok (.iload_n 3, 1) := by decide +kernel
theorem dL_law_267 : decode cL_law 267 = .ok (.iconst 2, 1) := by decide +kernel
theorem dL_law_268 : decode cL_law 268 = .ok (.iadd, 1) := by decide +kernel
theorem dL_law_269 : decode cL_law 269 = .ok (.iaload, 1) := by decide +kernel
theorem dL_law_270 : decode cL_law 270 = .ok (.invokevirtual 21, 3) := by decide +kernel
theorem dL_law_273 : decode cL_law 273 = .ok (.if_icmp .eq 1253, 3) := by decide +kernel
theorem dL_law_276 : decode cL_law 276 = .ok (.iconst 0, 1) := by decide +kernel
theorem dL_law_277 : decode cL_law 277 = .ok (.ireturn, 1) := by decide +kernel
theorem dL_law_278 : decode cL_law 278 = .ok (.aload_n 1, 1) := by decide +kernel
theorem dL_law_279 : decode cL_law 279 = .ok (.aload_n 0, 1) := by decide +kernel
theorem dL_law_280 : decode cL_law 280 = .ok (.iload_n 3, 1) := by decide +kernel
theorem dL_law_281 : decode cL_law 281 = .ok (.iconst 1, 1) := by decide +kernel
theorem dL_law_282 : decode cL_law 282 = .ok (.iadd, 1) := by decide +kernel
theorem dL_law_283 : decode cL_law 283 = .ok (.iaload, 1) := by decide +kernel
theorem dL_law_284 : decode cL_law 284 = .ok (.aload_n 0, 1) := by decide +kernel
theorem dL_law_285 : decode cL_law 285 = .ok (.iload_n 3, 1) := by decide +kernel
theorem dL_law_286 : decode cL_law 286 = .ok (.iconst 2, 1) := by decide +kernel
theorem dL_law_287 : decode cL_law 287 = .ok (.iadd, 1) := by decide +kernel
theorem dL_law_288 : decode cL_law 288 = .ok (.iaload, 1) := by decide +kernel
theorem dL_law_289 : decode cL_law 289 = .ok (.invokevirtual 22, 3) := by decide +kernel
theorem dL_law_292 : decode cL_law 292 = .ok (.aload_n 2, 1) := by decide +kernel
theorem dL_law_293 : decode cL_law 293 = .ok (.aload_n 0, 1) := by decide +kernel
theorem dL_law_294 : decode cL_law 294 = .ok (.iload_n 3, 1) := by decide +kernel
theorem dL_law_295 : decode cL_law 295 = .ok (.iconst 1, 1) := by decide +kernel
theorem dL_law_296 : decode cL_law 296 = .ok (.iadd, 1) := by decide +kernel
theorem dL_law_297 : decode cL_law 297 = .ok (.iaload, 1) := by decide +kernel
theorem dL_law_298 : decode cL_law 298 = .ok (.aload_n 0, 1) := by decide +kernel
theorem dL_law_299 : decode cL_law 299 = .ok (.iload_n 3, 1) := by decide +kernel
theorem dL_law_300 : decode cL_law 300 = .ok (.iconst 2, 1) := by decide +kernel
theorem dL_law_301 : decode cL_law 301 = .ok (.iadd, 1) := by decide +kernel
theorem dL_law_302 : decode cL_law 302 = .ok (.iaload, 1) := by decide +kernel
theorem dL_law_303 : decode cL_law 303 = .ok (.invokevirtual 25, 3) := by decide +kernel
theorem dL_law_306 : decode cL_law 306 = .ok (.if_icmp .eq 1220, 3) := by decide +kernel
theorem dL_law_309 : decode cL_law 309 = .ok (.iconst 0, 1) := by decide +kernel
theorem dL_law_310 : decode cL_law 310 = .ok (.ireturn, 1) := by decide +kernel
theorem dL_law_311 : decode cL_law 311 = .ok (.aload_n 1, 1) := by decide +kernel
theorem dL_law_312 : decode cL_law 312 = .ok (.aload_n 0, 1) := by decide +kernel
theorem dL_law_313 : decode cL_law 313 = .ok (.iload_n 3, 1) := by decide +kernel
theorem dL_law_314 : decode cL_law 314 = .ok (.iconst 1, 1) := by decide +kernel
theorem dL_law_315 : decode cL_law 315 = .ok (.iadd, 1) := by decide +kernel
theorem dL_law_316 : decode cL_law 316 = .ok (.iaload, 1) := by decide +kernel
theorem dL_law_317 : decode cL_law 317 = .ok (.invokevirtual 26, 3) := by decide +kernel
theorem dL_law_320 : decode cL_law 320 = .ok (.aload_n 2, 1) := by decide +kernel
theorem dL_law_321 : decode cL_law 321 = .ok (.aload_n 0, 1) := by decide +kernel
theorem dL_law_322 : decode cL_law 322 = .ok (.iload_n 3, 1) := by decide +kernel
theorem dL_law_323 : decode cL_law 323 = .ok (.iconst 1, 1) := by decide +kernel
theorem dL_law_324 : decode cL_law 324 = .ok (.iadd, 1) := by decide +kernel
theorem dL_law_325 : decode cL_law 325 = .ok (.iaload, 1) := by decide +kernel
theorem dL_law_326 : decode cL_law 326 = .ok (.invokevirtual 30, 3) := by decide +kernel
theorem dL_law_329 : decode cL_law 329 = .ok (.if_icmp .eq 1197, 3) := by decide +kernel
theorem dL_law_332 : decode cL_law 332 = .ok (.iconst 0, 1) := by decide +kernel
theorem dL_law_333 : decode cL_law 333 = .ok (.ireturn, 1) := by decide +kernel
theorem dL_law_334 : decode cL_law 334 = .ok (.aload_n 1, 1) := by decide +kernel
theorem dL_law_335 : decode cL_law 335 = .ok (.aload_n 0, 1) := by decide +kernel
theorem dL_law_336 : decode cL_law 336 = .ok (.iload_n 3, 1) := by decide +kernel
theorem dL_law_337 : decode cL_law 337 = .ok (.iconst 1, 1) := by decide +kernel
theorem dL_law_338 : decode cL_law 338 = .ok (.iadd, 1) := by decide +kernel
theorem dL_law_339 : decode cL_law 339 = .ok (.iaload, 1) := by decide +kernel
theorem dL_law_340 : decode cL_law 340 = .ok (.invokevirtual 31, 3) := by decide +kernel
theorem dL_law_343 : decode cL_law 343 = .ok (.aload_n 2, 1) := by decide +kernel
theorem dL_law_344 : decode cL_law 344 = .ok (.aload_n 0, 1) := by decide +kernel
theorem dL_law_345 : decode cL_law 345 = .ok (.iload_n 3, 1) := by decide +kernel
theorem dL_law_346 : decode cL_law 346 = .ok (.iconst 1, 1) := by decide +kernel
theorem dL_law_347 : decode cL_law 347 = .ok (.iadd, 1) := by decide +kernel
theorem dL_law_348 : decode cL_law 348 = .ok (.iaload, 1) := by decide +kernel
theorem dL_law_349 : decode cL_law 349 = .ok (.invokevirtual 34, 3) := by decide +kernel
theorem dL_law_352 : decode cL_law 352 = .ok (.if_icmp .eq 1174, 3) := by decide +kernel
theorem dL_law_355 : decode cL_law 355 = .ok (.iconst 0, 1) := by decide +kernel
theorem dL_law_356 : decode cL_law 356 = .ok (.ireturn, 1) := by decide +kernel
theorem dL_law_357 : decode cL_law 357 = .ok (.aload_n 1, 1) := by decide +kernel
theorem dL_law_358 : decode cL_law 358 = .ok (.aload_n 0, 1) := by decide +kernel
theorem dL_law_359 : decode cL_law 359 = .ok (.iload_n 3, 1) := by decide +kernel
theorem dL_law_360 : decode cL_law 360 = .ok (.iconst 1, 1) := by decide +kernel
theorem dL_law_361 : decode cL_law 361 = .ok (.iadd, 1) := by decide +kernel
theorem dL_law_362 : decode cL_law 362 = .ok (.iaload, 1) := by decide +kernel
theorem dL_law_363 : decode cL_law 363 = .ok (.aload_n 0, 1) := by decide +kernel
theorem dL_law_364 : decode cL_law 364 = .ok (.iload_n 3, 1) := by decide +kernel
theorem dL_law_365 : decode cL_law 365 = .ok (.iconst 2, 1) := by decide +kernel
theorem dL_law_366 : decode cL_law 366 = .ok (.iadd, 1) := by decide +kernel
theorem dL_law_367 : decode cL_law 367 = .ok (.iaload, 1) := by decide +kernel
theorem dL_law_368 : decode cL_law 368 = .ok (.invokevirtual 35, 3) := by decide +kernel
theorem dL_law_371 : decode cL_law 371 = .ok (.aload_n 2, 1) := by decide +kernel
theorem dL_law_372 : decode cL_law 372 = .ok (.aload_n 0, 1) := by decide +kernel
theorem dL_law_373 : decode cL_law 373 = .ok (.iload_n 3, 1) := by decide +kernel
theorem dL_law_374 : decode cL_law 374 = .ok (.iconst 1, 1) := by decide +kernel
theorem dL_law_375 : decode cL_law 375 = .ok (.iadd, 1) := by decide +kernel
theorem dL_law_376 : decode cL_law 376 = .ok (.iaload, 1) := by decide +kernel
theorem dL_law_377 : decode cL_law 377 = .ok (.aload_n 0, 1) := by decide +kernel
theorem dL_law_378 : decode cL_law 378 = .ok (.iload_n 3, 1) := by decide +kernel
theorem dL_law_379 : decode cL_law 379 = .ok (.iconst 2, 1) := by decide +kernel
theorem dL_law_380 : decode cL_law 380 = .ok (.iadd, 1) := by decide +kernel
theorem dL_law_381 : decode cL_law 381 = .ok (.iaload, 1) := by decide +kernel
theorem dL_law_382 : decode cL_law 382 = .ok (.invokevirtual 38, 3) := by decide +kernel
theorem dL_law_385 : decode cL_law 385 = .ok (.if_icmp .eq 1141, 3) := by decide +kernel
theorem dL_law_388 : decode cL_law 388 = .ok (.iconst 0, 1) := by decide +kernel
theorem dL_law_389 : decode cL_law 389 = .ok (.ireturn, 1) := by decide +kernel
theorem dL_law_390 : decode cL_law 390 = .ok (.aload_n 1, 1) := by decide +kernel
theorem dL_law_391 : decode cL_law 391 = .ok (.aload_n 0, 1) := by decide +kernel
theorem dL_law_392 : decode cL_law 392 = .ok (.iload_n 3, 1) := by decide +kernel
theorem dL_law_393 : decode cL_law 393 = .ok (.iconst 1, 1) := by decide +kernel
theorem dL_law_394 : decode cL_law 394 = .ok (.iadd, 1) := by decide +kernel
theorem dL_law_395 : decode cL_law 395 = .ok (.iaload, 1) := by decide +kernel
theorem dL_law_396 : decode cL_law 396 = .ok (.aload_n 0, 1) := by decide +kernel
theorem dL_law_397 : decode cL_law 397 = .ok (.iload_n 3, 1) := by decide +kernel
theorem dL_law_398 : decode cL_law 398 = .ok (.iconst 2, 1) := by decide +kernel
theorem dL_law_399 : decode cL_law 399 = .ok (.iadd, 1) := by decide +kernel
theorem dL_law_400 : decode cL_law 400 = .ok (.iaload, 1) := by decide +kernel
theorem dL_law_401 : decode cL_law 401 = .ok (.aload_n 0, 1) := by decide +kernel
theorem dL_law_402 : decode cL_law 402 = .ok (.iload_n 3, 1) := by decide +kernel
theorem dL_law_403 : decode cL_law 403 = .ok (.iconst 3, 1) := by decide +kernel
theorem dL_law_404 : decode cL_law 404 = .ok (.iadd, 1) := by decide +kernel
theorem dL_law_405 : decode cL_law 405 = .ok (.iaload, 1) := by decide +kernel
theorem dL_law_406 : decode cL_law 406 = .ok (.invokevirtual 39, 3) := by decide +kernel
theorem dL_law_409 : decode cL_law 409 = .ok (.aload_n 2, 1) := by decide +kernel
theorem dL_law_410 : decode cL_law 410 = .ok (.aload_n 0, 1) := by decide +kernel
theorem dL_law_411 : decode cL_law 411 = .ok (.iload_n 3, 1) := by decide +kernel
theorem dL_law_412 : decode cL_law 412 = .ok (.iconst 1, 1) := by decide +kernel
theorem dL_law_413 : decode cL_law 413 = .ok (.iadd, 1) := by decide +kernel
theorem dL_law_414 : decode cL_law 414 = .ok (.iaload, 1) := by decide +kernel
theorem dL_law_415 : decode cL_law 415 = .ok (.aload_n 0, 1) := by decide +kernel
theorem dL_law_416 : decode cL_law 416 = .ok (.iload_n 3, 1) := by decide +kernel
theorem dL_law_417 : decode cL_law 417 = .ok (.iconst 2, 1) := by decide +kernel
theorem dL_law_418 : decode cL_law 418 = .ok (.iadd, 1) := by decide +kernel
theorem dL_law_419 : decode cL_law 419 = .ok (.iaload, 1) := by decide +kernel
theorem dL_law_420 : decode cL_law 420 = .ok (.aload_n 0, 1) := by decide +kernel
theorem dL_law_421 : decode cL_law 421 = .ok (.iload_n 3, 1) := by decide +kernel
theorem dL_law_422 : decode cL_law 422 = .ok (.iconst 3, 1) := by decide +kernel
theorem dL_law_423 : decode cL_law 423 = .ok (.iadd, 1) := by decide +kernel
theorem dL_law_424 : decode cL_law 424 = .ok (.iaload, 1) := by decide +kernel
theorem dL_law_425 : decode cL_law 425 = .ok (.invokevirtual 43, 3) := by decide +kernel
theorem dL_law_428 : decode cL_law 428 = .ok (.if_icmp .eq 1098, 3) := by decide +kernel
theorem dL_law_431 : decode cL_law 431 = .ok (.iconst 0, 1) := by decide +kernel
theorem dL_law_432 : decode cL_law 432 = .ok (.ireturn, 1) := by decide +kernel
theorem dL_law_433 : decode cL_law 433 = .ok (.aload_n 1, 1) := by decide +kernel
theorem dL_law_434 : decode cL_law 434 = .ok (.aload_n 0, 1) := by decide +kernel
theorem dL_law_435 : decode cL_law 435 = .ok (.iload_n 3, 1) := by decide +kernel
theorem dL_law_436 : decode cL_law 436 = .ok (.iconst 1, 1) := by decide +kernel
theorem dL_law_437 : decode cL_law 437 = .ok (.iadd, 1) := by decide +kernel
theorem dL_law_438 : decode cL_law 438 = .ok (.iaload, 1) := by decide +kernel
theorem dL_law_439 : decode cL_law 439 = .ok (.aload_n 0, 1) := by decide +kernel
theorem dL_law_440 : decode cL_law 440 = .ok (.iload_n 3, 1) := by decide +kernel
theorem dL_law_441 : decode cL_law 441 = .ok (.iconst 2, 1) := by decide +kernel
theorem dL_law_442 : decode cL_law 442 = .ok (.iadd, 1) := by decide +kernel
theorem dL_law_443 : decode cL_law 443 = .ok (.iaload, 1) := by decide +kernel
theorem dL_law_444 : decode cL_law 444 = .ok (.aload_n 0, 1) := by decide +kernel
theorem dL_law_445 : decode cL_law 445 = .ok (.iload_n 3, 1) := by decide +kernel
theorem dL_law_446 : decode cL_law 446 = .ok (.iconst 3, 1) := by decide +kernel
theorem dL_law_447 : decode cL_law 447 = .ok (.iadd, 1) := by decide +kernel
theorem dL_law_448 : decode cL_law 448 = .ok (.iaload, 1) := by decide +kernel
theorem dL_law_449 : decode cL_law 449 = .ok (.invokevirtual 44, 3) := by decide +kernel
theorem dL_law_452 : decode cL_law 452 = .ok (.aload_n 2, 1) := by decide +kernel
theorem dL_law_453 : decode cL_law 453 = .ok (.aload_n 0, 1) := by decide +kernel
theorem dL_law_454 : decode cL_law 454 = .ok (.iload_n 3, 1) := by decide +kernel
theorem dL_law_455 : decode cL_law 455 = .ok (.iconst 1, 1) := by decide +kernel
theorem dL_law_456 : decode cL_law 456 = .ok (.iadd, 1) := by decide +kernel
theorem dL_law_457 : decode cL_law 457 = .ok (.iaload, 1) := by decide +kernel
theorem dL_law_458 : decode cL_law 458 = .ok (.aload_n 0, 1) := by decide +kernel
theorem dL_law_459 : decode cL_law 459 = .ok (.iload_n 3, 1) := by decide +kernel
theorem dL_law_460 : decode cL_law 460 = .ok (.iconst 2, 1) := by decide +kernel
theorem dL_law_461 : decode cL_law 461 = .ok (.iadd, 1) := by decide +kernel
theorem dL_law_462 : decode cL_law 462 = .ok (.iaload, 1) := by decide +kernel
theorem dL_law_463 : decode cL_law 463 = .ok (.aload_n 0, 1) := by decide +kernel
theorem dL_law_464 : decode cL_law 464 = .ok (.iload_n 3, 1) := by decide +kernel
theorem dL_law_465 : decode cL_law 465 = .ok (.iconst 3, 1) := by decide +kernel
theorem dL_law_466 : decode cL_law 466 = .ok (.iadd, 1) := by decide +kernel
theorem dL_law_467 : decode cL_law 467 = .ok (.iaload, 1) := by decide +kernel
theorem dL_law_468 : decode cL_law 468 = .ok (.invokevirtual 47, 3) := by decide +kernel
theorem dL_law_471 : decode cL_law 471 = .ok (.if_icmp .eq 1055, 3) := by decide +kernel
theorem dL_law_474 : decode cL_law 474 = .ok (.iconst 0, 1) := by decide +kernel
theorem dL_law_475 : decode cL_law 475 = .ok (.ireturn, 1) := by decide +kernel
theorem dL_law_476 : decode cL_law 476 = .ok (.aload_n 1, 1) := by decide +kernel
theorem dL_law_477 : decode cL_law 477 = .ok (.aload_n 0, 1) := by decide +kernel
theorem dL_law_478 : decode cL_law 478 = .ok (.iload_n 3, 1) := by decide +kernel
theorem dL_law_479 : decode cL_law 479 = .ok (.iconst 1, 1) := by decide +kernel
theorem dL_law_480 : decode cL_law 480 = .ok (.iadd, 1) := by decide +kernel
theorem dL_law_481 : decode cL_law 481 = .ok (.iaload, 1) := by decide +kernel
theorem dL_law_482 : decode cL_law 482 = .ok (.aload_n 0, 1) := by decide +kernel
theorem dL_law_483 : decode cL_law 483 = .ok (.iload_n 3, 1) := by decide +kernel
theorem dL_law_484 : decode cL_law 484 = .ok (.iconst 2, 1) := by decide +kernel
theorem dL_law_485 : decode cL_law 485 = .ok (.iadd, 1) := by decide +kernel
theorem dL_law_486 : decode cL_law 486 = .ok (.iaload, 1) := by decide +kernel
theorem dL_law_487 : decode cL_law 487 = .ok (.invokevirtual 48, 3) := by decide +kernel
theorem dL_law_490 : decode cL_law 490 = .ok (.aload_n 2, 1) := by decide +kernel
theorem dL_law_491 : decode cL_law 491 = .ok (.aload_n 0, 1) := by decide +kernel
theorem dL_law_492 : decode cL_law 492 = .ok (.iload_n 3, 1) := by decide +kernel
theorem dL_law_493 : decode cL_law 493 = .ok (.iconst 1, 1) := by decide +kernel
theorem dL_law_494 : decode cL_law 494 = .ok (.iadd, 1) := by decide +kernel
theorem dL_law_495 : decode cL_law 495 = .ok (.iaload, 1) := by decide +kernel
theorem dL_law_496 : decode cL_law 496 = .ok (.aload_n 0, 1) := by decide +kernel
theorem dL_law_497 : decode cL_law 497 = .ok (.iload_n 3, 1) := by decide +kernel
theorem dL_law_498 : decode cL_law 498 = .ok (.iconst 2, 1) := by decide +kernel
theorem dL_law_499 : decode cL_law 499 = .ok (.iadd, 1) := by decide +kernel
theorem dL_law_500 : decode cL_law 500 = .ok (.iaload, 1) := by decide +kernel
theorem dL_law_501 : decode cL_law 501 = .ok (.invokevirtual 51, 3) := by decide +kernel
theorem dL_law_504 : decode cL_law 504 = .ok (.if_icmp .eq 1022, 3) := by decide +kernel
theorem dL_law_507 : decode cL_law 507 = .ok (.iconst 0, 1) := by decide +kernel
theorem dL_law_508 : decode cL_law 508 = .ok (.ireturn, 1) := by decide +kernel
theorem dL_law_509 : decode cL_law 509 = .ok (.aload_n 1, 1) := by decide +kernel
theorem dL_law_510 : decode cL_law 510 = .ok (.aload_n 0, 1) := by decide +kernel
theorem dL_law_511 : decode cL_law 511 = .ok (.iload_n 3, 1) := by decide +kernel
theorem dL_law_512 : decode cL_law 512 = .ok (.iconst 1, 1) := by decide +kernel
theorem dL_law_513 : decode cL_law 513 = .ok (.iadd, 1) := by decide +kernel
theorem dL_law_514 : decode cL_law 514 = .ok (.iaload, 1) := by decide +kernel
theorem dL_law_515 : decode cL_law 515 = .ok (.aload_n 0, 1) := by decide +kernel
theorem dL_law_516 : decode cL_law 516 = .ok (.iload_n 3, 1) := by decide +kernel
theorem dL_law_517 : decode cL_law 517 = .ok (.iconst 2, 1) := by decide +kernel
theorem dL_law_518 : decode cL_law 518 = .ok (.iadd, 1) := by decide +kernel
theorem dL_law_519 : decode cL_law 519 = .ok (.iaload, 1) := by decide +kernel
theorem dL_law_520 : decode cL_law 520 = .ok (.invokevirtual 52, 3) := by decide +kernel
theorem dL_law_523 : decode cL_law 523 = .ok (.aload_n 2, 1) := by decide +kernel
theorem dL_law_524 : decode cL_law 524 = .ok (.aload_n 0, 1) := by decide +kernel
theorem dL_law_525 : decode cL_law 525 = .ok (.iload_n 3, 1) := by decide +kernel
theorem dL_law_526 : decode cL_law 526 = .ok (.iconst 1, 1) := by decide +kernel
theorem dL_law_527 : decode cL_law 527 = .ok (.iadd, 1) := by decide +kernel
theorem dL_law_528 : decode cL_law 528 = .ok (.iaload, 1) := by decide +kernel
theorem dL_law_529 : decode cL_law 529 = .ok (.aload_n 0, 1) := by decide +kernel
theorem dL_law_530 : decode cL_law 530 = .ok (.iload_n 3, 1) := by decide +kernel
theorem dL_law_531 : decode cL_law 531 = .ok (.iconst 2, 1) := by decide +kernel
theorem dL_law_532 : decode cL_law 532 = .ok (.iadd, 1) := by decide +kernel
theorem dL_law_533 : decode cL_law 533 = .ok (.iaload, 1) := by decide +kernel
theorem dL_law_534 : decode cL_law 534 = .ok (.invokevirtual 55, 3) := by decide +kernel
theorem dL_law_537 : decode cL_law 537 = .ok (.if_icmp .eq 989, 3) := by decide +kernel
theorem dL_law_540 : decode cL_law 540 = .ok (.iconst 0, 1) := by decide +kernel
theorem dL_law_541 : decode cL_law 541 = .ok (.ireturn, 1) := by decide +kernel
theorem dL_law_542 : decode cL_law 542 = .ok (.aload_n 1, 1) := by decide +kernel
theorem dL_law_543 : decode cL_law 543 = .ok (.aload_n 0, 1) := by decide +kernel
theorem dL_law_544 : decode cL_law 544 = .ok (.iload_n 3, 1) := by decide +kernel
theorem dL_law_545 : decode cL_law 545 = .ok (.iconst 1, 1) := by decide +kernel
theorem dL_law_546 : decode cL_law 546 = .ok (.iadd, 1) := by decide +kernel
theorem dL_law_547 : decode cL_law 547 = .ok (.iaload, 1) := by decide +kernel
theorem dL_law_548 : decode cL_law 548 = .ok (.invokevirtual 56, 3) := by decide +kernel
theorem dL_law_551 : decode cL_law 551 = .ok (.aload_n 2, 1) := by decide +kernel
theorem dL_law_552 : decode cL_law 552 = .ok (.aload_n 0, 1) := by decide +kernel
theorem dL_law_553 : decode cL_law 553 = .ok (.iload_n 3, 1) := by decide +kernel
theorem dL_law_554 : decode cL_law 554 = .ok (.iconst 1, 1) := by decide +kernel
theorem dL_law_555 : decode cL_law 555 = .ok (.iadd, 1) := by decide +kernel
theorem dL_law_556 : decode cL_law 556 = .ok (.iaload, 1) := by decide +kernel
theorem dL_law_557 : decode cL_law 557 = .ok (.invokevirtual 59, 3) := by decide +kernel
theorem dL_law_560 : decode cL_law 560 = .ok (.if_icmp .eq 966, 3) := by decide +kernel
theorem dL_law_563 : decode cL_law 563 = .ok (.iconst 0, 1) := by decide +kernel
theorem dL_law_564 : decode cL_law 564 = .ok (.ireturn, 1) := by decide +kernel
theorem dL_law_565 : decode cL_law 565 = .ok (.aload_n 1, 1) := by decide +kernel
theorem dL_law_566 : decode cL_law 566 = .ok (.aload_n 0, 1) := by decide +kernel
theorem dL_law_567 : decode cL_law 567 = .ok (.iload_n 3, 1) := by decide +kernel
theorem dL_law_568 : decode cL_law 568 = .ok (.iconst 1, 1) := by decide +kernel
theorem dL_law_569 : decode cL_law 569 = .ok (.iadd, 1) := by decide +kernel
theorem dL_law_570 : decode cL_law 570 = .ok (.iaload, 1) := by decide +kernel
theorem dL_law_571 : decode cL_law 571 = .ok (.aload_n 0, 1) := by decide +kernel
theorem dL_law_572 : decode cL_law 572 = .ok (.iload_n 3, 1) := by decide +kernel
theorem dL_law_573 : decode cL_law 573 = .ok (.iconst 2, 1) := by decide +kernel
theorem dL_law_574 : decode cL_law 574 = .ok (.iadd, 1) := by decide +kernel
theorem dL_law_575 : decode cL_law 575 = .ok (.iaload, 1) := by decide +kernel
theorem dL_law_576 : decode cL_law 576 = .ok (.invokevirtual 60, 3) := by decide +kernel
theorem dL_law_579 : decode cL_law 579 = .ok (.aload_n 2, 1) := by decide +kernel
theorem dL_law_580 : decode cL_law 580 = .ok (.aload_n 0, 1) := by decide +kernel
theorem dL_law_581 : decode cL_law 581 = .ok (.iload_n 3, 1) := by decide +kernel
theorem dL_law_582 : decode cL_law 582 = .ok (.iconst 1, 1) := by decide +kernel
theorem dL_law_583 : decode cL_law 583 = .ok (.iadd, 1) := by decide +kernel
theorem dL_law_584 : decode cL_law 584 = .ok (.iaload, 1) := by decide +kernel
theorem dL_law_585 : decode cL_law 585 = .ok (.aload_n 0, 1) := by decide +kernel
theorem dL_law_586 : decode cL_law 586 = .ok (.iload_n 3, 1) := by decide +kernel
theorem dL_law_587 : decode cL_law 587 = .ok (.iconst 2, 1) := by decide +kernel
theorem dL_law_588 : decode cL_law 588 = .ok (.iadd, 1) := by decide +kernel
theorem dL_law_589 : decode cL_law 589 = .ok (.iaload, 1) := by decide +kernel
theorem dL_law_590 : decode cL_law 590 = .ok (.invokevirtual 63, 3) := by decide +kernel
theorem dL_law_593 : decode cL_law 593 = .ok (.if_icmp .eq 933, 3) := by decide +kernel
theorem dL_law_596 : decode cL_law 596 = .ok (.iconst 0, 1) := by decide +kernel
theorem dL_law_597 : decode cL_law 597 = .ok (.ireturn, 1) := by decide +kernel
theorem dL_law_598 : decode cL_law 598 = .ok (.aload_n 1, 1) := by decide +kernel
theorem dL_law_599 : decode cL_law 599 = .ok (.aload_n 0, 1) := by decide +kernel
theorem dL_law_600 : decode cL_law 600 = .ok (.iload_n 3, 1) := by decide +kernel
theorem dL_law_601 : decode cL_law 601 = .ok (.iconst 1, 1) := by decide +kernel
theorem dL_law_602 : decode cL_law 602 = .ok (.iadd, 1) := by decide +kernel
theorem dL_law_603 : decode cL_law 603 = .ok (.iaload, 1) := by decide +kernel
theorem dL_law_604 : decode cL_law 604 = .ok (.aload_n 0, 1) := by decide +kernel
theorem dL_law_605 : decode cL_law 605 = .ok (.iload_n 3, 1) := by decide +kernel
theorem dL_law_606 : decode cL_law 606 = .ok (.iconst 2, 1) := by decide +kernel
theorem dL_law_607 : decode cL_law 607 = .ok (.iadd, 1) := by decide +kernel
theorem dL_law_608 : decode cL_law 608 = .ok (.iaload, 1) := by decide +kernel
theorem dL_law_609 : decode cL_law 609 = .ok (.aload_n 0, 1) := by decide +kernel
theorem dL_law_610 : decode cL_law 610 = .ok (.iload_n 3, 1) := by decide +kernel
theorem dL_law_611 : decode cL_law 611 = .ok (.iconst 3, 1) := by decide +kernel
theorem dL_law_612 : decode cL_law 612 = .ok (.iadd, 1) := by decide +kernel
theorem dL_law_613 : decode cL_law 613 = .ok (.iaload, 1) := by decide +kernel
theorem dL_law_614 : decode cL_law 614 = .ok (.invokevirtual 64, 3) := by decide +kernel
theorem dL_law_617 : decode cL_law 617 = .ok (.aload_n 2, 1) := by decide +kernel
theorem dL_law_618 : decode cL_law 618 = .ok (.aload_n 0, 1) := by decide +kernel
theorem dL_law_619 : decode cL_law 619 = .ok (.iload_n 3, 1) := by decide +kernel
theorem dL_law_620 : decode cL_law 620 = .ok (.iconst 1, 1) := by decide +kernel
theorem dL_law_621 : decode cL_law 621 = .ok (.iadd, 1) := by decide +kernel
theorem dL_law_622 : decode cL_law 622 = .ok (.iaload, 1) := by decide +kernel
theorem dL_law_623 : decode cL_law 623 = .ok (.aload_n 0, 1) := by decide +kernel
theorem dL_law_624 : decode cL_law 624 = .ok (.iload_n 3, 1) := by decide +kernel
theorem dL_law_625 : decode cL_law 625 = .ok (.iconst 2, 1) := by decide +kernel
theorem dL_law_626 : decode cL_law 626 = .ok (.iadd, 1) := by decide +kernel
theorem dL_law_627 : decode cL_law 627 = .ok (.iaload, 1) := by decide +kernel
theorem dL_law_628 : decode cL_law 628 = .ok (.aload_n 0, 1) := by decide +kernel
theorem dL_law_629 : decode cL_law 629 = .ok (.iload_n 3, 1) := by decide +kernel
theorem dL_law_630 : decode cL_law 630 = .ok (.iconst 3, 1) := by decide +kernel
theorem dL_law_631 : decode cL_law 631 = .ok (.iadd, 1) := by decide +kernel
theorem dL_law_632 : decode cL_law 632 = .ok (.iaload, 1) := by decide +kernel
theorem dL_law_633 : decode cL_law 633 = .ok (.invokevirtual 67, 3) := by decide +kernel
theorem dL_law_636 : decode cL_law 636 = .ok (.if_icmp .eq 890, 3) := by decide +kernel
theorem dL_law_639 : decode cL_law 639 = .ok (.iconst 0, 1) := by decide +kernel
theorem dL_law_640 : decode cL_law 640 = .ok (.ireturn, 1) := by decide +kernel
theorem dL_law_641 : decode cL_law 641 = .ok (.aload_n 1, 1) := by decide +kernel
theorem dL_law_642 : decode cL_law 642 = .ok (.aload_n 0, 1) := by decide +kernel
theorem dL_law_643 : decode cL_law 643 = .ok (.iload_n 3, 1) := by decide +kernel
theorem dL_law_644 : decode cL_law 644 = .ok (.iconst 1, 1) := by decide +kernel
theorem dL_law_645 : decode cL_law 645 = .ok (.iadd, 1) := by decide +kernel
theorem dL_law_646 : decode cL_law 646 = .ok (.iaload, 1) := by decide +kernel
theorem dL_law_647 : decode cL_law 647 = .ok (.aload_n 0, 1) := by decide +kernel
theorem dL_law_648 : decode cL_law 648 = .ok (.iload_n 3, 1) := by decide +kernel
theorem dL_law_649 : decode cL_law 649 = .ok (.iconst 2, 1) := by decide +kernel
theorem dL_law_650 : decode cL_law 650 = .ok (.iadd, 1) := by decide +kernel
theorem dL_law_651 : decode cL_law 651 = .ok (.iaload, 1) := by decide +kernel
theorem dL_law_652 : decode cL_law 652 = .ok (.invokevirtual 68, 3) := by decide +kernel
theorem dL_law_655 : decode cL_law 655 = .ok (.aload_n 2, 1) := by decide +kernel
theorem dL_law_656 : decode cL_law 656 = .ok (.aload_n 0, 1) := by decide +kernel
theorem dL_law_657 : decode cL_law 657 = .ok (.iload_n 3, 1) := by decide +kernel
theorem dL_law_658 : decode cL_law 658 = .ok (.iconst 1, 1) := by decide +kernel
theorem dL_law_659 : decode cL_law 659 = .ok (.iadd, 1) := by decide +kernel
theorem dL_law_660 : decode cL_law 660 = .ok (.iaload, 1) := by decide +kernel
theorem dL_law_661 : decode cL_law 661 = .ok (.aload_n 0, 1) := by decide +kernel
theorem dL_law_662 : decode cL_law 662 = .ok (.iload_n 3, 1) := by decide +kernel
theorem dL_law_663 : decode cL_law 663 = .ok (.iconst 2, 1) := by decide +kernel
theorem dL_law_664 : decode cL_law 664 = .ok (.iadd, 1) := by decide +kernel
theorem dL_law_665 : decode cL_law 665 = .ok (.iaload, 1) := by decide +kernel
theorem dL_law_666 : decode cL_law 666 = .ok (.invokevirtual 71, 3) := by decide +kernel
theorem dL_law_669 : decode cL_law 669 = .ok (.if_icmp .eq 857, 3) := by decide +kernel
theorem dL_law_672 : decode cL_law 672 = .ok (.iconst 0, 1) := by decide +kernel
theorem dL_law_673 : decode cL_law 673 = .ok (.ireturn, 1) := by decide +kernel
theorem dL_law_674 : decode cL_law 674 = .ok (.aload_n 1, 1) := by decide +kernel
theorem dL_law_675 : decode cL_law 675 = .ok (.aload_n 0, 1) := by decide +kernel
theorem dL_law_676 : decode cL_law 676 = .ok (.iload_n 3, 1) := by decide +kernel
theorem dL_law_677 : decode cL_law 677 = .ok (.iconst 1, 1) := by decide +kernel
theorem dL_law_678 : decode cL_law 678 = .ok (.iadd, 1) := by decide +kernel
theorem dL_law_679 : decode cL_law 679 = .ok (.iaload, 1) := by decide +kernel
theorem dL_law_680 : decode cL_law 680 = .ok (.invokevirtual 72, 3) := by decide +kernel
theorem dL_law_683 : decode cL_law 683 = .ok (.aload_n 2, 1) := by decide +kernel
theorem dL_law_684 : decode cL_law 684 = .ok (.aload_n 0, 1) := by decide +kernel
theorem dL_law_685 : decode cL_law 685 = .ok (.iload_n 3, 1) := by decide +kernel
theorem dL_law_686 : decode cL_law 686 = .ok (.iconst 1, 1) := by decide +kernel
theorem dL_law_687 : decode cL_law 687 = .ok (.iadd, 1) := by decide +kernel
theorem dL_law_688 : decode cL_law 688 = .ok (.iaload, 1) := by decide +kernel
theorem dL_law_689 : decode cL_law 689 = .ok (.invokevirtual 75, 3) := by decide +kernel
theorem dL_law_692 : decode cL_law 692 = .ok (.if_icmp .eq 834, 3) := by decide +kernel
theorem dL_law_695 : decode cL_law 695 = .ok (.iconst 0, 1) := by decide +kernel
theorem dL_law_696 : decode cL_law 696 = .ok (.ireturn, 1) := by decide +kernel
theorem dL_law_697 : decode cL_law 697 = .ok (.aload_n 1, 1) := by decide +kernel
theorem dL_law_698 : decode cL_law 698 = .ok (.aload_n 0, 1) := by decide +kernel
theorem dL_law_699 : decode cL_law 699 = .ok (.iload_n 3, 1) := by decide +kernel
theorem dL_law_700 : decode cL_law 700 = .ok (.iconst 1, 1) := by decide +kernel
theorem dL_law_701 : decode cL_law 701 = .ok (.iadd, 1) := by decide +kernel
theorem dL_law_702 : decode cL_law 702 = .ok (.iaload, 1) := by decide +kernel
theorem dL_law_703 : decode cL_law 703 = .ok (.invokevirtual 76, 3) := by decide +kernel
theorem dL_law_706 : decode cL_law 706 = .ok (.aload_n 2, 1) := by decide +kernel
theorem dL_law_707 : decode cL_law 707 = .ok (.aload_n 0, 1) := by decide +kernel
theorem dL_law_708 : decode cL_law 708 = .ok (.iload_n 3, 1) := by decide +kernel
theorem dL_law_709 : decode cL_law 709 = .ok (.iconst 1, 1) := by decide +kernel
theorem dL_law_710 : decode cL_law 710 = .ok (.iadd, 1) := by decide +kernel
theorem dL_law_711 : decode cL_law 711 = .ok (.iaload, 1) := by decide +kernel
theorem dL_law_712 : decode cL_law 712 = .ok (.invokevirtual 79, 3) := by decide +kernel
theorem dL_law_715 : decode cL_law 715 = .ok (.if_icmp .eq 811, 3) := by decide +kernel
theorem dL_law_718 : decode cL_law 718 = .ok (.iconst 0, 1) := by decide +kernel
theorem dL_law_719 : decode cL_law 719 = .ok (.ireturn, 1) := by decide +kernel
theorem dL_law_720 : decode cL_law 720 = .ok (.aload_n 1, 1) := by decide +kernel
theorem dL_law_721 : decode cL_law 721 = .ok (.aload_n 0, 1) := by decide +kernel
theorem dL_law_722 : decode cL_law 722 = .ok (.iload_n 3, 1) := by decide +kernel
theorem dL_law_723 : decode cL_law 723 = .ok (.iconst 1, 1) := by decide +kernel
theorem dL_law_724 : decode cL_law 724 = .ok (.iadd, 1) := by decide +kernel
theorem dL_law_725 : decode cL_law 725 = .ok (.iaload, 1) := by decide +kernel
theorem dL_law_726 : decode cL_law 726 = .ok (.aload_n 0, 1) := by decide +kernel
theorem dL_law_727 : decode cL_law 727 = .ok (.iload_n 3, 1) := by decide +kernel
theorem dL_law_728 : decode cL_law 728 = .ok (.iconst 2, 1) := by decide +kernel
theorem dL_law_729 : decode cL_law 729 = .ok (.iadd, 1) := by decide +kernel
theorem dL_law_730 : decode cL_law 730 = .ok (.iaload, 1) := by decide +kernel
theorem dL_law_731 : decode cL_law 731 = .ok (.aload_n 0, 1) := by decide +kernel
theorem dL_law_732 : decode cL_law 732 = .ok (.iload_n 3, 1) := by decide +kernel
theorem dL_law_733 : decode cL_law 733 = .ok (.iconst 3, 1) := by decide +kernel
theorem dL_law_734 : decode cL_law 734 = .ok (.iadd, 1) := by decide +kernel
theorem dL_law_735 : decode cL_law 735 = .ok (.iaload, 1) := by decide +kernel
theorem dL_law_736 : decode cL_law 736 = .ok (.invokevirtual 80, 3) := by decide +kernel
theorem dL_law_739 : decode cL_law 739 = .ok (.aload_n 2, 1) := by decide +kernel
theorem dL_law_740 : decode cL_law 740 = .ok (.aload_n 0, 1) := by decide +kernel
theorem dL_law_741 : decode cL_law 741 = .ok (.iload_n 3, 1) := by decide +kernel
theorem dL_law_742 : decode cL_law 742 = .ok (.iconst 1, 1) := by decide +kernel
theorem dL_law_743 : decode cL_law 743 = .ok (.iadd, 1) := by decide +kernel
theorem dL_law_744 : decode cL_law 744 = .ok (.iaload, 1) := by decide +kernel
theorem dL_law_745 : decode cL_law 745 = .ok (.aload_n 0, 1) := by decide +kernel
theorem dL_law_746 : decode cL_law 746 = .ok (.iload_n 3, 1) := by decide +kernel
theorem dL_law_747 : decode cL_law 747 = .ok (.iconst 2, 1) := by decide +kernel
theorem dL_law_748 : decode cL_law 748 = .ok (.iadd, 1) := by decide +kernel
theorem dL_law_749 : decode cL_law 749 = .ok (.iaload, 1) := by decide +kernel
theorem dL_law_750 : decode cL_law 750 = .ok (.aload_n 0, 1) := by decide +kernel
theorem dL_law_751 : decode cL_law 751 = .ok (.iload_n 3, 1) := by decide +kernel
theorem dL_law_752 : decode cL_law 752 = .ok (.iconst 3, 1) := by decide +kernel
theorem dL_law_753 : decode cL_law 753 = .ok (.iadd, 1) := by decide +kernel
theorem dL_law_754 : decode cL_law 754 = .ok (.iaload, 1) := by decide +kernel
theorem dL_law_755 : decode cL_law 755 = .ok (.invokevirtual 83, 3) := by decide +kernel
theorem dL_law_758 : decode cL_law 758 = .ok (.if_icmp .eq 768, 3) := by decide +kernel
theorem dL_law_761 : decode cL_law 761 = .ok (.iconst 0, 1) := by decide +kernel
theorem dL_law_762 : decode cL_law 762 = .ok (.ireturn, 1) := by decide +kernel
theorem dL_law_763 : decode cL_law 763 = .ok (.aload_n 1, 1) := by decide +kernel
theorem dL_law_764 : decode cL_law 764 = .ok (.aload_n 0, 1) := by decide +kernel
theorem dL_law_765 : decode cL_law 765 = .ok (.iload_n 3, 1) := by decide +kernel
theorem dL_law_766 : decode cL_law 766 = .ok (.iconst 1, 1) := by decide +kernel
theorem dL_law_767 : decode cL_law 767 = .ok (.iadd, 1) := by decide +kernel
theorem dL_law_768 : decode cL_law 768 = .ok (.iaload, 1) := by decide +kernel
theorem dL_law_769 : decode cL_law 769 = .ok (.aload_n 0, 1) := by decide +kernel
theorem dL_law_770 : decode cL_law 770 = .ok (.iload_n 3, 1) := by decide +kernel
theorem dL_law_771 : decode cL_law 771 = .ok (.iconst 2, 1) := by decide +kernel
theorem dL_law_772 : decode cL_law 772 = .ok (.iadd, 1) := by decide +kernel
theorem dL_law_773 : decode cL_law 773 = .ok (.iaload, 1) := by decide +kernel
theorem dL_law_774 : decode cL_law 774 = .ok (.aload_n 0, 1) := by decide +kernel
theorem dL_law_775 : decode cL_law 775 = .ok (.iload_n 3, 1) := by decide +kernel
theorem dL_law_776 : decode cL_law 776 = .ok (.iconst 3, 1) := by decide +kernel
theorem dL_law_777 : decode cL_law 777 = .ok (.iadd, 1) := by decide +kernel
theorem dL_law_778 : decode cL_law 778 = .ok (.iaload, 1) := by decide +kernel
theorem dL_law_779 : decode cL_law 779 = .ok (.invokevirtual 84, 3) := by decide +kernel
theorem dL_law_782 : decode cL_law 782 = .ok (.aload_n 2, 1) := by decide +kernel
theorem dL_law_783 : decode cL_law 783 = .ok (.aload_n 0, 1) := by decide +kernel
theorem dL_law_784 : decode cL_law 784 = .ok (.iload_n 3, 1) := by decide +kernel
theorem dL_law_785 : decode cL_law 785 = .ok (.iconst 1, 1) := by decide +kernel
theorem dL_law_786 : decode cL_law 786 = .ok (.iadd, 1) := by decide +kernel
theorem dL_law_787 : decode cL_law 787 = .ok (.iaload, 1) := by decide +kernel
theorem dL_law_788 : decode cL_law 788 = .ok (.aload_n 0, 1) := by decide +kernel
theorem dL_law_789 : decode cL_law 789 = .ok (.iload_n 3, 1) := by decide +kernel
theorem dL_law_790 : decode cL_law 790 = .ok (.iconst 2, 1) := by decide +kernel
theorem dL_law_791 : decode cL_law 791 = .ok (.iadd, 1) := by decide +kernel
theorem dL_law_792 : decode cL_law 792 = .ok (.iaload, 1) := by decide +kernel
theorem dL_law_793 : decode cL_law 793 = .ok (.aload_n 0, 1) := by decide +kernel
theorem dL_law_794 : decode cL_law 794 = .ok (.iload_n 3, 1) := by decide +kernel
theorem dL_law_795 : decode cL_law 795 = .ok (.iconst 3, 1) := by decide +kernel
theorem dL_law_796 : decode cL_law 796 = .ok (.iadd, 1) := by decide +kernel
theorem dL_law_797 : decode cL_law 797 = .ok (.iaload, 1) := by decide +kernel
theorem dL_law_798 : decode cL_law 798 = .ok (.invokevirtual 87, 3) := by decide +kernel
theorem dL_law_801 : decode cL_law 801 = .ok (.if_icmp .eq 725, 3) := by decide +kernel
theorem dL_law_804 : decode cL_law 804 = .ok (.iconst 0, 1) := by decide +kernel
theorem dL_law_805 : decode cL_law 805 = .ok (.ireturn, 1) := by decide +kernel
theorem dL_law_806 : decode cL_law 806 = .ok (.aload_n 1, 1) := by decide +kernel
theorem dL_law_807 : decode cL_law 807 = .ok (.aload_n 0, 1) := by decide +kernel
theorem dL_law_808 : decode cL_law 808 = .ok (.iload_n 3, 1) := by decide +kernel
theorem dL_law_809 : decode cL_law 809 = .ok (.iconst 1, 1) := by decide +kernel
theorem dL_law_810 : decode cL_law 810 = .ok (.iadd, 1) := by decide +kernel
theorem dL_law_811 : decode cL_law 811 = .ok (.iaload, 1) := by decide +kernel
theorem dL_law_812 : decode cL_law 812 = .ok (.aload_n 0, 1) := by decide +kernel
theorem dL_law_813 : decode cL_law 813 = .ok (.iload_n 3, 1) := by decide +kernel
theorem dL_law_814 : decode cL_law 814 = .ok (.iconst 2, 1) := by decide +kernel
theorem dL_law_815 : decode cL_law 815 = .ok (.iadd, 1) := by decide +kernel
theorem dL_law_816 : decode cL_law 816 = .ok (.iaload, 1) := by decide +kernel
theorem dL_law_817 : decode cL_law 817 = .ok (.invokevirtual 88, 3) := by decide +kernel
theorem dL_law_820 : decode cL_law 820 = .ok (.aload_n 2, 1) := by decide +kernel
theorem dL_law_821 : decode cL_law 821 = .ok (.aload_n 0, 1) := by decide +kernel
theorem dL_law_822 : decode cL_law 822 = .ok (.iload_n 3, 1) := by decide +kernel
theorem dL_law_823 : decode cL_law 823 = .ok (.iconst 1, 1) := by decide +kernel
theorem dL_law_824 : decode cL_law 824 = .ok (.iadd, 1) := by decide +kernel
theorem dL_law_825 : decode cL_law 825 = .ok (.iaload, 1) := by decide +kernel
theorem dL_law_826 : decode cL_law 826 = .ok (.aload_n 0, 1) := by decide +kernel
theorem dL_law_827 : decode cL_law 827 = .ok (.iload_n 3, 1) := by decide +kernel
theorem dL_law_828 : decode cL_law 828 = .ok (.iconst 2, 1) := by decide +kernel
theorem dL_law_829 : decode cL_law 829 = .ok (.iadd, 1) := by decide +kernel
theorem dL_law_830 : decode cL_law 830 = .ok (.iaload, 1) := by decide +kernel
theorem dL_law_831 : decode cL_law 831 = .ok (.invokevirtual 91, 3) := by decide +kernel
theorem dL_law_834 : decode cL_law 834 = .ok (.if_icmp .eq 692, 3) := by decide +kernel
theorem dL_law_837 : decode cL_law 837 = .ok (.iconst 0, 1) := by decide +kernel
theorem dL_law_838 : decode cL_law 838 = .ok (.ireturn, 1) := by decide +kernel
theorem dL_law_839 : decode cL_law 839 = .ok (.aload_n 1, 1) := by decide +kernel
theorem dL_law_840 : decode cL_law 840 = .ok (.aload_n 0, 1) := by decide +kernel
theorem dL_law_841 : decode cL_law 841 = .ok (.iload_n 3, 1) := by decide +kernel
theorem dL_law_842 : decode cL_law 842 = .ok (.iconst 1, 1) := by decide +kernel
theorem dL_law_843 : decode cL_law 843 = .ok (.iadd, 1) := by decide +kernel
theorem dL_law_844 : decode cL_law 844 = .ok (.iaload, 1) := by decide +kernel
theorem dL_law_845 : decode cL_law 845 = .ok (.invokevirtual 92, 3) := by decide +kernel
theorem dL_law_848 : decode cL_law 848 = .ok (.aload_n 2, 1) := by decide +kernel
theorem dL_law_849 : decode cL_law 849 = .ok (.aload_n 0, 1) := by decide +kernel
theorem dL_law_850 : decode cL_law 850 = .ok (.iload_n 3, 1) := by decide +kernel
theorem dL_law_851 : decode cL_law 851 = .ok (.iconst 1, 1) := by decide +kernel
theorem dL_law_852 : decode cL_law 852 = .ok (.iadd, 1) := by decide +kernel
theorem dL_law_853 : decode cL_law 853 = .ok (.iaload, 1) := by decide +kernel
theorem dL_law_854 : decode cL_law 854 = .ok (.invokevirtual 95, 3) := by decide +kernel
theorem dL_law_857 : decode cL_law 857 = .ok (.if_icmp .eq 669, 3) := by decide +kernel
theorem dL_law_860 : decode cL_law 860 = .ok (.iconst 0, 1) := by decide +kernel
theorem dL_law_861 : decode cL_law 861 = .ok (.ireturn, 1) := by decide +kernel
theorem dL_law_862 : decode cL_law 862 = .ok (.aload_n 1, 1) := by decide +kernel
theorem dL_law_863 : decode cL_law 863 = .ok (.aload_n 0, 1) := by decide +kernel
theorem dL_law_864 : decode cL_law 864 = .ok (.iload_n 3, 1) := by decide +kernel
theorem dL_law_865 : decode cL_law 865 = .ok (.iconst 1, 1) := by decide +kernel
theorem dL_law_866 : decode cL_law 866 = .ok (.iadd, 1) := by decide +kernel
theorem dL_law_867 : decode cL_law 867 = .ok (.iaload, 1) := by decide +kernel
theorem dL_law_868 : decode cL_law 868 = .ok (.aload_n 0, 1) := by decide +kernel
theorem dL_law_869 : decode cL_law 869 = .ok (.iload_n 3, 1) := by decide +kernel
theorem dL_law_870 : decode cL_law 870 = .ok (.iconst 2, 1) := by decide +kernel
theorem dL_law_871 : decode cL_law 871 = .ok (.iadd, 1) := by decide +kernel
theorem dL_law_872 : decode cL_law 872 = .ok (.iaload, 1) := by decide +kernel
theorem dL_law_873 : decode cL_law 873 = .ok (.invokevirtual 96, 3) := by decide +kernel
theorem dL_law_876 : decode cL_law 876 = .ok (.aload_n 2, 1) := by decide +kernel
theorem dL_law_877 : decode cL_law 877 = .ok (.aload_n 0, 1) := by decide +kernel
theorem dL_law_878 : decode cL_law 878 = .ok (.iload_n 3, 1) := by decide +kernel
theorem dL_law_879 : decode cL_law 879 = .ok (.iconst 1, 1) := by decide +kernel
theorem dL_law_880 : decode cL_law 880 = .ok (.iadd, 1) := by decide +kernel
theorem dL_law_881 : decode cL_law 881 = .ok (.iaload, 1) := by decide +kernel
theorem dL_law_882 : decode cL_law 882 = .ok (.aload_n 0, 1) := by decide +kernel
theorem dL_law_883 : decode cL_law 883 = .ok (.iload_n 3, 1) := by decide +kernel
theorem dL_law_884 : decode cL_law 884 = .ok (.iconst 2, 1) := by decide +kernel
theorem dL_law_885 : decode cL_law 885 = .ok (.iadd, 1) := by decide +kernel
theorem dL_law_886 : decode cL_law 886 = .ok (.iaload, 1) := by decide +kernel
theorem dL_law_887 : decode cL_law 887 = .ok (.invokevirtual 99, 3) := by decide +kernel
theorem dL_law_890 : decode cL_law 890 = .ok (.if_icmp .eq 636, 3) := by decide +kernel
theorem dL_law_893 : decode cL_law 893 = .ok (.iconst 0, 1) := by decide +kernel
theorem dL_law_894 : decode cL_law 894 = .ok (.ireturn, 1) := by decide +kernel
theorem dL_law_895 : decode cL_law 895 = .ok (.aload_n 1, 1) := by decide +kernel
theorem dL_law_896 : decode cL_law 896 = .ok (.aload_n 0, 1) := by decide +kernel
theorem dL_law_897 : decode cL_law 897 = .ok (.iload_n 3, 1) := by decide +kernel
theorem dL_law_898 : decode cL_law 898 = .ok (.iconst 1, 1) := by decide +kernel
theorem dL_law_899 : decode cL_law 899 = .ok (.iadd, 1) := by decide +kernel
theorem dL_law_900 : decode cL_law 900 = .ok (.iaload, 1) := by decide +kernel
theorem dL_law_901 : decode cL_law 901 = .ok (.aload_n 0, 1) := by decide +kernel
theorem dL_law_902 : decode cL_law 902 = .ok (.iload_n 3, 1) := by decide +kernel
theorem dL_law_903 : decode cL_law 903 = .ok (.iconst 2, 1) := by decide +kernel
theorem dL_law_904 : decode cL_law 904 = .ok (.iadd, 1) := by decide +kernel
theorem dL_law_905 : decode cL_law 905 = .ok (.iaload, 1) := by decide +kernel
theorem dL_law_906 : decode cL_law 906 = .ok (.invokevirtual 100, 3) := by decide +kernel
theorem dL_law_909 : decode cL_law 909 = .ok (.aload_n 2, 1) := by decide +kernel
theorem dL_law_910 : decode cL_law 910 = .ok (.aload_n 0, 1) := by decide +kernel
theorem dL_law_911 : decode cL_law 911 = .ok (.iload_n 3, 1) := by decide +kernel
theorem dL_law_912 : decode cL_law 912 = .ok (.iconst 1, 1) := by decide +kernel
theorem dL_law_913 : decode cL_law 913 = .ok (.iadd, 1) := by decide +kernel
theorem dL_law_914 : decode cL_law 914 = .ok (.iaload, 1) := by decide +kernel
theorem dL_law_915 : decode cL_law 915 = .ok (.aload_n 0, 1) := by decide +kernel
theorem dL_law_916 : decode cL_law 916 = .ok (.iload_n 3, 1) := by decide +kernel
theorem dL_law_917 : decode cL_law 917 = .ok (.iconst 2, 1) := by decide +kernel
theorem dL_law_918 : decode cL_law 918 = .ok (.iadd, 1) := by decide +kernel
theorem dL_law_919 : decode cL_law 919 = .ok (.iaload, 1) := by decide +kernel
theorem dL_law_920 : decode cL_law 920 = .ok (.invokevirtual 103, 3) := by decide +kernel
theorem dL_law_923 : decode cL_law 923 = .ok (.if_icmp .eq 603, 3) := by decide +kernel
theorem dL_law_926 : decode cL_law 926 = .ok (.iconst 0, 1) := by decide +kernel
theorem dL_law_927 : decode cL_law 927 = .ok (.ireturn, 1) := by decide +kernel
theorem dL_law_928 : decode cL_law 928 = .ok (.aload_n 1, 1) := by decide +kernel
theorem dL_law_929 : decode cL_law 929 = .ok (.aload_n 0, 1) := by decide +kernel
theorem dL_law_930 : decode cL_law 930 = .ok (.iload_n 3, 1) := by decide +kernel
theorem dL_law_931 : decode cL_law 931 = .ok (.iconst 1, 1) := by decide +kernel
theorem dL_law_932 : decode cL_law 932 = .ok (.iadd, 1) := by decide +kernel
theorem dL_law_933 : decode cL_law 933 = .ok (.iaload, 1) := by decide +kernel
theorem dL_law_934 : decode cL_law 934 = .ok (.aload_n 0, 1) := by decide +kernel
theorem dL_law_935 : decode cL_law 935 = .ok (.iload_n 3, 1) := by decide +kernel
theorem dL_law_936 : decode cL_law 936 = .ok (.iconst 2, 1) := by decide +kernel
theorem dL_law_937 : decode cL_law 937 = .ok (.iadd, 1) := by decide +kernel
theorem dL_law_938 : decode cL_law 938 = .ok (.iaload, 1) := by decide +kernel
theorem dL_law_939 : decode cL_law 939 = .ok (.invokevirtual 104, 3) := by decide +kernel
theorem dL_law_942 : decode cL_law 942 = .ok (.aload_n 2, 1) := by decide +kernel
theorem dL_law_943 : decode cL_law 943 = .ok (.aload_n 0, 1) := by decide +kernel
theorem dL_law_944 : decode cL_law 944 = .ok (.iload_n 3, 1) := by decide +kernel
theorem dL_law_945 : decode cL_law 945 = .ok (.iconst 1, 1) := by decide +kernel
theorem dL_law_946 : decode cL_law 946 = .ok (.iadd, 1) := by decide +kernel
theorem dL_law_947 : decode cL_law 947 = .ok (.iaload, 1) := by decide +kernel
theorem dL_law_948 : decode cL_law 948 = .ok (.aload_n 0, 1) := by decide +kernel
theorem dL_law_949 : decode cL_law 949 = .ok (.iload_n 3, 1) := by decide +kernel
theorem dL_law_950 : decode cL_law 950 = .ok (.iconst 2, 1) := by decide +kernel
theorem dL_law_951 : decode cL_law 951 = .ok (.iadd, 1) := by decide +kernel
theorem dL_law_952 : decode cL_law 952 = .ok (.iaload, 1) := by decide +kernel
theorem dL_law_953 : decode cL_law 953 = .ok (.invokevirtual 107, 3) := by decide +kernel
theorem dL_law_956 : decode cL_law 956 = .ok (.if_icmp .eq 570, 3) := by decide +kernel
theorem dL_law_959 : decode cL_law 959 = .ok (.iconst 0, 1) := by decide +kernel
theorem dL_law_960 : decode cL_law 960 = .ok (.ireturn, 1) := by decide +kernel
theorem dL_law_961 : decode cL_law 961 = .ok (.aload_n 1, 1) := by decide +kernel
theorem dL_law_962 : decode cL_law 962 = .ok (.aload_n 0, 1) := by decide +kernel
theorem dL_law_963 : decode cL_law 963 = .ok (.iload_n 3, 1) := by decide +kernel
theorem dL_law_964 : decode cL_law 964 = .ok (.iconst 1, 1) := by decide +kernel
theorem dL_law_965 : decode cL_law 965 = .ok (.iadd, 1) := by decide +kernel
theorem dL_law_966 : decode cL_law 966 = .ok (.iaload, 1) := by decide +kernel
theorem dL_law_967 : decode cL_law 967 = .ok (.aload_n 0, 1) := by decide +kernel
theorem dL_law_968 : decode cL_law 968 = .ok (.iload_n 3, 1) := by decide +kernel
theorem dL_law_969 : decode cL_law 969 = .ok (.iconst 2, 1) := by decide +kernel
theorem dL_law_970 : decode cL_law 970 = .ok (.iadd, 1) := by decide +kernel
theorem dL_law_971 : decode cL_law 971 = .ok (.iaload, 1) := by decide +kernel
theorem dL_law_972 : decode cL_law 972 = .ok (.invokevirtual 108, 3) := by decide +kernel
theorem dL_law_975 : decode cL_law 975 = .ok (.aload_n 2, 1) := by decide +kernel
theorem dL_law_976 : decode cL_law 976 = .ok (.aload_n 0, 1) := by decide +kernel
theorem dL_law_977 : decode cL_law 977 = .ok (.iload_n 3, 1) := by decide +kernel
theorem dL_law_978 : decode cL_law 978 = .ok (.iconst 1, 1) := by decide +kernel
theorem dL_law_979 : decode cL_law 979 = .ok (.iadd, 1) := by decide +kernel
theorem dL_law_980 : decode cL_law 980 = .ok (.iaload, 1) := by decide +kernel
theorem dL_law_981 : decode cL_law 981 = .ok (.aload_n 0, 1) := by decide +kernel
theorem dL_law_982 : decode cL_law 982 = .ok (.iload_n 3, 1) := by decide +kernel
theorem dL_law_983 : decode cL_law 983 = .ok (.iconst 2, 1) := by decide +kernel
theorem dL_law_984 : decode cL_law 984 = .ok (.iadd, 1) := by decide +kernel
theorem dL_law_985 : decode cL_law 985 = .ok (.iaload, 1) := by decide +kernel
theorem dL_law_986 : decode cL_law 986 = .ok (.invokevirtual 111, 3) := by decide +kernel
theorem dL_law_989 : decode cL_law 989 = .ok (.if_icmp .eq 537, 3) := by decide +kernel
theorem dL_law_992 : decode cL_law 992 = .ok (.iconst 0, 1) := by decide +kernel
theorem dL_law_993 : decode cL_law 993 = .ok (.ireturn, 1) := by decide +kernel
theorem dL_law_994 : decode cL_law 994 = .ok (.aload_n 1, 1) := by decide +kernel
theorem dL_law_995 : decode cL_law 995 = .ok (.aload_n 0, 1) := by decide +kernel
theorem dL_law_996 : decode cL_law 996 = .ok (.iload_n 3, 1) := by decide +kernel
theorem dL_law_997 : decode cL_law 997 = .ok (.iconst 1, 1) := by decide +kernel
theorem dL_law_998 : decode cL_law 998 = .ok (.iadd, 1) := by decide +kernel
theorem dL_law_999 : decode cL_law 999 = .ok (.iaload, 1) := by decide +kernel
theorem dL_law_1000 : decode cL_law 1000 = .ok (.aload_n 0, 1) := by decide +kernel
theorem dL_law_1001 : decode cL_law 1001 = .ok (.iload_n 3, 1) := by decide +kernel
theorem dL_law_1002 : decode cL_law 1002 = .ok (.iconst 2, 1) := by decide +kernel
theorem dL_law_1003 : decode cL_law 1003 = .ok (.iadd, 1) := by decide +kernel
theorem dL_law_1004 : decode cL_law 1004 = .ok (.iaload, 1) := by decide +kernel
theorem dL_law_1005 : decode cL_law 1005 = .ok (.invokevirtual 112, 3) := by decide +kernel
theorem dL_law_1008 : decode cL_law 1008 = .ok (.aload_n 2, 1) := by decide +kernel
theorem dL_law_1009 : decode cL_law 1009 = .ok (.aload_n 0, 1) := by decide +kernel
theorem dL_law_1010 : decode cL_law 1010 = .ok (.iload_n 3, 1) := by decide +kernel
theorem dL_law_1011 : decode cL_law 1011 = .ok (.iconst 1, 1) := by decide +kernel
theorem dL_law_1012 : decode cL_law 1012 = .ok (.iadd, 1) := by decide +kernel
theorem dL_law_1013 : decode cL_law 1013 = .ok (.iaload, 1) := by decide +kernel
theorem dL_law_1014 : decode cL_law 1014 = .ok (.aload_n 0, 1) := by decide +kernel
theorem dL_law_1015 : decode cL_law 1015 = .ok (.iload_n 3, 1) := by decide +kernel
theorem dL_law_1016 : decode cL_law 1016 = .ok (.iconst 2, 1) := by decide +kernel
theorem dL_law_1017 : decode cL_law 1017 = .ok (.iadd, 1) := by decide +kernel
theorem dL_law_1018 : decode cL_law 1018 = .ok (.iaload, 1) := by decide +kernel
theorem dL_law_1019 : decode cL_law 1019 = .ok (.invokevirtual 115, 3) := by decide +kernel
theorem dL_law_1022 : decode cL_law 1022 = .ok (.if_icmp .eq 504, 3) := by decide +kernel
theorem dL_law_1025 : decode cL_law 1025 = .ok (.iconst 0, 1) := by decide +kernel
theorem dL_law_1026 : decode cL_law 1026 = .ok (.ireturn, 1) := by decide +kernel
theorem dL_law_1027 : decode cL_law 1027 = .ok (.aload_n 1, 1) := by decide +kernel
theorem dL_law_1028 : decode cL_law 1028 = .ok (.aload_n 0, 1) := by decide +kernel
theorem dL_law_1029 : decode cL_law 1029 = .ok (.iload_n 3, 1) := by decide +kernel
theorem dL_law_1030 : decode cL_law 1030 = .ok (.iconst 1, 1) := by decide +kernel
theorem dL_law_1031 : decode cL_law 1031 = .ok (.iadd, 1) := by decide +kernel
theorem dL_law_1032 : decode cL_law 1032 = .ok (.iaload, 1) := by decide +kernel
theorem dL_law_1033 : decode cL_law 1033 = .ok (.aload_n 0, 1) := by decide +kernel
theorem dL_law_1034 : decode cL_law 1034 = .ok (.iload_n 3, 1) := by decide +kernel
theorem dL_law_1035 : decode cL_law 1035 = .ok (.iconst 2, 1) := by decide +kernel
theorem dL_law_1036 : decode cL_law 1036 = .ok (.iadd, 1) := by decide +kernel
theorem dL_law_1037 : decode cL_law 1037 = .ok (.iaload, 1) := by decide +kernel
theorem dL_law_1038 : decode cL_law 1038 = .ok (.aload_n 0, 1) := by decide +kernel
theorem dL_law_1039 : decode cL_law 1039 = .ok (.iload_n 3, 1) := by decide +kernel
theorem dL_law_1040 : decode cL_law 1040 = .ok (.iconst 3, 1) := by decide +kernel
theorem dL_law_1041 : decode cL_law 1041 = .ok (.iadd, 1) := by decide +kernel
theorem dL_law_1042 : decode cL_law 1042 = .ok (.iaload, 1) := by decide +kernel
theorem dL_law_1043 : decode cL_law 1043 = .ok (.aload_n 0, 1) := by decide +kernel
theorem dL_law_1044 : decode cL_law 1044 = .ok (.iload_n 3, 1) := by decide +kernel
theorem dL_law_1045 : decode cL_law 1045 = .ok (.iconst 4, 1) := by decide +kernel
theorem dL_law_1046 : decode cL_law 1046 = .ok (.iadd, 1) := by decide +kernel
theorem dL_law_1047 : decode cL_law 1047 = .ok (.iaload, 1) := by decide +kernel
theorem dL_law_1048 : decode cL_law 1048 = .ok (.invokevirtual 116, 3) := by decide +kernel
theorem dL_law_1051 : decode cL_law 1051 = .ok (.aload_n 2, 1) := by decide +kernel
theorem dL_law_1052 : decode cL_law 1052 = .ok (.aload_n 0, 1) := by decide +kernel
theorem dL_law_1053 : decode cL_law 1053 = .ok (.iload_n 3, 1) := by decide +kernel
theorem dL_law_1054 : decode cL_law 1054 = .ok (.iconst 1, 1) := by decide +kernel
theorem dL_law_1055 : decode cL_law 1055 = .ok (.iadd, 1) := by decide +kernel
theorem dL_law_1056 : decode cL_law 1056 = .ok (.iaload, 1) := by decide +kernel
theorem dL_law_1057 : decode cL_law 1057 = .ok (.aload_n 0, 1) := by decide +kernel
theorem dL_law_1058 : decode cL_law 1058 = .ok (.iload_n 3, 1) := by decide +kernel
theorem dL_law_1059 : decode cL_law 1059 = .ok (.iconst 2, 1) := by decide +kernel
theorem dL_law_1060 : decode cL_law 1060 = .ok (.iadd, 1) := by decide +kernel
theorem dL_law_1061 : decode cL_law 1061 = .ok (.iaload, 1) := by decide +kernel
theorem dL_law_1062 : decode cL_law 1062 = .ok (.aload_n 0, 1) := by decide +kernel
theorem dL_law_1063 : decode cL_law 1063 = .ok (.iload_n 3, 1) := by decide +kernel
theorem dL_law_1064 : decode cL_law 1064 = .ok (.iconst 3, 1) := by decide +kernel
theorem dL_law_1065 : decode cL_law 1065 = .ok (.iadd, 1) := by decide +kernel
theorem dL_law_1066 : decode cL_law 1066 = .ok (.iaload, 1) := by decide +kernel
theorem dL_law_1067 : decode cL_law 1067 = .ok (.aload_n 0, 1) := by decide +kernel
theorem dL_law_1068 : decode cL_law 1068 = .ok (.iload_n 3, 1) := by decide +kernel
theorem dL_law_1069 : decode cL_law 1069 = .ok (.iconst 4, 1) := by decide +kernel
theorem dL_law_1070 : decode cL_law 1070 = .ok (.iadd, 1) := by decide +kernel
theorem dL_law_1071 : decode cL_law 1071 = .ok (.iaload, 1) := by decide +kernel
theorem dL_law_1072 : decode cL_law 1072 = .ok (.invokevirtual 120, 3) := by decide +kernel
theorem dL_law_1075 : decode cL_law 1075 = .ok (.if_icmp .eq 451, 3) := by decide +kernel
theorem dL_law_1078 : decode cL_law 1078 = .ok (.iconst 0, 1) := by decide +kernel
theorem dL_law_1079 : decode cL_law 1079 = .ok (.ireturn, 1) := by decide +kernel
theorem dL_law_1080 : decode cL_law 1080 = .ok (.aload_n 1, 1) := by decide +kernel
theorem dL_law_1081 : decode cL_law 1081 = .ok (.aload_n 0, 1) := by decide +kernel
theorem dL_law_1082 : decode cL_law 1082 = .ok (.iload_n 3, 1) := by decide +kernel
theorem dL_law_1083 : decode cL_law 1083 = .ok (.iconst 1, 1) := by decide +kernel
theorem dL_law_1084 : decode cL_law 1084 = .ok (.iadd, 1) := by decide +kernel
theorem dL_law_1085 : decode cL_law 1085 = .ok (.iaload, 1) := by decide +kernel
theorem dL_law_1086 : decode cL_law 1086 = .ok (.invokevirtual 121, 3) := by decide +kernel
theorem dL_law_1089 : decode cL_law 1089 = .ok (.aload_n 2, 1) := by decide +kernel
theorem dL_law_1090 : decode cL_law 1090 = .ok (.aload_n 0, 1) := by decide +kernel
theorem dL_law_1091 : decode cL_law 1091 = .ok (.iload_n 3, 1) := by decide +kernel
theorem dL_law_1092 : decode cL_law 1092 = .ok (.iconst 1, 1) := by decide +kernel
theorem dL_law_1093 : decode cL_law 1093 = .ok (.iadd, 1) := by decide +kernel
theorem dL_law_1094 : decode cL_law 1094 = .ok (.iaload, 1) := by decide +kernel
theorem dL_law_1095 : decode cL_law 1095 = .ok (.invokevirtual 124, 3) := by decide +kernel
theorem dL_law_1098 : decode cL_law 1098 = .ok (.if_icmp .eq 428, 3) := by decide +kernel
theorem dL_law_1101 : decode cL_law 1101 = .ok (.iconst 0, 1) := by decide +kernel
theorem dL_law_1102 : decode cL_law 1102 = .ok (.ireturn, 1) := by decide +kernel
theorem dL_law_1103 : decode cL_law 1103 = .ok (.aload_n 1, 1) := by decide +kernel
theorem dL_law_1104 : decode cL_law 1104 = .ok (.aload_n 0, 1) := by decide +kernel
theorem dL_law_1105 : decode cL_law 1105 = .ok (.iload_n 3, 1) := by decide +kernel
theorem dL_law_1106 : decode cL_law 1106 = .ok (.iconst 1, 1) := by decide +kernel
theorem dL_law_1107 : decode cL_law 1107 = .ok (.iadd, 1) := by decide +kernel
theorem dL_law_1108 : decode cL_law 1108 = .ok (.iaload, 1) := by decide +kernel
theorem dL_law_1109 : decode cL_law 1109 = .ok (.aload_n 0, 1) := by decide +kernel
theorem dL_law_1110 : decode cL_law 1110 = .ok (.iload_n 3, 1) := by decide +kernel
theorem dL_law_1111 : decode cL_law 1111 = .ok (.iconst 2, 1) := by decide +kernel
theorem dL_law_1112 : decode cL_law 1112 = .ok (.iadd, 1) := by decide +kernel
theorem dL_law_1113 : decode cL_law 1113 = .ok (.iaload, 1) := by decide +kernel
theorem dL_law_1114 : decode cL_law 1114 = .ok (.invokevirtual 125, 3) := by decide +kernel
theorem dL_law_1117 : decode cL_law 1117 = .ok (.aload_n 2, 1) := by decide +kernel
theorem dL_law_1118 : decode cL_law 1118 = .ok (.aload_n 0, 1) := by decide +kernel
theorem dL_law_1119 : decode cL_law 1119 = .ok (.iload_n 3, 1) := by decide +kernel
theorem dL_law_1120 : decode cL_law 1120 = .ok (.iconst 1, 1) := by decide +kernel
theorem dL_law_1121 : decode cL_law 1121 = .ok (.iadd, 1) := by decide +kernel
theorem dL_law_1122 : decode cL_law 1122 = .ok (.iaload, 1) := by decide +kernel
theorem dL_law_1123 : decode cL_law 1123 = .ok (.aload_n 0, 1) := by decide +kernel
theorem dL_law_1124 : decode cL_law 1124 = .ok (.iload_n 3, 1) := by decide +kernel
theorem dL_law_1125 : decode cL_law 1125 = .ok (.iconst 2, 1) := by decide +kernel
theorem dL_law_1126 : decode cL_law 1126 = .ok (.iadd, 1) := by decide +kernel
theorem dL_law_1127 : decode cL_law 1127 = .ok (.iaload, 1) := by decide +kernel
theorem dL_law_1128 : decode cL_law 1128 = .ok (.invokevirtual 128, 3) := by decide +kernel
theorem dL_law_1131 : decode cL_law 1131 = .ok (.if_icmp .eq 395, 3) := by decide +kernel
theorem dL_law_1134 : decode cL_law 1134 = .ok (.iconst 0, 1) := by decide +kernel
theorem dL_law_1135 : decode cL_law 1135 = .ok (.ireturn, 1) := by decide +kernel
theorem dL_law_1136 : decode cL_law 1136 = .ok (.aload_n 1, 1) := by decide +kernel
theorem dL_law_1137 : decode cL_law 1137 = .ok (.invokevirtual 129, 3) := by decide +kernel
theorem dL_law_1140 : decode cL_law 1140 = .ok (.aload_n 2, 1) := by decide +kernel
theorem dL_law_1141 : decode cL_law 1141 = .ok (.invokevirtual 133, 3) := by decide +kernel
theorem dL_law_1144 : decode cL_law 1144 = .ok (.if_icmp .eq 382, 3) := by decide +kernel
theorem dL_law_1147 : decode cL_law 1147 = .ok (.iconst 0, 1) := by decide +kernel
theorem dL_law_1148 : decode cL_law 1148 = .ok (.ireturn, 1) := by decide +kernel
theorem dL_law_1149 : decode cL_law 1149 = .ok (.aload_n 1, 1) := by decide +kernel
theorem dL_law_1150 : decode cL_law 1150 = .ok (.invokevirtual 134, 3) := by decide +kernel
theorem dL_law_1153 : decode cL_law 1153 = .ok (.aload_n 2, 1) := by decide +kernel
theorem dL_law_1154 : decode cL_law 1154 = .ok (.invokevirtual 137, 3) := by decide +kernel
theorem dL_law_1157 : decode cL_law 1157 = .ok (.if_icmp .eq 369, 3) := by decide +kernel
theorem dL_law_1160 : decode cL_law 1160 = .ok (.iconst 0, 1) := by decide +kernel
theorem dL_law_1161 : decode cL_law 1161 = .ok (.ireturn, 1) := by decide +kernel
theorem dL_law_1162 : decode cL_law 1162 = .ok (.aload_n 1, 1) := by decide +kernel
theorem dL_law_1163 : decode cL_law 1163 = .ok (.aload_n 0, 1) := by decide +kernel
theorem dL_law_1164 : decode cL_law 1164 = .ok (.iload_n 3, 1) := by decide +kernel
theorem dL_law_1165 : decode cL_law 1165 = .ok (.iconst 1, 1) := by decide +kernel
theorem dL_law_1166 : decode cL_law 1166 = .ok (.iadd, 1) := by decide +kernel
theorem dL_law_1167 : decode cL_law 1167 = .ok (.iaload, 1) := by decide +kernel
theorem dL_law_1168 : decode cL_law 1168 = .ok (.aload_n 0, 1) := by decide +kernel
theorem dL_law_1169 : decode cL_law 1169 = .ok (.iload_n 3, 1) := by decide +kernel
theorem dL_law_1170 : decode cL_law 1170 = .ok (.iconst 2, 1) := by decide +kernel
theorem dL_law_1171 : decode cL_law 1171 = .ok (.iadd, 1) := by decide +kernel
theorem dL_law_1172 : decode cL_law 1172 = .ok (.iaload, 1) := by decide +kernel
theorem dL_law_1173 : decode cL_law 1173 = .ok (.aload_n 0, 1) := by decide +kernel
theorem dL_law_1174 : decode cL_law 1174 = .ok (.iload_n 3, 1) := by decide +kernel
theorem dL_law_1175 : decode cL_law 1175 = .ok (.iconst 3, 1) := by decide +kernel
theorem dL_law_1176 : decode cL_law 1176 = .ok (.iadd, 1) := by decide +kernel
theorem dL_law_1177 : decode cL_law 1177 = .ok (.iaload, 1) := by decide +kernel
theorem dL_law_1178 : decode cL_law 1178 = .ok (.invokevirtual 138, 3) := by decide +kernel
theorem dL_law_1181 : decode cL_law 1181 = .ok (.aload_n 2, 1) := by decide +kernel
theorem dL_law_1182 : decode cL_law 1182 = .ok (.aload_n 0, 1) := by decide +kernel
theorem dL_law_1183 : decode cL_law 1183 = .ok (.iload_n 3, 1) := by decide +kernel
theorem dL_law_1184 : decode cL_law 1184 = .ok (.iconst 1, 1) := by decide +kernel
theorem dL_law_1185 : decode cL_law 1185 = .ok (.iadd, 1) := by decide +kernel
theorem dL_law_1186 : decode cL_law 1186 = .ok (.iaload, 1) := by decide +kernel
theorem dL_law_1187 : decode cL_law 1187 = .ok (.aload_n 0, 1) := by decide +kernel
theorem dL_law_1188 : decode cL_law 1188 = .ok (.iload_n 3, 1) := by decide +kernel
theorem dL_law_1189 : decode cL_law 1189 = .ok (.iconst 2, 1) := by decide +kernel
theorem dL_law_1190 : decode cL_law 1190 = .ok (.iadd, 1) := by decide +kernel
theorem dL_law_1191 : decode cL_law 1191 = .ok (.iaload, 1) := by decide +kernel
theorem dL_law_1192 : decode cL_law 1192 = .ok (.aload_n 0, 1) := by decide +kernel
theorem dL_law_1193 : decode cL_law 1193 = .ok (.iload_n 3, 1) := by decide +kernel
theorem dL_law_1194 : decode cL_law 1194 = .ok (.iconst 3, 1) := by decide +kernel
theorem dL_law_1195 : decode cL_law 1195 = .ok (.iadd, 1) := by decide +kernel
theorem dL_law_1196 : decode cL_law 1196 = .ok (.iaload, 1) := by decide +kernel
theorem dL_law_1197 : decode cL_law 1197 = .ok (.invokevirtual 141, 3) := by decide +kernel
theorem dL_law_1200 : decode cL_law 1200 = .ok (.if_icmp .eq 326, 3) := by decide +kernel
theorem dL_law_1203 : decode cL_law 1203 = .ok (.iconst 0, 1) := by decide +kernel
theorem dL_law_1204 : decode cL_law 1204 = .ok (.ireturn, 1) := by decide +kernel
theorem dL_law_1205 : decode cL_law 1205 = .ok (.aload_n 1, 1) := by decide +kernel
theorem dL_law_1206 : decode cL_law 1206 = .ok (.aload_n 0, 1) := by decide +kernel
theorem dL_law_1207 : decode cL_law 1207 = .ok (.iload_n 3, 1) := by decide +kernel
theorem dL_law_1208 : decode cL_law 1208 = .ok (.iconst 1, 1) := by decide +kernel
theorem dL_law_1209 : decode cL_law 1209 = .ok (.iadd, 1) := by decide +kernel
theorem dL_law_1210 : decode cL_law 1210 = .ok (.iaload, 1) := by decide +kernel
theorem dL_law_1211 : decode cL_law 1211 = .ok (.aload_n 0, 1) := by decide +kernel
theorem dL_law_1212 : decode cL_law 1212 = .ok (.iload_n 3, 1) := by decide +kernel
theorem dL_law_1213 : decode cL_law 1213 = .ok (.iconst 2, 1) := by decide +kernel
theorem dL_law_1214 : decode cL_law 1214 = .ok (.iadd, 1) := by decide +kernel
theorem dL_law_1215 : decode cL_law 1215 = .ok (.iaload, 1) := by decide +kernel
theorem dL_law_1216 : decode cL_law 1216 = .ok (.aload_n 0, 1) := by decide +kernel
theorem dL_law_1217 : decode cL_law 1217 = .ok (.iload_n 3, 1) := by decide +kernel
theorem dL_law_1218 : decode cL_law 1218 = .ok (.iconst 3, 1) := by decide +kernel
theorem dL_law_1219 : decode cL_law 1219 = .ok (.iadd, 1) := by decide +kernel
theorem dL_law_1220 : decode cL_law 1220 = .ok (.iaload, 1) := by decide +kernel
theorem dL_law_1221 : decode cL_law 1221 = .ok (.i2l, 1) := by decide +kernel
theorem dL_law_1222 : decode cL_law 1222 = .ok (.bipush 32, 2) := by decide +kernel
theorem dL_law_1224 : decode cL_law 1224 = .ok (.lshl, 1) := by decide +kernel
theorem dL_law_1225 : decode cL_law 1225 = .ok (.aload_n 0, 1) := by decide +kernel
theorem dL_law_1226 : decode cL_law 1226 = .ok (.iload_n 3, 1) := by decide +kernel
theorem dL_law_1227 : decode cL_law 1227 = .ok (.iconst 4, 1) := by decide +kernel
theorem dL_law_1228 : decode cL_law 1228 = .ok (.iadd, 1) := by decide +kernel
theorem dL_law_1229 : decode cL_law 1229 = .ok (.iaload, 1) := by decide +kernel
theorem dL_law_1230 : decode cL_law 1230 = .ok (.i2l, 1) := by decide +kernel
theorem dL_law_1231 : decode cL_law 1231 = .ok (.ldc2_w 142, 3) := by decide +kernel
theorem dL_law_1234 : decode cL_law 1234 = .ok (.land, 1) := by decide +kernel
theorem dL_law_1235 : decode cL_law 1235 = .ok (.lor, 1) := by decide +kernel
theorem dL_law_1236 : decode cL_law 1236 = .ok (.invokevirtual 144, 3) := by decide +kernel
theorem dL_law_1239 : decode cL_law 1239 = .ok (.aload_n 2, 1) := by decide +kernel
theorem dL_law_1240 : decode cL_law 1240 = .ok (.aload_n 0, 1) := by decide +kernel
theorem dL_law_1241 : decode cL_law 1241 = .ok (.iload_n 3, 1) := by decide +kernel
theorem dL_law_1242 : decode cL_law 1242 = .ok (.iconst 1, 1) := by decide +kernel
theorem dL_law_1243 : decode cL_law 1243 = .ok (.iadd, 1) := by decide +kernel
theorem dL_law_1244 : decode cL_law 1244 = .ok (.iaload, 1) := by decide +kernel
theorem dL_law_1245 : decode cL_law 1245 = .ok (.aload_n 0, 1) := by decide +kernel
theorem dL_law_1246 : decode cL_law 1246 = .ok (.iload_n 3, 1) := by decide +kernel
theorem dL_law_1247 : decode cL_law 1247 = .ok (.iconst 2, 1) := by decide +kernel
theorem dL_law_1248 : decode cL_law 1248 = .ok (.iadd, 1) := by decide +kernel
theorem dL_law_1249 : decode cL_law 1249 = .ok (.iaload, 1) := by decide +kernel
theorem dL_law_1250 : decode cL_law 1250 = .ok (.aload_n 0, 1) := by decide +kernel
theorem dL_law_1251 : decode cL_law 1251 = .ok (.iload_n 3, 1) := by decide +kernel
theorem dL_law_1252 : decode cL_law 1252 = .ok (.iconst 3, 1) := by decide +kernel
theorem dL_law_1253 : decode cL_law 1253 = .ok (.iadd, 1) := by decide +kernel
theorem dL_law_1254 : decode cL_law 1254 = .ok (.iaload, 1) := by decide +kernel
theorem dL_law_1255 : decode cL_law 1255 = .ok (.i2l, 1) := by decide +kernel
theorem dL_law_1256 : decode cL_law 1256 = .ok (.bipush 32, 2) := by decide +kernel
theorem dL_law_1258 : decode cL_law 1258 = .ok (.lshl, 1) := by decide +kernel
theorem dL_law_1259 : decode cL_law 1259 = .ok (.aload_n 0, 1) := by decide +kernel
theorem dL_law_1260 : decode cL_law 1260 = .ok (.iload_n 3, 1) := by decide +kernel
theorem dL_law_1261 : decode cL_law 1261 = .ok (.iconst 4, 1) := by decide +kernel
theorem dL_law_1262 : decode cL_law 1262 = .ok (.iadd, 1) := by decide +kernel
theorem dL_law_1263 : decode cL_law 1263 = .ok (.iaload, 1) := by decide +kernel
theorem dL_law_1264 : decode cL_law 1264 = .ok (.i2l, 1) := by decide +kernel
theorem dL_law_1265 : decode cL_law 1265 = .ok (.ldc2_w 142, 3) := by decide +kernel
theorem dL_law_1268 : decode cL_law 1268 = .ok (.land, 1) := by decide +kernel
theorem dL_law_1269 : decode cL_law 1269 = .ok (.lor, 1) := by decide +kernel
theorem dL_law_1270 : decode cL_law 1270 = .ok (.invokevirtual 148, 3) := by decide +kernel
theorem dL_law_1273 : decode cL_law 1273 = .ok (.lcmp, 1) := by decide +kernel
theorem dL_law_1274 : decode cL_law 1274 = .ok (.ifCond .eq 252, 3) := by decide +kernel
theorem dL_law_1277 : decode cL_law 1277 = .ok (.iconst 0, 1) := by decide +kernel
theorem dL_law_1278 : decode cL_law 1278 = .ok (.ireturn, 1) := by decide +kernel
theorem dL_law_1279 : decode cL_law 1279 = .ok (.aload_n 1, 1) := by decide +kernel
theorem dL_law_1280 : decode cL_law 1280 = .ok (.aload_n 0, 1) := by decide +kernel
theorem dL_law_1281 : decode cL_law 1281 = .ok (.iload_n 3, 1) := by decide +kernel
theorem dL_law_1282 : decode cL_law 1282 = .ok (.iconst 1, 1) := by decide +kernel
theorem dL_law_1283 : decode cL_law 1283 = .ok (.iadd, 1) := by decide +kernel
theorem dL_law_1284 : decode cL_law 1284 = .ok (.iaload, 1) := by decide +kernel
theorem dL_law_1285 : decode cL_law 1285 = .ok (.aload_n 0, 1) := by decide +kernel
theorem dL_law_1286 : decode cL_law 1286 = .ok (.iload_n 3, 1) := by decide +kernel
theorem dL_law_1287 : decode cL_law 1287 = .ok (.iconst 2, 1) := by decide +kernel
theorem dL_law_1288 : decode cL_law 1288 = .ok (.iadd, 1) := by decide +kernel
theorem dL_law_1289 : decode cL_law 1289 = .ok (.iaload, 1) := by decide +kernel
theorem dL_law_1290 : decode cL_law 1290 = .ok (.aload_n 0, 1) := by decide +kernel
theorem dL_law_1291 : decode cL_law 1291 = .ok (.iload_n 3, 1) := by decide +kernel
theorem dL_law_1292 : decode cL_law 1292 = .ok (.iconst 3, 1) := by decide +kernel
theorem dL_law_1293 : decode cL_law 1293 = .ok (.iadd, 1) := by decide +kernel
theorem dL_law_1294 : decode cL_law 1294 = .ok (.iaload, 1) := by decide +kernel
theorem dL_law_1295 : decode cL_law 1295 = .ok (.aload_n 0, 1) := by decide +kernel
theorem dL_law_1296 : decode cL_law 1296 = .ok (.iload_n 3, 1) := by decide +kernel
theorem dL_law_1297 : decode cL_law 1297 = .ok (.iconst 4, 1) := by decide +kernel
theorem dL_law_1298 : decode cL_law 1298 = .ok (.iadd, 1) := by decide +kernel
theorem dL_law_1299 : decode cL_law 1299 = .ok (.iaload, 1) := by decide +kernel
theorem dL_law_1300 : decode cL_law 1300 = .ok (.aload_n 0, 1) := by decide +kernel
theorem dL_law_1301 : decode cL_law 1301 = .ok (.iload_n 3, 1) := by decide +kernel
theorem dL_law_1302 : decode cL_law 1302 = .ok (.iconst 5, 1) := by decide +kernel
theorem dL_law_1303 : decode cL_law 1303 = .ok (.iadd, 1) := by decide +kernel
theorem dL_law_1304 : decode cL_law 1304 = .ok (.iaload, 1) := by decide +kernel
theorem dL_law_1305 : decode cL_law 1305 = .ok (.invokevirtual 149, 3) := by decide +kernel
theorem dL_law_1308 : decode cL_law 1308 = .ok (.aload_n 2, 1) := by decide +kernel
theorem dL_law_1309 : decode cL_law 1309 = .ok (.aload_n 0, 1) := by decide +kernel
theorem dL_law_1310 : decode cL_law 1310 = .ok (.iload_n 3, 1) := by decide +kernel
theorem dL_law_1311 : decode cL_law 1311 = .ok (.iconst 1, 1) := by decide +kernel
theorem dL_law_1312 : decode cL_law 1312 = .ok (.iadd, 1) := by decide +kernel
theorem dL_law_1313 : decode cL_law 1313 = .ok (.iaload, 1) := by decide +kernel
theorem dL_law_1314 : decode cL_law 1314 = .ok (.aload_n 0, 1) := by decide +kernel
theorem dL_law_1315 : decode cL_law 1315 = .ok (.iload_n 3, 1) := by decide +kernel
theorem dL_law_1316 : decode cL_law 1316 = .ok (.iconst 2, 1) := by decide +kernel
theorem dL_law_1317 : decode cL_law 1317 = .ok (.iadd, 1) := by decide +kernel
theorem dL_law_1318 : decode cL_law 1318 = .ok (.iaload, 1) := by decide +kernel
theorem dL_law_1319 : decode cL_law 1319 = .ok (.aload_n 0, 1) := by decide +kernel
theorem dL_law_1320 : decode cL_law 1320 = .ok (.iload_n 3, 1) := by decide +kernel
theorem dL_law_1321 : decode cL_law 1321 = .ok (.iconst 3, 1) := by decide +kernel
theorem dL_law_1322 : decode cL_law 1322 = .ok (.iadd, 1) := by decide +kernel
theorem dL_law_1323 : decode cL_law 1323 = .ok (.iaload, 1) := by decide +kernel
theorem dL_law_1324 : decode cL_law 1324 = .ok (.aload_n 0, 1) := by decide +kernel
theorem dL_law_1325 : decode cL_law 1325 = .ok (.iload_n 3, 1) := by decide +kernel
theorem dL_law_1326 : decode cL_law 1326 = .ok (.iconst 4, 1) := by decide +kernel
theorem dL_law_1327 : decode cL_law 1327 = .ok (.iadd, 1) := by decide +kernel
theorem dL_law_1328 : decode cL_law 1328 = .ok (.iaload, 1) := by decide +kernel
theorem dL_law_1329 : decode cL_law 1329 = .ok (.aload_n 0, 1) := by decide +kernel
theorem dL_law_1330 : decode cL_law 1330 = .ok (.iload_n 3, 1) := by decide +kernel
theorem dL_law_1331 : decode cL_law 1331 = .ok (.iconst 5, 1) := by decide +kernel
theorem dL_law_1332 : decode cL_law 1332 = .ok (.iadd, 1) := by decide +kernel
theorem dL_law_1333 : decode cL_law 1333 = .ok (.iaload, 1) := by decide +kernel
theorem dL_law_1334 : decode cL_law 1334 = .ok (.invokevirtual 153, 3) := by decide +kernel
theorem dL_law_1337 : decode cL_law 1337 = .ok (.if_icmp .eq 189, 3) := by decide +kernel
theorem dL_law_1340 : decode cL_law 1340 = .ok (.iconst 0, 1) := by decide +kernel
theorem dL_law_1341 : decode cL_law 1341 = .ok (.ireturn, 1) := by decide +kernel
theorem dL_law_1342 : decode cL_law 1342 = .ok (.aload_n 1, 1) := by decide +kernel
theorem dL_law_1343 : decode cL_law 1343 = .ok (.aload_n 0, 1) := by decide +kernel
theorem dL_law_1344 : decode cL_law 1344 = .ok (.iload_n 3, 1) := by decide +kernel
theorem dL_law_1345 : decode cL_law 1345 = .ok (.iconst 1, 1) := by decide +kernel
theorem dL_law_1346 : decode cL_law 1346 = .ok (.iadd, 1) := by decide +kernel
theorem dL_law_1347 : decode cL_law 1347 = .ok (.iaload, 1) := by decide +kernel
theorem dL_law_1348 : decode cL_law 1348 = .ok (.invokevirtual 154, 3) := by decide +kernel
theorem dL_law_1351 : decode cL_law 1351 = .ok (.aload_n 2, 1) := by decide +kernel
theorem dL_law_1352 : decode cL_law 1352 = .ok (.aload_n 0, 1) := by decide +kernel
theorem dL_law_1353 : decode cL_law 1353 = .ok (.iload_n 3, 1) := by decide +kernel
theorem dL_law_1354 : decode cL_law 1354 = .ok (.iconst 1, 1) := by decide +kernel
theorem dL_law_1355 : decode cL_law 1355 = .ok (.iadd, 1) := by decide +kernel
theorem dL_law_1356 : decode cL_law 1356 = .ok (.iaload, 1) := by decide +kernel
theorem dL_law_1357 : decode cL_law 1357 = .ok (.invokevirtual 157, 3) := by decide +kernel
theorem dL_law_1360 : decode cL_law 1360 = .ok (.if_icmp .eq 166, 3) := by decide +kernel
theorem dL_law_1363 : decode cL_law 1363 = .ok (.iconst 0, 1) := by decide +kernel
theorem dL_law_1364 : decode cL_law 1364 = .ok (.ireturn, 1) := by decide +kernel
theorem dL_law_1365 : decode cL_law 1365 = .ok (.aload_n 1, 1) := by decide +kernel
theorem dL_law_1366 : decode cL_law 1366 = .ok (.aload_n 0, 1) := by decide +kernel
theorem dL_law_1367 : decode cL_law 1367 = .ok (.iload_n 3, 1) := by decide +kernel
theorem dL_law_1368 : decode cL_law 1368 = .ok (.iconst 1, 1) := by decide +kernel
theorem dL_law_1369 : decode cL_law 1369 = .ok (.iadd, 1) := by decide +kernel
theorem dL_law_1370 : decode cL_law 1370 = .ok (.iaload, 1) := by decide +kernel
theorem dL_law_1371 : decode cL_law 1371 = .ok (.aload_n 0, 1) := by decide +kernel
theorem dL_law_1372 : decode cL_law 1372 = .ok (.iload_n 3, 1) := by decide +kernel
theorem dL_law_1373 : decode cL_law 1373 = .ok (.iconst 2, 1) := by decide +kernel
theorem dL_law_1374 : decode cL_law 1374 = .ok (.iadd, 1) := by decide +kernel
theorem dL_law_1375 : decode cL_law 1375 = .ok (.iaload, 1) := by decide +kernel
theorem dL_law_1376 : decode cL_law 1376 = .ok (.invokevirtual 158, 3) := by decide +kernel
theorem dL_law_1379 : decode cL_law 1379 = .ok (.aload_n 2, 1) := by decide +kernel
theorem dL_law_1380 : decode cL_law 1380 = .ok (.aload_n 0, 1) := by decide +kernel
theorem dL_law_1381 : decode cL_law 1381 = .ok (.iload_n 3, 1) := by decide +kernel
theorem dL_law_1382 : decode cL_law 1382 = .ok (.iconst 1, 1) := by decide +kernel
theorem dL_law_1383 : decode cL_law 1383 = .ok (.iadd, 1) := by decide +kernel
theorem dL_law_1384 : decode cL_law 1384 = .ok (.iaload, 1) := by decide +kernel
theorem dL_law_1385 : decode cL_law 1385 = .ok (.aload_n 0, 1) := by decide +kernel
theorem dL_law_1386 : decode cL_law 1386 = .ok (.iload_n 3, 1) := by decide +kernel
theorem dL_law_1387 : decode cL_law 1387 = .ok (.iconst 2, 1) := by decide +kernel
theorem dL_law_1388 : decode cL_law 1388 = .ok (.iadd, 1) := by decide +kernel
theorem dL_law_1389 : decode cL_law 1389 = .ok (.iaload, 1) := by decide +kernel
theorem dL_law_1390 : decode cL_law 1390 = .ok (.invokevirtual 161, 3) := by decide +kernel
theorem dL_law_1393 : decode cL_law 1393 = .ok (.if_icmp .eq 133, 3) := by decide +kernel
theorem dL_law_1396 : decode cL_law 1396 = .ok (.iconst 0, 1) := by decide +kernel
theorem dL_law_1397 : decode cL_law 1397 = .ok (.ireturn, 1) := by decide +kernel
theorem dL_law_1398 : decode cL_law 1398 = .ok (.aload_n 1, 1) := by decide +kernel
theorem dL_law_1399 : decode cL_law 1399 = .ok (.aload_n 0, 1) := by decide +kernel
theorem dL_law_1400 : decode cL_law 1400 = .ok (.iload_n 3, 1) := by decide +kernel
theorem dL_law_1401 : decode cL_law 1401 = .ok (.iconst 1, 1) := by decide +kernel
theorem dL_law_1402 : decode cL_law 1402 = .ok (.iadd, 1) := by decide +kernel
theorem dL_law_1403 : decode cL_law 1403 = .ok (.iaload, 1) := by decide +kernel
theorem dL_law_1404 : decode cL_law 1404 = .ok (.aload_n 0, 1) := by decide +kernel
theorem dL_law_1405 : decode cL_law 1405 = .ok (.iload_n 3, 1) := by decide +kernel
theorem dL_law_1406 : decode cL_law 1406 = .ok (.iconst 2, 1) := by decide +kernel
theorem dL_law_1407 : decode cL_law 1407 = .ok (.iadd, 1) := by decide +kernel
theorem dL_law_1408 : decode cL_law 1408 = .ok (.iaload, 1) := by decide +kernel
theorem dL_law_1409 : decode cL_law 1409 = .ok (.aload_n 0, 1) := by decide +kernel
theorem dL_law_1410 : decode cL_law 1410 = .ok (.iload_n 3, 1) := by decide +kernel
theorem dL_law_1411 : decode cL_law 1411 = .ok (.iconst 3, 1) := by decide +kernel
theorem dL_law_1412 : decode cL_law 1412 = .ok (.iadd, 1) := by decide +kernel
theorem dL_law_1413 : decode cL_law 1413 = .ok (.iaload, 1) := by decide +kernel
theorem dL_law_1414 : decode cL_law 1414 = .ok (.invokevirtual 162, 3) := by decide +kernel
theorem dL_law_1417 : decode cL_law 1417 = .ok (.aload_n 2, 1) := by decide +kernel
theorem dL_law_1418 : decode cL_law 1418 = .ok (.aload_n 0, 1) := by decide +kernel
theorem dL_law_1419 : decode cL_law 1419 = .ok (.iload_n 3, 1) := by decide +kernel
theorem dL_law_1420 : decode cL_law 1420 = .ok (.iconst 1, 1) := by decide +kernel
theorem dL_law_1421 : decode cL_law 1421 = .ok (.iadd, 1) := by decide +kernel
theorem dL_law_1422 : decode cL_law 1422 = .ok (.iaload, 1) := by decide +kernel
theorem dL_law_1423 : decode cL_law 1423 = .ok (.aload_n 0, 1) := by decide +kernel
theorem dL_law_1424 : decode cL_law 1424 = .ok (.iload_n 3, 1) := by decide +kernel
theorem dL_law_1425 : decode cL_law 1425 = .ok (.iconst 2, 1) := by decide +kernel
theorem dL_law_1426 : decode cL_law 1426 = .ok (.iadd, 1) := by decide +kernel
theorem dL_law_1427 : decode cL_law 1427 = .ok (.iaload, 1) := by decide +kernel
theorem dL_law_1428 : decode cL_law 1428 = .ok (.aload_n 0, 1) := by decide +kernel
theorem dL_law_1429 : decode cL_law 1429 = .ok (.iload_n 3, 1) := by decide +kernel
theorem dL_law_1430 : decode cL_law 1430 = .ok (.iconst 3, 1) := by decide +kernel
theorem dL_law_1431 : decode cL_law 1431 = .ok (.iadd, 1) := by decide +kernel
theorem dL_law_1432 : decode cL_law 1432 = .ok (.iaload, 1) := by decide +kernel
theorem dL_law_1433 : decode cL_law 1433 = .ok (.invokevirtual 165, 3) := by decide +kernel
theorem dL_law_1436 : decode cL_law 1436 = .ok (.if_icmp .eq 90, 3) := by decide +kernel
theorem dL_law_1439 : decode cL_law 1439 = .ok (.iconst 0, 1) := by decide +kernel
theorem dL_law_1440 : decode cL_law 1440 = .ok (.ireturn, 1) := by decide +kernel
theorem dL_law_1441 : decode cL_law 1441 = .ok (.aload_n 1, 1) := by decide +kernel
theorem dL_law_1442 : decode cL_law 1442 = .ok (.invokevirtual 166, 3) := by decide +kernel
theorem dL_law_1445 : decode cL_law 1445 = .ok (.aload_n 2, 1) := by decide +kernel
theorem dL_law_1446 : decode cL_law 1446 = .ok (.invokevirtual 169, 3) := by decide +kernel
theorem dL_law_1449 : decode cL_law 1449 = .ok (.if_icmp .eq 77, 3) := by decide +kernel
theorem dL_law_1452 : decode cL_law 1452 = .ok (.iconst 0, 1) := by decide +kernel
theorem dL_law_1453 : decode cL_law 1453 = .ok (.ireturn, 1) := by decide +kernel
theorem dL_law_1454 : decode cL_law 1454 = .ok (.aload_n 1, 1) := by decide +kernel
theorem dL_law_1455 : decode cL_law 1455 = .ok (.invokevirtual 170, 3) := by decide +kernel
theorem dL_law_1458 : decode cL_law 1458 = .ok (.aload_n 2, 1) := by decide +kernel
theorem dL_law_1459 : decode cL_law 1459 = .ok (.invokevirtual 173, 3) := by decide +kernel
theorem dL_law_1462 : decode cL_law 1462 = .ok (.if_icmp .eq 64, 3) := by decide +kernel
theorem dL_law_1465 : decode cL_law 1465 = .ok (.iconst 0, 1) := by decide +kernel
theorem dL_law_1466 : decode cL_law 1466 = .ok (.ireturn, 1) := by decide +kernel
theorem dL_law_1467 : decode cL_law 1467 = .ok (.aload_n 1, 1) := by decide +kernel
theorem dL_law_1468 : decode cL_law 1468 = .ok (.invokevirtual 174, 3) := by decide +kernel
theorem dL_law_1471 : decode cL_law 1471 = .ok (.aload_n 2, 1) := by decide +kernel
theorem dL_law_1472 : decode cL_law 1472 = .ok (.invokevirtual 177, 3) := by decide +kernel
theorem dL_law_1475 : decode cL_law 1475 = .ok (.if_icmp .eq 51, 3) := by decide +kernel
theorem dL_law_1478 : decode cL_law 1478 = .ok (.iconst 0, 1) := by decide +kernel
theorem dL_law_1479 : decode cL_law 1479 = .ok (.ireturn, 1) := by decide +kernel
theorem dL_law_1480 : decode cL_law 1480 = .ok (.aload_n 1, 1) := by decide +kernel
theorem dL_law_1481 : decode cL_law 1481 = .ok (.aload_n 0, 1) := by decide +kernel
theorem dL_law_1482 : decode cL_law 1482 = .ok (.iload_n 3, 1) := by decide +kernel
theorem dL_law_1483 : decode cL_law 1483 = .ok (.iconst 1, 1) := by decide +kernel
theorem dL_law_1484 : decode cL_law 1484 = .ok (.iadd, 1) := by decide +kernel
theorem dL_law_1485 : decode cL_law 1485 = .ok (.iaload, 1) := by decide +kernel
theorem dL_law_1486 : decode cL_law 1486 = .ok (.invokevirtual 178, 3) := by decide +kernel
theorem dL_law_1489 : decode cL_law 1489 = .ok (.aload_n 2, 1) := by decide +kernel
theorem dL_law_1490 : decode cL_law 1490 = .ok (.aload_n 0, 1) := by decide +kernel
theorem dL_law_1491 : decode cL_law 1491 = .ok (.iload_n 3, 1) := by decide +kernel
theorem dL_law_1492 : decode cL_law 1492 = .ok (.iconst 1, 1) := by decide +kernel
theorem dL_law_1493 : decode cL_law 1493 = .ok (.iadd, 1) := by decide +kernel
theorem dL_law_1494 : decode cL_law 1494 = .ok (.iaload, 1) := by decide +kernel
theorem dL_law_1495 : decode cL_law 1495 = .ok (.invokevirtual 181, 3) := by decide +kernel
theorem dL_law_1498 : decode cL_law 1498 = .ok (.if_icmp .eq 28, 3) := by decide +kernel
theorem dL_law_1501 : decode cL_law 1501 = .ok (.iconst 0, 1) := by decide +kernel
theorem dL_law_1502 : decode cL_law 1502 = .ok (.ireturn, 1) := by decide +kernel
theorem dL_law_1503 : decode cL_law 1503 = .ok (.aload_n 1, 1) := by decide +kernel
theorem dL_law_1504 : decode cL_law 1504 = .ok (.aload_n 0, 1) := by decide +kernel
theorem dL_law_1505 : decode cL_law 1505 = .ok (.iload_n 3, 1) := by decide +kernel
theorem dL_law_1506 : decode cL_law 1506 = .ok (.iconst 1, 1) := by decide +kernel
theorem dL_law_1507 : decode cL_law 1507 = .ok (.iadd, 1) := by decide +kernel
theorem dL_law_1508 : decode cL_law 1508 = .ok (.iaload, 1) := by decide +kernel
theorem dL_law_1509 : decode cL_law 1509 = .ok (.invokevirtual 182, 3) := by decide +kernel
theorem dL_law_1512 : decode cL_law 1512 = .ok (.aload_n 2, 1) := by decide +kernel
theorem dL_law_1513 : decode cL_law 1513 = .ok (.aload_n 0, 1) := by decide +kernel
theorem dL_law_1514 : decode cL_law 1514 = .ok (.iload_n 3, 1) := by decide +kernel
theorem dL_law_1515 : decode cL_law 1515 = .ok (.iconst 1, 1) := by decide +kernel
theorem dL_law_1516 : decode cL_law 1516 = .ok (.iadd, 1) := by decide +kernel
theorem dL_law_1517 : decode cL_law 1517 = .ok (.iaload, 1) := by decide +kernel
theorem dL_law_1518 : decode cL_law 1518 = .ok (.invokevirtual 185, 3) := by decide +kernel
theorem dL_law_1521 : decode cL_law 1521 = .ok (.if_icmp .eq 5, 3) := by decide +kernel
theorem dL_law_1524 : decode cL_law 1524 = .ok (.iconst 0, 1) := by decide +kernel
theorem dL_law_1525 : decode cL_law 1525 = .ok (.ireturn, 1) := by decide +kernel
theorem dL_law_1526 : decode cL_law 1526 = .ok (.iinc 3 6, 3) := by decide +kernel
theorem dL_law_1529 : decode cL_law 1529 = .ok (.goto (-1511), 3) := by decide +kernel
theorem dL_law_1532 : decode cL_law 1532 = .ok (.iconst 1, 1) := by decide +kernel
theorem dL_law_1533 : decode cL_law 1533 = .ok (.ireturn, 1) := by decide +kernel
end
section
/-! the worlds by number: a memory of ints and a memory of longs, by cell and place -/
abbrev zM : Type := (Nat → Nat → Int32) × (Nat → Nat → Int64)
def zst (M : zM) (k j : Nat) (v : Int32) : zM := (fun a b => if a = k ∧ b = j then v else M.1 a b, M.2)
def zstL (M : zM) (k j : Nat) (v : Int64) : zM := (M.1, fun a b => if a = k ∧ b = j then v else M.2 a b)
def zcp (M : zM) (k0 k1 sp dp n : Nat) : zM := (fun a b => if a = k1 then va_cpy (M.1 k0) (M.1 k1) sp dp n b else M.1 a b, M.2)
def zcpL (M : zM) (k0 k1 sp dp n : Nat) : zM := (M.1, fun a b => if a = k1 then va_cpy (M.2 k0) (M.2 k1) sp dp n b else M.2 a b)
theorem zst_ne {M : zM} {k j : Nat} {v : Int32} : ∀ i, i ≠ k → (zst M k j v).1 i = M.1 i ∧ (zst M k j v).2 i = M.2 i := fun i hi => ⟨by funext b; simp [zst, hi], rfl⟩
theorem zstL_ne {M : zM} {k j : Nat} {v : Int64} : ∀ i, i ≠ k → (zstL M k j v).1 i = M.1 i ∧ (zstL M k j v).2 i = M.2 i := fun i hi => ⟨rfl, by funext b; simp [zstL, hi]⟩
theorem zcp_ne {M : zM} {k0 k1 sp dp n : Nat} : ∀ i, i ≠ k1 → (zcp M k0 k1 sp dp n).1 i = M.1 i ∧ (zcp M k0 k1 sp dp n).2 i = M.2 i := fun i hi => ⟨by funext b; simp [zcp, hi], rfl⟩
theorem zcpL_ne {M : zM} {k0 k1 sp dp n : Nat} : ∀ i, i ≠ k1 → (zcpL M k0 k1 sp dp n).1 i = M.1 i ∧ (zcpL M k0 k1 sp dp n).2 i = M.2 i := fun i hi => ⟨rfl, by funext b; simp [zcpL, hi]⟩
theorem zst_at {M : zM} {k j : Nat} {v : Int32} : (zst M k j v).1 k = upd (M.1 k) j v := by
  funext b
  by_cases h : b = j <;> simp [zst, upd, h]
theorem zstL_at {M : zM} {k j : Nat} {v : Int64} : (zstL M k j v).2 k = vp_updL (M.2 k) j v := by
  funext b
  by_cases h : b = j <;> simp [zstL, vp_updL, h]
theorem zcp_at {M : zM} {k0 k1 sp dp n : Nat} : (zcp M k0 k1 sp dp n).1 k1 = va_cpy (M.1 k0) (M.1 k1) sp dp n := by funext b; simp [zcp]
theorem zcpL_at {M : zM} {k0 k1 sp dp n : Nat} : (zcpL M k0 k1 sp dp n).2 k1 = va_cpy (M.2 k0) (M.2 k1) sp dp n := by funext b; simp [zcpL]
/-- a place of a row of n -/
def zix (i : Int32) (n : Nat) : Option Nat := if i < 0 ∨ n ≤ i.toNatClampNeg then none else some i.toNatClampNeg
theorem zix_some {i : Int32} {n j : Nat} (h : zix i n = some j) : vp_in i n ∧ i.toNatClampNeg = j := by
  unfold zix at h
  by_cases hc : i < 0 ∨ n ≤ i.toNatClampNeg
  · rw [if_pos hc] at h; cases h
  · rw [if_neg hc] at h; exact ⟨hc, Option.some.inj h⟩
theorem zix_lt {i : Int32} {n j : Nat} (h : zix i n = some j) : j < n := by
  obtain ⟨h1, h2⟩ := zix_some h
  rw [← h2]; exact Nat.not_le.mp fun q => h1 (Or.inr q)
/-- a truth -/
def zbl (v : Int32) : Option Int32 := if v &&& 1 = v then some v else none
theorem zbl_some {v r : Int32} (h : zbl v = some r) : v &&& 1 = v ∧ v = r := by
  unfold zbl at h
  by_cases hc : v &&& 1 = v
  · rw [if_pos hc] at h; exact ⟨hc, Option.some.inj h⟩
  · rw [if_neg hc] at h; cases h
/-- a character -/
def zch (v : Int32) : Option Int32 := if (v.toUInt32 % 65536).toInt32 = v then some v else none
def zrem (x y : Int32) : Int32 := x - x / y * y
theorem z_bind {α β : Type} {x : Option α} {f : α → Option β} {b : β} (h : x.bind f = some b) : ∃ a, x = some a ∧ f a = some b := Option.bind_eq_some_iff.mp h
theorem z_let {α β : Type} {a : α} {f : α → Option β} {b : β} (h : (some a).bind f = some b) : ∃ x, x = a ∧ f x = some b := ⟨a, rfl, h⟩
theorem z_if {α : Type} {c : Prop} [Decidable c] {x y b : Option α} (hc : c) (h : (if c then x else y) = b) : x = b := by rw [if_pos hc] at h; exact h
theorem z_ifn {α : Type} {c : Prop} [Decidable c] {x y b : Option α} (hc : ¬ c) (h : (if c then x else y) = b) : y = b := by rw [if_neg hc] at h; exact h
def zFuel : Nat := 1000000
/-- a world: classes and slots, array classes, addresses, how many cells, contents by a memory, what else is known -/
abbrev zWd : Type := va_G × List (ClassId × FieldType) × (Nat → Nat) × Nat × (zM → Nat → va_E) × (State → Heap → Prop)
def zD (w : zWd) : va_G := w.1
def zt (w : zWd) : List (ClassId × FieldType) := w.2.1
def za (w : zWd) : Nat → Nat := w.2.2.1
def zn (w : zWd) : Nat := w.2.2.2.1
def zc (w : zWd) : zM → Nat → va_E := w.2.2.2.2.1
def ze (w : zWd) : State → Heap → Prop := w.2.2.2.2.2
def zA (w : zWd) : Nat → Prop := fun q => ∃ k, k < zn w ∧ q = za w k
def zL (w : zWd) (M : zM) : va_W := (List.range (zn w)).map (fun k => (za w k, zc w M k))
def zOk (w : zWd) : Prop := (∀ i j, i < zn w → j < zn w → za w i = za w j → i = j) ∧ (∀ (M M' : zM) (i : Nat), M.1 i = M'.1 i → M.2 i = M'.2 i → zc w M i = zc w M' i) ∧
  (∀ (s U : State) (H H1 : Heap), ze w s H → s.WarmedH U.vm → (∀ q, q < H.size → ¬ zA w q → H1[q]? = H[q]?) → ze w U H1) ∧ ∀ (U : State) (g : JFrame) (mk : MethodId) (a : Array Value) (H : Heap), ze w U H → ze w (U.calling g mk a) H
theorem zL_at {w : zWd} {M : zM} {k : Nat} (hk : k < zn w) : (zL w M)[k]? = some (za w k, zc w M k) := by
  simp [zL, hk]
theorem zL_of {w : zWd} {M : zM} {k : Nat} {q : Nat × va_E} (h : (zL w M)[k]? = some q) : k < zn w ∧ q = (za w k, zc w M k) := by
  have hk : k < zn w := by
    have := (List.getElem?_eq_some_iff.mp h).1
    simpa [zL] using this
  rw [zL_at hk] at h
  exact ⟨hk, (Option.some.inj h).symm⟩
theorem zL_set {w : zWd} (ho : zOk w) {M M' : zM} {k : Nat} {e : va_E} (hk : k < zn w) (he : zc w M' k = e) (hne : ∀ i, i ≠ k → M'.1 i = M.1 i ∧ M'.2 i = M.2 i) : (zL w M).set k (za w k, e) = zL w M' := by
  apply List.ext_getElem?
  intro i
  by_cases hi : i = k
  · subst hi
    rw [List.getElem?_set_self (by simpa [zL] using hk), zL_at hk, he]
  · rw [List.getElem?_set_ne (Ne.symm hi)]
    by_cases hl : i < zn w
    · rw [zL_at hl, zL_at hl, ho.2.1 M' M i (hne i hi).1 (hne i hi).2]
    · rw [List.getElem?_eq_none (by simp [zL]; omega), List.getElem?_eq_none (by simp [zL]; omega)]
theorem zL_D {w : zWd} (ho : zOk w) (M : zM) : va_D (zA w) (zL w M) := by
  refine ⟨fun i j x y hi hj hxy => ?_, fun k q hk => ?_⟩
  · obtain ⟨h1, rfl⟩ := zL_of hi
    obtain ⟨h2, rfl⟩ := zL_of hj
    exact ho.1 i j h1 h2 hxy
  · obtain ⟨h1, rfl⟩ := zL_of hk
    exact ⟨k, h1, rfl⟩
def zP (w : zWd) (M : zM) (H : Heap) : Prop := va_P (zD w) vwCl (zL w M) H
def zH (w : zWd) (s : State) (M : zM) (H : Heap) (locs : List Loc) : Prop := zP w M H ∧ va_S (zA w) s.heap H locs
def zG (w : zWd) (p : Program) (s : State) (m : MethodId) (c : Code) (args : Array Value) (cc : ByteArray) (own : String) (nL : Nat) : Prop :=
  p.tables.exec = Jvm.exec ∧ c.code = cc ∧ c.maxLocals = nL ∧ s.vm.findClass own = some m.cls ∧ (∀ u ∈ zU, u.before args s = true) ∧ va_K (zD w) vwCl (zt w) s ∧ zOk w ∧ ze w s s.heap
theorem zG.x {w : zWd} {p : Program} {s : State} {m : MethodId} {c : Code} {args : Array Value} {cc : ByteArray} {own : String} {nL : Nat} (G : zG w p s m c args cc own nL) : p.tables.exec = Jvm.exec := G.1
theorem zG.b {w : zWd} {p : Program} {s : State} {m : MethodId} {c : Code} {args : Array Value} {cc : ByteArray} {own : String} {nL : Nat} (G : zG w p s m c args cc own nL) : c.code = cc := G.2.1
theorem zG.ml {w : zWd} {p : Program} {s : State} {m : MethodId} {c : Code} {args : Array Value} {cc : ByteArray} {own : String} {nL : Nat} (G : zG w p s m c args cc own nL) : c.maxLocals = nL := G.2.2.1
theorem zG.o {w : zWd} {p : Program} {s : State} {m : MethodId} {c : Code} {args : Array Value} {cc : ByteArray} {own : String} {nL : Nat} (G : zG w p s m c args cc own nL) : s.vm.findClass own = some m.cls := G.2.2.2.1
theorem zG.t {w : zWd} {p : Program} {s : State} {m : MethodId} {c : Code} {args : Array Value} {cc : ByteArray} {own : String} {nL : Nat} (G : zG w p s m c args cc own nL) {u : Cond} (h : u ∈ zU) : u.before args s = true := G.2.2.2.2.1 u h
theorem zG.K {w : zWd} {p : Program} {s : State} {m : MethodId} {c : Code} {args : Array Value} {cc : ByteArray} {own : String} {nL : Nat} (G : zG w p s m c args cc own nL) : va_K (zD w) vwCl (zt w) s := G.2.2.2.2.2.1
theorem zG.k {w : zWd} {p : Program} {s : State} {m : MethodId} {c : Code} {args : Array Value} {cc : ByteArray} {own : String} {nL : Nat} (G : zG w p s m c args cc own nL) : zOk w := G.2.2.2.2.2.2.1
theorem zG.e {w : zWd} {p : Program} {s : State} {m : MethodId} {c : Code} {args : Array Value} {cc : ByteArray} {own : String} {nL : Nat} (G : zG w p s m c args cc own nL) : ze w s s.heap := G.2.2.2.2.2.2.2
theorem zG.f {w : zWd} {p : Program} {s : State} {m : MethodId} {c : Code} {args : Array Value} {cc : ByteArray} {own : String} {nL : Nat} (G : zG w p s m c args cc own nL) : CallFix p m c cc nL s args zU own := ⟨G.1, G.2.1, G.2.2.1, G.2.2.2.1, G.2.2.2.2.1⟩
/-- what a cell is: an object, a row of ints, of longs, of references -/
def zOB (w : zWd) (k ci : Nat) (fs : zM → List Value) : Prop := k < zn w ∧ ∀ M, zc w M k = .inr (ci, fs M)
def zIA (w : zWd) (k n : Nat) : Prop := k < zn w ∧ ∃ (cA : ClassId) (t : Nat), (zt w)[t]? = some (cA, .int) ∧ ∀ M, zc w M k = .inl (cA, n, .inl (M.1 k))
def zLA (w : zWd) (k n : Nat) : Prop := k < zn w ∧ ∃ (cA : ClassId) (t : Nat), (zt w)[t]? = some (cA, .long) ∧ ∀ M, zc w M k = .inl (cA, n, .inr (.inl (M.2 k)))
def zRA (w : zWd) (k n : Nat) (r : Nat → Nat) : Prop := k < zn w ∧ ∃ (cA : ClassId) (t : Nat) (C : String), (zt w)[t]? = some (cA, .object C) ∧ ∀ M, zc w M k = .inl (cA, n, .inr (.inr (.inr (.inr (fun j => some (za w (r j)))))))
section ZR
variable {p : Program} {l : Launch} {e : Env} {R : Room} {s : State} {m : MethodId} {args : Array Value} {below : List Frame} {meth : Method} {c : Code} {H : Heap} {locs : List Loc} {Q : State → Prop}
variable {cc : ByteArray} {pc nL : Nat} {ls : Array Slot} {rest : List Value} {w : zWd} {M : zM} {own : String}
theorem z_get {ci Nf idx k : Nat} {C : String} {T : u_T} {fs : zM → List Value} {v : Value} (G : zG w p s m c args cc own nL) (hP : zP w M H) (hO : zOB w k ci fs) (hc : vwCl[ci]? = some (C, T, Nf)) (hin : ∀ u ∈ u_ws C T Nf, u ∈ zU) (j : Nat) (hj : j < Nf)
    (hl : Cond.fieldLink own idx (T j).1 (T j).2.1 (T j).2.2.1 ∈ zU) (hv : (fs M)[j]? = some v) (hdg : decode cc pc = .ok (.getfield idx, 3))
    (kk : W p l e R s m args below meth c H locs 0 0 Q (F0 m (pc + 3) ls (v :: rest))) : W p l e R s m args below meth c H locs 0 0 Q (F0 m pc ls (.ref (za w k) :: rest)) :=
  va_get (D := zD w) (ci := ci) (C := C) (T := T) (N := Nf) (Ts := zU) (ref := (T j).1) G.x G.b G.2.2.2.2.1 hin G.o G.K hP k (by rw [zL_at hO.1, hO.2]) hc j hj (G.t hl) (fun _ h => h) hv hdg kk
theorem z_put {ci Nf idx k : Nat} {C : String} {T : u_T} {fs : zM → List Value} {v : Int32} {ty : FieldType} (G : zG w p s m c args cc own nL) (hH : zH w s M H locs) (hO : zOB w k ci fs) (hc : vwCl[ci]? = some (C, T, Nf)) (hin : ∀ u ∈ u_ws C T Nf, u ∈ zU) (ty0 : Nat → FieldType) (hty : ∀ k, k < Nf → parseFieldDescriptor (T k).2.2.1 = some (ty0 k)) (hnm : ∀ a, a < Nf → ∀ b, b < Nf → a ≠ b → (T a).2.1 ≠ (T b).2.1) (j : Nat) (hj : j < Nf)
    (hl : Cond.fieldLink own idx (T j).1 (T j).2.1 (T j).2.2.1 ∈ zU) (hfin : (T j).2.2.2 = false) (hd : ty0 j = ty) (hn : narrow ty (.int v) = .int v) (hfit : fits ty (.int v) = true) (hfs : fs (zst M k j v) = (fs M).set j (.int v)) (hlen : j < (fs M).length) (hdg : decode cc pc = .ok (.putfield idx, 3))
    (kk : ∀ (H1 : Heap) (locs1 : List Loc), zH w s (zst M k j v) H1 locs1 → W p l e R s m args below meth c H1 locs1 0 0 Q (F0 m (pc + 3) ls rest)) : W p l e R s m args below meth c H locs 0 0 Q (F0 m pc ls (.int v :: .ref (za w k) :: rest)) := by
  refine va_put (D := zD w) (ci := ci) (C := C) (T := T) (N := Nf) (Ts := zU) (ref := (T j).1) (ty := ty) G.x G.b G.2.2.2.2.1 hin ty0 hty hnm G.o G.K hH.1 (zL_D G.k M) hH.2 k (by rw [zL_at hO.1, hO.2]) hc j hj (G.t hl) (fun _ h => h) hfin (by rw [hty j hj, hd]) hn hfit hlen hdg (fun H1 locs1 hP hD hS => ?_)
  refine kk H1 locs1 ⟨?_, hS⟩
  rw [zL_set G.k (M' := zst M k j v) hO.1 (by rw [hO.2, hfs]) zst_ne] at hP
  exact hP
theorem z_iald {k n j : Nat} {i : Int32} (G : zG w p s m c args cc own nL) (hP : zP w M H) (hA : zIA w k n) (hj : zix i n = some j) (hdg : decode cc pc = .ok (.iaload, 1))
    (kk : W p l e R s m args below meth c H locs 0 0 Q (F0 m (pc + 1) ls (.int (M.1 k j) :: rest))) : W p l e R s m args below meth c H locs 0 0 Q (F0 m pc ls (.int i :: .ref (za w k) :: rest)) := by
  obtain ⟨hk, cA, t, ht, hA⟩ := hA
  obtain ⟨h1, h2⟩ := zix_some hj
  refine va_iald (D := zD w) G.x G.b G.K hP k t (f := M.1 k) (by rw [zL_at hk, hA]) ht h1 hdg ?_
  rw [h2]; exact kk
theorem z_lald {k n j : Nat} {i : Int32} (G : zG w p s m c args cc own nL) (hP : zP w M H) (hA : zLA w k n) (hj : zix i n = some j) (hdg : decode cc pc = .ok (.laload, 1))
    (kk : W p l e R s m args below meth c H locs 0 0 Q (F0 m (pc + 1) ls (.long (M.2 k j) :: rest))) : W p l e R s m args below meth c H locs 0 0 Q (F0 m pc ls (.int i :: .ref (za w k) :: rest)) := by
  obtain ⟨hk, cA, t, ht, hA⟩ := hA
  obtain ⟨h1, h2⟩ := zix_some hj
  refine va_lald (D := zD w) G.x G.b G.K hP k t (f := M.2 k) (by rw [zL_at hk, hA]) ht h1 hdg ?_
  rw [h2]; exact kk
theorem z_aald {k n j : Nat} {i : Int32} {r : Nat → Nat} (G : zG w p s m c args cc own nL) (hP : zP w M H) (hA : zRA w k n r) (hj : zix i n = some j) (hdg : decode cc pc = .ok (.aaload, 1))
    (kk : W p l e R s m args below meth c H locs 0 0 Q (F0 m (pc + 1) ls (.ref (za w (r j)) :: rest))) : W p l e R s m args below meth c H locs 0 0 Q (F0 m pc ls (.int i :: .ref (za w k) :: rest)) := by
  obtain ⟨hk, cA, t, C, ht, hA⟩ := hA
  obtain ⟨h1, h2⟩ := zix_some hj
  refine va_aldq (D := zD w) G.x G.b G.K hP k t (C := C) (f := fun j => some (za w (r j))) (by rw [zL_at hk, hA]) ht h1 hdg ?_
  rw [h2]; exact kk
theorem z_iast {k n j : Nat} {i v : Int32} (G : zG w p s m c args cc own nL) (hH : zH w s M H locs) (hA : zIA w k n) (hj : zix i n = some j) (hdg : decode cc pc = .ok (.iastore, 1))
    (kk : ∀ (H1 : Heap) (locs1 : List Loc), zH w s (zst M k j v) H1 locs1 → W p l e R s m args below meth c H1 locs1 0 0 Q (F0 m (pc + 1) ls rest)) : W p l e R s m args below meth c H locs 0 0 Q (F0 m pc ls (.int v :: .int i :: .ref (za w k) :: rest)) := by
  obtain ⟨hk, cA, t, ht, hA⟩ := hA
  obtain ⟨h1, h2⟩ := zix_some hj
  refine va_iast (D := zD w) G.x G.b G.K hH.1 (zL_D G.k M) hH.2 k t (f := M.1 k) (by rw [zL_at hk, hA]) ht h1 hdg (fun H1 locs1 hP hD hS => kk H1 locs1 ⟨?_, hS⟩)
  rw [zL_set G.k (M' := zst M k j v) hk (by rw [hA, zst_at, h2]) zst_ne] at hP
  exact hP
theorem z_last {k n j : Nat} {i : Int32} {v : Int64} (G : zG w p s m c args cc own nL) (hH : zH w s M H locs) (hA : zLA w k n) (hj : zix i n = some j) (hdg : decode cc pc = .ok (.lastore, 1))
    (kk : ∀ (H1 : Heap) (locs1 : List Loc), zH w s (zstL M k j v) H1 locs1 → W p l e R s m args below meth c H1 locs1 0 0 Q (F0 m (pc + 1) ls rest)) : W p l e R s m args below meth c H locs 0 0 Q (F0 m pc ls (.long v :: .int i :: .ref (za w k) :: rest)) := by
  obtain ⟨hk, cA, t, ht, hA⟩ := hA
  obtain ⟨h1, h2⟩ := zix_some hj
  refine va_last (D := zD w) G.x G.b G.K hH.1 (zL_D G.k M) hH.2 k t (f := M.2 k) (by rw [zL_at hk, hA]) ht h1 hdg (fun H1 locs1 hP hD hS => kk H1 locs1 ⟨?_, hS⟩)
  rw [zL_set G.k (M' := zstL M k j v) hk (by rw [hA, zstL_at, h2]) zstL_ne] at hP
  exact hP
/-- System.arraycopy of ints: the places are tested ahead -/
def zcpOk (sp dp n : Int32) (n0 n1 : Nat) : Prop := ¬ sp < 0 ∧ ¬ dp < 0 ∧ ¬ n < 0 ∧ sp.toNatClampNeg + n.toNatClampNeg ≤ n0 ∧ dp.toNatClampNeg + n.toNatClampNeg ≤ n1
theorem z_copyi {k0 k1 n0 n1 idx : Nat} {sp dp n : Int32} (G : zG w p s m c args cc own nL) (hH : zH w s M H locs) (hsz : ls.size = nL) (h0 : zIA w k0 n0) (h1 : zIA w k1 n1) (hok : zcpOk sp dp n n0 n1)
    (hl : Cond.methodLink own idx arraycopyName ∈ zU) (hnat : Cond.native arraycopyName ∈ zU) (hstat : Cond.static arraycopyName ∈ zU) (hini : Cond.initialized "java/lang/System" ∈ zU) (hframes : 1 ≤ R.frames) (hlocals : (rest.map fun v => v.category).sum + (nativeFrameWords "java/lang/System" "arraycopy" 5 + 11) ≤ R.locals) (hdg : decode cc pc = .ok (.invokestatic idx, 3))
    (kk : ∀ (H1 : Heap) (locs1 : List Loc), zH w s (zcp M k0 k1 sp.toNatClampNeg dp.toNatClampNeg n.toNatClampNeg) H1 locs1 → W p l e R s m args below meth c H1 locs1 0 0 Q (F0 m (pc + 3) ls rest)) : W p l e R s m args below meth c H locs 0 0 Q (F0 m pc ls (.int n :: .int dp :: .ref (za w k1) :: .int sp :: .ref (za w k0) :: rest)) := by
  obtain ⟨hk0, cA0, t0, ht0, hA0⟩ := h0
  obtain ⟨hk1, cA1, t1, ht1, hA1⟩ := h1
  obtain ⟨a1, a2, a3, a4, a5⟩ := hok
  refine va_copyi (D := zD w) G.x G.b (G.ml.trans hsz.symm) G.o (G.t hl) (G.t hnat) (G.t hstat) (G.t hini) G.K hH.1 (zL_D G.k M) hH.2 k0 k1 t0 t1 (f := M.1 k0) (g := M.1 k1) (ty := .int) (by rw [zL_at hk0, hA0]) (by rw [zL_at hk1, hA1]) ht0 ht1 rfl a1 a2 a3 a4 a5 (fun _ _ => rfl) hframes hlocals hdg (fun H1 locs1 hP hD hS => kk H1 locs1 ⟨?_, hS⟩)
  rw [zL_set G.k (M' := zcp M k0 k1 sp.toNatClampNeg dp.toNatClampNeg n.toNatClampNeg) hk1 (by rw [hA1, zcp_at]) zcp_ne] at hP
  exact hP
theorem z_copyl {k0 k1 n0 n1 idx : Nat} {sp dp n : Int32} (G : zG w p s m c args cc own nL) (hH : zH w s M H locs) (hsz : ls.size = nL) (h0 : zLA w k0 n0) (h1 : zLA w k1 n1) (hok : zcpOk sp dp n n0 n1)
    (hl : Cond.methodLink own idx arraycopyName ∈ zU) (hnat : Cond.native arraycopyName ∈ zU) (hstat : Cond.static arraycopyName ∈ zU) (hini : Cond.initialized "java/lang/System" ∈ zU) (hframes : 1 ≤ R.frames) (hlocals : (rest.map fun v => v.category).sum + (nativeFrameWords "java/lang/System" "arraycopy" 5 + 11) ≤ R.locals) (hdg : decode cc pc = .ok (.invokestatic idx, 3))
    (kk : ∀ (H1 : Heap) (locs1 : List Loc), zH w s (zcpL M k0 k1 sp.toNatClampNeg dp.toNatClampNeg n.toNatClampNeg) H1 locs1 → W p l e R s m args below meth c H1 locs1 0 0 Q (F0 m (pc + 3) ls rest)) : W p l e R s m args below meth c H locs 0 0 Q (F0 m pc ls (.int n :: .int dp :: .ref (za w k1) :: .int sp :: .ref (za w k0) :: rest)) := by
  obtain ⟨hk0, cA0, t0, ht0, hA0⟩ := h0
  obtain ⟨hk1, cA1, t1, ht1, hA1⟩ := h1
  obtain ⟨a1, a2, a3, a4, a5⟩ := hok
  refine va_copyl (D := zD w) G.x G.b (G.ml.trans hsz.symm) G.o (G.t hl) (G.t hnat) (G.t hstat) (G.t hini) G.K hH.1 (zL_D G.k M) hH.2 k0 k1 t0 t1 (f := M.2 k0) (g := M.2 k1) (ty := .long) (by rw [zL_at hk0, hA0]) (by rw [zL_at hk1, hA1]) ht0 ht1 rfl a1 a2 a3 a4 a5 (fun _ _ => rfl) hframes hlocals hdg (fun H1 locs1 hP hD hS => kk H1 locs1 ⟨?_, hS⟩)
  rw [zL_set G.k (M' := zcpL M k0 k1 sp.toNatClampNeg dp.toNatClampNeg n.toNatClampNeg) hk1 (by rw [hA1, zcpL_at]) zcpL_ne] at hP
  exact hP
theorem z_irem {x y : Int32} (G : zG w p s m c args cc own nL) (hdg : decode cc pc = .ok (.irem, 1)) (hne : ¬ y = 0)
    (k : W p l e R s m args below meth c H locs 0 0 Q (F0 m (pc + 1) ls (.int (zrem x y) :: rest))) : W p l e R s m args below meth c H locs 0 0 Q (F0 m pc ls (.int y :: .int x :: rest)) := lv_irem G.x G.b hdg hne k
end ZR
end
section
/-! contracts: a method that writes the world, and one that only reads it -/
def zPre (w : zWd) (M : zM) (av : List Value) : Array Value → State → Prop := va_Pc av (fun U => zP w M U.heap ∧ va_K (zD w) vwCl (zt w) U ∧ ze w U U.heap)
def zQ (w : zWd) (ov : Option Value) (M : zM) : Array Value → State → Outcome → State → Prop := fun _ st o t => o = .returned ov ∧ zP w M t.heap ∧ va_F (zA w) st t
def zR (ov : Option Value) : Array Value → State → Outcome → State → Prop := fun _ st o t => o = .returned ov ∧ t.heap = st.heap
def zNo : Addr → Prop := fun _ => False
/-- a method's name: its class, and how many arguments -/
def zAr (y : MethodName) (C : String) (n : Nat) : Prop := y.cls = C ∧ y.cls ≠ "java/lang/invoke/MethodHandle" ∧ y.cls ≠ "java/lang/invoke/VarHandle" ∧ (parseMethodDescriptor y.desc).map (fun d => d.parameters.length) = some n
theorem zPre.blind {w : zWd} {M : zM} {av : List Value} (ho : zOk w) : FrameBlind (zPre w M av) := by
  intro a U g mk h
  obtain ⟨h1, h2, h3, h4⟩ := h
  exact ⟨h1, h2, va_K.moved (u := U) (U := U.calling g mk a) (Vm.Alike.refl U.vm) h3, ho.2.2.2 U g mk a U.heap h4⟩
theorem zPre.at {w : zWd} {p : Program} {s : State} {m : MethodId} {c : Code} {args : Array Value} {cc : ByteArray} {own : String} {nL : Nat} {M : zM} {H : Heap} {locs : List Loc} (av : List Value) (G : zG w p s m c args cc own nL) (hH : zH w s M H locs) :
    ∀ U : State, U.heap = H → s.WarmedH U.vm → zPre w M av av.toArray U := by
  intro U hU hW
  refine ⟨rfl, by rw [hU]; exact hH.1, va_K.moved hW.alike G.K, ?_⟩
  exact G.k.2.2.1 s U s.heap U.heap G.e hW (by rw [hU]; exact hH.2.2.1)
section ZC
variable {p : Program} {l : Launch} {e : Env} {R : Room} {s : State} {m : MethodId} {args : Array Value} {below : List Frame} {meth : Method} {c : Code} {H : Heap} {locs : List Loc} {Q : State → Prop}
variable {cc : ByteArray} {pc nL : Nat} {ls : Array Slot} {rest : List Value} {w : zWd} {M : zM} {own : String}
/-- the entry of a method -/
theorem z_met {y : MethodName} {cc : ByteArray} {maxL : Nat} {ret : Option FieldType} {rm : Room} {av : List Value} {Qc : Array Value → State → Outcome → State → Prop} {free : Addr → Prop} (ho : zOk w) (hy : plainName y.cls = true) (hm : (lg_sl av).length ≤ maxL)
    (body : ∀ (p : Program) (e : Env) (s : State) (m : MethodId) (below : List Frame) (meth : Method) (c : Code), zG w p s m c av.toArray cc y.cls maxL → meth.sig.returnType = ret → meth.locks = false → zH w s M s.heap [] → ∀ ls : Array Slot, lv_has ls maxL (lv_args 0 av) →
      W p l e rm s m av.toArray below meth c s.heap [] 0 0 (MQ below Qc av.toArray s 0 0 free) (F0 m 0 ls [])) : Met l y (Cond.code y cc maxL ret :: zU) rm (zPre w M av) Qc 0 0 free := by
  refine Met.ofW (cc := cc) (maxL := maxL) (ret := ret) hy rfl ?_
  intro p e s m args below meth c s₁ B hml hv
  obtain ⟨rfl, hP, hK, hE⟩ := hv
  have hts := atoms_spec (ws := Cond.code y cc maxL ret :: zU) B.pre
  have hown : s.vm.findClass y.cls = some m.cls := findClass_of_methodNamed B.named
  rw [lg_entry_eq]
  exact body p e s m below meth c ⟨B.exec, B.bytes, hml, hown, fun u hu => hts u (List.mem_cons_of_mem _ hu), hK, ho, hE⟩ B.returns B.notSynchronized ⟨hP, va_S.rf⟩ _ (lv_entry av hm)
/-- the receiver -/
theorem z_recv {ci Nf k : Nat} {C : String} {T : u_T} {fs : zM → List Value} (G : zG w p s m c args cc own nL) (hP : zP w M H) (hO : zOB w k ci fs) (hc : vwCl[ci]? = some (C, T, Nf)) : ∃ cell : Cell, H[za w k]? = some cell ∧ cell.vm.isStatics = false ∧ s.vm.findClass C = some cell.cls :=
  va_recv (q := (C, T, Nf)) (q0 := k) (ci := ci) (fs := fs M) G.K hP hc (by rw [zL_at hO.1, hO.2])
variable {y : MethodName} {bytes : ByteArray} {maxL n idx k ci Nf : Nat} {ret : Option FieldType} {rm : Room} {Qc : Array Value → State → Outcome → State → Prop} {free : Addr → Prop} {C : String} {T : u_T} {fs : zM → List Value} {As : List Value} {st0 : List Value}
theorem z_runV (G : zG w p s m c args cc own nL) (hH : zH w s M H locs) (hsz : ls.size = nL) (hM : Met l y (Cond.code y bytes maxL ret :: zU) rm (zPre w M (.ref (za w k) :: As)) Qc 0 0 free) (hO : zOB w k ci fs) (hc : vwCl[ci]? = some (C, T, Nf)) (ha : zAr y C n)
    (h1 : Cond.methodLink own idx y ∈ zU) (h2 : Cond.instanceMethod y ∈ zU) (h3 : Cond.selects C y y ∈ zU) (h4 : Cond.initialized C ∈ zU) (h5 : Cond.code y bytes maxL ret ∈ zU) (hrc : rm.cells = 0) (hrs : rm.slots = 0) (hn : As.length = n) (hR1 : rm.frames + 1 ≤ R.frames) (hR2 : 8 + (maxL + 11) + rm.locals ≤ R.locals)
    (hst : st0 = As.reverse ++ .ref (za w k) :: rest) (hW : (rest.map fun v => v.category).sum ≤ 8) (hdg : decode cc pc = .ok (.invokevirtual idx, 3)) : va_Run p l e R s m args below meth c H locs 0 0 0 0 (F0 m pc ls st0) rest (Qc (Value.ref (za w k) :: As).toArray) free := by
  obtain ⟨a1, a2⟩ := ha
  have hcb : CallB R s args own idx y bytes maxL ret (Cond.code y bytes maxL ret :: zU) rm 0 0 n := callB_of n G.2.2.2.2.1 (z_goodU h5) rfl hrc hrs (by rw [a1]; exact G.t h4) (G.t h1) a2 ⟨hR1, hR2⟩
  exact va_runV (g := F0 m pc ls st0) G.f hM ⟨hcb, G.t h2, G.t h3⟩ ⟨zPre.blind G.k, z_recv G hH.1 hO hc, zPre.at _ G hH⟩ rfl hn hsz hst (lv_room hW) hdg ⟨Nat.zero_le _, Nat.zero_le _⟩
theorem z_runS (G : zG w p s m c args cc own nL) (hH : zH w s M H locs) (hsz : ls.size = nL) (hM : Met l y (Cond.code y bytes maxL ret :: zU) rm (zPre w M As) Qc 0 0 free) (ha : zAr y C n)
    (h1 : Cond.methodLink own idx y ∈ zU) (h2 : Cond.static y ∈ zU) (h4 : Cond.initialized C ∈ zU) (h5 : Cond.code y bytes maxL ret ∈ zU) (hrc : rm.cells = 0) (hrs : rm.slots = 0) (hn : As.length = n) (hR1 : rm.frames + 1 ≤ R.frames) (hR2 : 8 + (maxL + 11) + rm.locals ≤ R.locals)
    (hst : st0 = As.reverse ++ rest) (hW : (rest.map fun v => v.category).sum ≤ 8) (hdg : decode cc pc = .ok (.invokestatic idx, 3)) : va_Run p l e R s m args below meth c H locs 0 0 0 0 (F0 m pc ls st0) rest (Qc As.toArray) free := by
  obtain ⟨a1, a2⟩ := ha
  have hcb : CallB R s args own idx y bytes maxL ret (Cond.code y bytes maxL ret :: zU) rm 0 0 n := callB_of n G.2.2.2.2.1 (z_goodU h5) rfl hrc hrs (by rw [a1]; exact G.t h4) (G.t h1) a2 ⟨hR1, hR2⟩
  exact va_runS (g := F0 m pc ls st0) G.f hM ⟨hcb, G.t h2⟩ ⟨zPre.blind G.k, zPre.at _ G hH⟩ rfl hn hsz hst (lv_room hW) hdg ⟨Nat.zero_le _, Nat.zero_le _⟩
/-- super.m(..) -/
theorem z_runSU (G : zG w p s m c args cc own nL) (hH : zH w s M H locs) (hsz : ls.size = nL) (hM : Met l y (Cond.code y bytes maxL ret :: zU) rm (zPre w M (.ref (za w k) :: As)) Qc 0 0 free) (hO : zOB w k ci fs) (hc : vwCl[ci]? = some (C, T, Nf)) {S : String} (ha : zAr y S n) (hno : y.name ≠ "<init>")
    (h1 : Cond.methodLink own idx y ∈ zU) (h2 : Cond.sameMethod y.cls y.cls y.name y.desc ∈ zU) (h3 : Cond.superclass own y.cls ∈ zU) (h6 : Cond.instanceMethod y ∈ zU) (h4 : Cond.initialized S ∈ zU) (h5 : Cond.code y bytes maxL ret ∈ zU) (hrc : rm.cells = 0) (hrs : rm.slots = 0) (hn : As.length = n) (hR1 : rm.frames + 1 ≤ R.frames) (hR2 : 8 + (maxL + 11) + rm.locals ≤ R.locals)
    (hst : st0 = As.reverse ++ .ref (za w k) :: rest) (hW : (rest.map fun v => v.category).sum ≤ 8) (hdg : decode cc pc = .ok (.invokespecial idx, 3)) : va_Run p l e R s m args below meth c H locs 0 0 0 0 (F0 m pc ls st0) rest (Qc (Value.ref (za w k) :: As).toArray) free := by
  obtain ⟨a1, a2, a3, a4⟩ := ha
  have hG : GoodIn zU (Cond.code y bytes maxL ret :: zU) := z_goodU h5
  refine va_runSU (C := C) (cC := (zD w).1 ci) (g := F0 m pc ls st0) (G.K.1 ci _ hc).2 G.f hM ⟨⟨hrc, hrs, hR1, hR2, pay_in G.2.2.2.2.1 hG, List.mem_cons_self⟩, G.t h1, G.t h2, G.t h3, G.t h6, by rw [a1]; exact G.t h4, G.t h5, hno, fun sig h => ?_⟩ ⟨zPre.blind G.k, z_recv G hH.1 hO hc, zPre.at _ G hH⟩ rfl hn hsz hst (lv_room hW) hdg ⟨Nat.zero_le _, Nat.zero_le _⟩
  rw [h] at a4
  exact (Option.some.inj a4).symm
/-- a virtual call: the reference names x, of the class owner; the receiver's class C selects y -/
theorem z_runO {x : MethodName} {owner S : String} {b0 : ByteArray} {m0 : Nat} {r0 : Option FieldType} (G : zG w p s m c args cc own nL) (hH : zH w s M H locs) (hsz : ls.size = nL) (hM : Met l y (Cond.code y bytes maxL ret :: zU) rm (zPre w M (.ref (za w k) :: As)) Qc 0 0 free) (hO : zOB w k ci fs) (hc : vwCl[ci]? = some (C, T, Nf)) (ha : zAr x owner n) (hy : y.cls = S)
    (h1 : Cond.methodLink own idx x ∈ zU) (h2 : Cond.sameMethod x.cls owner x.name x.desc ∈ zU) (h3 : Cond.selects C x y ∈ zU) (h6 : Cond.instanceMethod y ∈ zU) (h7 : Cond.instanceMethod ⟨owner, x.name, x.desc⟩ ∈ zU) (h8 : Cond.code ⟨owner, x.name, x.desc⟩ b0 m0 r0 ∈ zU) (h4 : Cond.initialized S ∈ zU) (h5 : Cond.code y bytes maxL ret ∈ zU) (hrc : rm.cells = 0) (hrs : rm.slots = 0) (hn : As.length = n) (hR1 : rm.frames + 1 ≤ R.frames) (hR2 : 8 + (maxL + 11) + rm.locals ≤ R.locals)
    (hst : st0 = As.reverse ++ .ref (za w k) :: rest) (hW : (rest.map fun v => v.category).sum ≤ 8) (hdg : decode cc pc = .ok (.invokevirtual idx, 3)) : va_Run p l e R s m args below meth c H locs 0 0 0 0 (F0 m pc ls st0) rest (Qc (Value.ref (za w k) :: As).toArray) free := by
  obtain ⟨a1, a2, a3, a4⟩ := ha
  have hG : GoodIn zU (Cond.code y bytes maxL ret :: zU) := z_goodU h5
  refine va_runU (C := C) (owner := owner) (g := F0 m pc ls st0) G.f hM ⟨⟨hrc, hrs, hR1, hR2, pay_in G.2.2.2.2.1 hG, List.mem_cons_self⟩, G.t h5, by rw [hy]; exact G.t h4, by rw [← a1]; exact ⟨a2, a3⟩, fun sig h => ?_, G.t h1, G.t h2, va_Decl.of (G.t h7) (G.t h8), G.t h3, G.t h6⟩ ⟨zPre.blind G.k, z_recv G hH.1 hO hc, zPre.at _ G hH⟩ rfl hn hsz hst (lv_room hW) hdg ⟨Nat.zero_le _, Nat.zero_le _⟩
  rw [h] at a4
  exact (Option.some.inj a4).symm
variable {ov : Option Value} {M' : zM} {a : Array Value}
/-- behind a call that may write -/
theorem z_aft (hr : va_Run p l e R s m args below meth c H locs 0 0 0 0 (F0 m pc ls st0) rest (zQ w ov M' a) (zA w)) (hH : zH w s M H locs)
    (kk : ∀ (H1 : Heap) (locs1 : List Loc), zH w s M' H1 locs1 → W p l e R s m args below meth c H1 locs1 0 0 Q (F0 m (pc + 3) ls (ov.toList ++ rest))) : W p l e R s m args below meth c H locs 0 0 Q (F0 m pc ls st0) := by
  intro T hT X
  obtain ⟨v, st₀, t, T', L, h0, X', hL, e1, e2, ⟨hv, hp, hz, hk⟩, st⟩ := hr T hT X
  cases hv
  rw [h0] at hz hk
  have hS := hH.2
  obtain ⟨t2, a1, b1⟩ := kk T'.heap (locs ++ L) ⟨by rw [e1]; exact hp, Nat.le_trans hS.1 (by rw [e1]; exact hz), fun q h1 h2 => by rw [e1, hk q (Nat.lt_of_lt_of_le h1 hS.1) h2]; exact hS.2.1 q h1 h2, fun q hq => by
      rcases List.mem_append.mp hq with h | h
      · exact hS.2.2 q h
      · exact hL q h⟩ T' rfl X'
  exact ⟨t2, st t2 a1, b1⟩
theorem z_aftI {r : Int32} (hr : va_Run p l e R s m args below meth c H locs 0 0 0 0 (F0 m pc ls st0) rest (zQ w (some (.int r)) M' a) (zA w)) (hH : zH w s M H locs)
    (kk : ∀ (H1 : Heap) (locs1 : List Loc), zH w s M' H1 locs1 → W p l e R s m args below meth c H1 locs1 0 0 Q (F0 m (pc + 3) ls (.int r :: rest))) : W p l e R s m args below meth c H locs 0 0 Q (F0 m pc ls st0) := z_aft hr hH kk
theorem z_aftL {r : Int64} (hr : va_Run p l e R s m args below meth c H locs 0 0 0 0 (F0 m pc ls st0) rest (zQ w (some (.long r)) M' a) (zA w)) (hH : zH w s M H locs)
    (kk : ∀ (H1 : Heap) (locs1 : List Loc), zH w s M' H1 locs1 → W p l e R s m args below meth c H1 locs1 0 0 Q (F0 m (pc + 3) ls (.long r :: rest))) : W p l e R s m args below meth c H locs 0 0 Q (F0 m pc ls st0) := z_aft hr hH kk
theorem z_aftV (hr : va_Run p l e R s m args below meth c H locs 0 0 0 0 (F0 m pc ls st0) rest (zQ w none M' a) (zA w)) (hH : zH w s M H locs)
    (kk : ∀ (H1 : Heap) (locs1 : List Loc), zH w s M' H1 locs1 → W p l e R s m args below meth c H1 locs1 0 0 Q (F0 m (pc + 3) ls rest)) : W p l e R s m args below meth c H locs 0 0 Q (F0 m pc ls st0) := z_aft hr hH kk
/-- behind a call that only reads -/
theorem z_rd (hr : va_Run p l e R s m args below meth c H locs 0 0 0 0 (F0 m pc ls st0) rest (zR ov a) zNo)
    (kk : W p l e R s m args below meth c H locs 0 0 Q (F0 m (pc + 3) ls (ov.toList ++ rest))) : W p l e R s m args below meth c H locs 0 0 Q (F0 m pc ls st0) := by
  intro T hT X
  obtain ⟨v, st₀, t, T', L, h0, X', hL, e1, e2, ⟨hv, hh⟩, st⟩ := hr T hT X
  cases hv
  obtain ⟨t2, a1, b1⟩ := kk T' (by rw [e1, hh, h0]) (Stand.forget X' (fun q h => (hL q h).elim))
  exact ⟨t2, st t2 a1, b1⟩
theorem z_rdI {r : Int32} (hr : va_Run p l e R s m args below meth c H locs 0 0 0 0 (F0 m pc ls st0) rest (zR (some (.int r)) a) zNo)
    (kk : W p l e R s m args below meth c H locs 0 0 Q (F0 m (pc + 3) ls (.int r :: rest))) : W p l e R s m args below meth c H locs 0 0 Q (F0 m pc ls st0) := z_rd hr kk
theorem z_rdL {r : Int64} (hr : va_Run p l e R s m args below meth c H locs 0 0 0 0 (F0 m pc ls st0) rest (zR (some (.long r)) a) zNo)
    (kk : W p l e R s m args below meth c H locs 0 0 Q (F0 m (pc + 3) ls (.long r :: rest))) : W p l e R s m args below meth c H locs 0 0 Q (F0 m pc ls st0) := z_rd hr kk
theorem z_rdA {r : Nat} (hr : va_Run p l e R s m args below meth c H locs 0 0 0 0 (F0 m pc ls st0) rest (zR (some (.ref r)) a) zNo)
    (kk : W p l e R s m args below meth c H locs 0 0 Q (F0 m (pc + 3) ls (.ref r :: rest))) : W p l e R s m args below meth c H locs 0 0 Q (F0 m pc ls st0) := z_rd hr kk
theorem z_rdV (hr : va_Run p l e R s m args below meth c H locs 0 0 0 0 (F0 m pc ls st0) rest (zR none a) zNo)
    (kk : W p l e R s m args below meth c H locs 0 0 Q (F0 m (pc + 3) ls rest)) : W p l e R s m args below meth c H locs 0 0 Q (F0 m pc ls st0) := z_rd hr kk
/-- the ends -/
theorem z_end (hH : zH w s M H locs) : (∀ t : State, t.heap = H → s.WarmedH t.vm → zQ w ov M args s (.returned ov) t) ∧ ∀ q ∈ locs, zA w q.base :=
  ⟨fun t ht _ => ⟨rfl, by rw [ht]; exact hH.1, hH.2.F ht⟩, hH.2.2.2⟩
theorem z_retI {v r : Int32} (G : zG w p s m c args cc own nL) (hr : meth.sig.returnType = some .int) (hlk : meth.locks = false) (hH : zH w s M H locs) (h : some (v, M) = some (r, M')) (hdg : decode cc pc = .ok (.ireturn, 1)) : W p l e R s m args below meth c H locs 0 0 (MQ below (zQ w (some (.int r)) M') args s 0 0 (zA w)) (F0 m pc ls [.int v]) := by
  obtain ⟨rfl, rfl⟩ := Prod.mk.inj (Option.some.inj h)
  exact W.iret G.x G.b hr (z_end hH).1 hH.2.2.2 hdg hlk
theorem z_retZ {v r : Int32} (G : zG w p s m c args cc own nL) (hr : meth.sig.returnType = some .boolean) (hlk : meth.locks = false) (hH : zH w s M H locs) (h : (zbl v).bind (fun v => some (v, M)) = some (r, M')) (hdg : decode cc pc = .ok (.ireturn, 1)) : W p l e R s m args below meth c H locs 0 0 (MQ below (zQ w (some (.int r)) M') args s 0 0 (zA w)) (F0 m pc ls [.int v]) := by
  obtain ⟨u, h1, h⟩ := z_bind h
  obtain ⟨h2, rfl⟩ := zbl_some h1
  obtain ⟨rfl, rfl⟩ := Prod.mk.inj (Option.some.inj h)
  exact W.zret G.x G.b hr (by simp [narrow, h2]) (z_end hH).1 hH.2.2.2 hdg hlk
theorem z_retL {v r : Int64} (G : zG w p s m c args cc own nL) (hr : meth.sig.returnType = some .long) (hlk : meth.locks = false) (hH : zH w s M H locs) (h : some (v, M) = some (r, M')) (hdg : decode cc pc = .ok (.lreturn, 1)) : W p l e R s m args below meth c H locs 0 0 (MQ below (zQ w (some (.long r)) M') args s 0 0 (zA w)) (F0 m pc ls [.long v]) := by
  obtain ⟨rfl, rfl⟩ := Prod.mk.inj (Option.some.inj h)
  exact W.lret G.x G.b hr (z_end hH).1 hH.2.2.2 hdg hlk
theorem z_retV (G : zG w p s m c args cc own nL) (hr : meth.sig.returnType = none) (hlk : meth.locks = false) (hH : zH w s M H locs) (h : some M = some M') (hdg : decode cc pc = .ok (.return_, 1)) : W p l e R s m args below meth c H locs 0 0 (MQ below (zQ w none M') args s 0 0 (zA w)) (F0 m pc ls []) := by
  obtain rfl := Option.some.inj h
  exact W.vret G.x G.b hr (z_end hH).1 hH.2.2.2 hdg hlk
theorem z_endR : (∀ t : State, t.heap = s.heap → s.WarmedH t.vm → zR ov args s (.returned ov) t) ∧ ∀ q ∈ ([] : List Loc), zNo q.base := ⟨fun t ht _ => ⟨rfl, ht⟩, fun q h => by cases h⟩
theorem z_rtI {v r : Int32} (G : zG w p s m c args cc own nL) (hr : meth.sig.returnType = some .int) (hlk : meth.locks = false) (h : some v = some r) (hdg : decode cc pc = .ok (.ireturn, 1)) : W p l e R s m args below meth c s.heap [] 0 0 (MQ below (zR (some (.int r))) args s 0 0 zNo) (F0 m pc ls [.int v]) := by
  obtain rfl := Option.some.inj h
  exact W.iret G.x G.b hr z_endR.1 (z_endR (args := args) (s := s) (ov := none)).2 hdg hlk
theorem z_rtZ {v r : Int32} (G : zG w p s m c args cc own nL) (hr : meth.sig.returnType = some .boolean) (hlk : meth.locks = false) (h : zbl v = some r) (hdg : decode cc pc = .ok (.ireturn, 1)) : W p l e R s m args below meth c s.heap [] 0 0 (MQ below (zR (some (.int r))) args s 0 0 zNo) (F0 m pc ls [.int v]) := by
  obtain ⟨h2, rfl⟩ := zbl_some h
  exact W.zret G.x G.b hr (by simp [narrow, h2]) z_endR.1 (z_endR (args := args) (s := s) (ov := none)).2 hdg hlk
theorem z_rtL {v r : Int64} (G : zG w p s m c args cc own nL) (hr : meth.sig.returnType = some .long) (hlk : meth.locks = false) (h : some v = some r) (hdg : decode cc pc = .ok (.lreturn, 1)) : W p l e R s m args below meth c s.heap [] 0 0 (MQ below (zR (some (.long r))) args s 0 0 zNo) (F0 m pc ls [.long v]) := by
  obtain rfl := Option.some.inj h
  exact W.lret G.x G.b hr z_endR.1 (z_endR (args := args) (s := s) (ov := none)).2 hdg hlk
theorem z_rtV (G : zG w p s m c args cc own nL) (hr : meth.sig.returnType = none) (hlk : meth.locks = false) (hdg : decode cc pc = .ok (.return_, 1)) : W p l e R s m args below meth c s.heap [] 0 0 (MQ below (zR none) args s 0 0 zNo) (F0 m pc ls []) :=
  W.vret G.x G.b hr z_endR.1 (z_endR (args := args) (s := s) (ov := none)).2 hdg hlk
theorem z_rtA {a : Nat} {nm : String} (G : zG w p s m c args cc own nL) (hr : meth.sig.returnType = some (.object nm)) (hlk : meth.locks = false) (hdg : decode cc pc = .ok (.areturn, 1)) : W p l e R s m args below meth c s.heap [] 0 0 (MQ below (zR (some (.ref a))) args s 0 0 zNo) (F0 m pc ls [.ref a]) :=
  W.aret G.x G.b hr (Or.inl ⟨_, rfl⟩) (Or.inr ⟨_, rfl⟩) z_endR.1 (z_endR (args := args) (s := s) (ov := none)).2 hdg hlk
theorem z_rtC {v : Int32} (G : zG w p s m c args cc own nL) (hr : meth.sig.returnType = some .char) (hn : narrow .char (.int v) = .int v) (hlk : meth.locks = false) (hdg : decode cc pc = .ok (.ireturn, 1)) : W p l e R s m args below meth c s.heap [] 0 0 (MQ below (zR (some (.int v))) args s 0 0 zNo) (F0 m pc ls [.int v]) :=
  W.zret G.x G.b hr hn z_endR.1 (z_endR (args := args) (s := s) (ov := none)).2 hdg hlk
theorem z_rtB {v : Int32} (G : zG w p s m c args cc own nL) (hr : meth.sig.returnType = some .byte) (hn : narrow .byte (.int v) = .int v) (hlk : meth.locks = false) (hdg : decode cc pc = .ok (.ireturn, 1)) : W p l e R s m args below meth c s.heap [] 0 0 (MQ below (zR (some (.int v))) args s 0 0 zNo) (F0 m pc ls [.int v]) :=
  W.zret G.x G.b hr hn z_endR.1 (z_endR (args := args) (s := s) (ov := none)).2 hdg hlk
end ZC
end
section
/-! the two worlds: the class (50 cells) and the model (11 cells) -/
def zStr : List (String × Nat × String) := [("BeardHire$Kind", 7, "beard"), ("BeardHire$Ginger", 7, "ginger"), ("BeardHire$White", 7, "white"), ("BeardHire$Moustache", 7, "moustache"), ("BeardHire$Imperial", 7, "imperial"), ("BeardHire$Patriarch", 7, "patriarch"), ("BeardHire$Text", 57, "wearer"), ("BeardHire$Text", 62, "house"), ("BeardHire$Text", 67, "hire"), ("BeardHire$Text", 78, "fame"), ("BeardHire$Text", 90, "hoard"), ("BeardHire$Text", 101, "round"), ("BeardHire$Text", 106, "cross"), ("BeardHire$Text", 108, "fond")]
def zLen : List Nat := [5, 6, 5, 9, 8, 9, 6, 5, 4, 4, 5, 5, 5, 4]
def zByt : List (List Int32) := [[98, 101, 97, 114, 100], [103, 105, 110, 103, 101, 114], [119, 104, 105, 116, 101], [109, 111, 117, 115, 116, 97, 99, 104, 101], [105, 109, 112, 101, 114, 105, 97, 108], [112, 97, 116, 114, 105, 97, 114, 99, 104], [119, 101, 97, 114, 101, 114], [104, 111, 117, 115, 101], [104, 105, 114, 101], [102, 97, 109, 101], [104, 111, 97, 114, 100], [114, 111, 117, 110, 100], [99, 114, 111, 115, 115], [102, 111, 110, 100]]
def zAbv (j : Nat) : Int32 := ([-1, 0, 0, 0, 1, 2] : List Int32).getD j 0
/-- what is known of the constants: the Strings (addresses 100 and on, their bytes 200 and on), the table ABOVE (300), two statics of the JDK -/
def zEC (ad : Nat → Nat) (A : Nat → Prop) (U : State) (H : Heap) : Prop :=
  vk_S 14 zLen zByt (fun i => ad (100 + i)) (fun i => ad (200 + i)) A U H ∧ (∀ i, i < 14 → vk_R (zStr.getD i ("", 0, "")).1 (zStr.getD i ("", 0, "")).2.1 (zStr.getD i ("", 0, "")).2.2 (ad (100 + i)) U) ∧
  va_Z "java/lang/String" "COMPACT_STRINGS" "Z" (.int 1) A U H ∧ va_Zq "jdk/internal/util/Preconditions" "SIOOBE_FORMATTER" "Ljava/util/function/BiFunction;" A U H ∧
  va_Z "BeardHire" "ABOVE" "[I" (.ref (ad 300)) A U H ∧ va_T .int (ad 300) 6 (fun j => .int (zAbv j)) A U H
theorem zEC.go {ad : Nat → Nat} {A : Nat → Prop} {s U : State} {H H1 : Heap} (h : zEC ad A s H) (hW : s.WarmedH U.vm) (hq : ∀ q, q < H.size → ¬ A q → H1[q]? = H[q]?) : zEC ad A U H1 := by
  obtain ⟨h1, h2, h3, h4, h5, h6⟩ := h
  exact ⟨vk_S.moved hW.alike (h1.kept hq), fun i hi => (h2 i hi).warm hW, va_Z.moved hW.alike (h3.kept hq), va_Zq.moved hW.alike (h4.kept hq), va_Z.moved hW.alike (h5.kept hq), va_T.moved hW.alike (h6.kept hq)⟩
theorem zEC.call {ad : Nat → Nat} {A : Nat → Prop} {U : State} {H : Heap} {g : JFrame} {mk : MethodId} {a : Array Value} (h : zEC ad A U H) : zEC ad A (U.calling g mk a) H := by
  obtain ⟨h1, h2, h3, h4, h5, h6⟩ := h
  have hv : U.vm.Alike (U.calling g mk a).vm := Vm.Alike.refl U.vm
  exact ⟨vk_S.moved hv h1, fun i hi => vk_R.same rfl (h2 i hi), va_Z.moved hv h3, va_Zq.moved hv h4, va_Z.moved hv h5, va_T.moved hv h6⟩
def zKc (k : Nat) : Nat := ([2, 0, 8, 3, 1, 4] : List Nat).getD k 0
def zCe (ad : Nat → Nat) (cI cJ cK cS : ClassId) (f : Nat → Int32) (g : Nat → Int64) (k : Nat) : va_E :=
  if k = 0 then .inr (9, [.ref (ad 1), .ref (ad 11), .ref (ad 21), .int (f 3), .ref (ad 31), .ref (ad 34), .ref (ad 33)])
  else if k = 1 ∨ k = 11 ∨ k = 21 then .inr (7, [.ref (ad 35), .int (f 1), .int (f 2), .int (f 3), .ref (ad (k + 1)), .ref (ad (k + 2)), .ref (ad (k + 3)), .ref (ad (k + 4)), .ref (ad (k + 5)), .ref (ad (k + 6)), .ref (ad (k + 7)), .ref (ad (k + 8)), .ref (ad (k + 9))])
  else if k < 31 then .inl (cI, if (k - 1) % 10 < 5 then 8 else 6, .inl f)
  else if k = 31 then .inr (6, [.ref (ad 35), .ref (ad 32), .int (f 2), .ref (ad 11), .int (f 4), .int (f 5), .int (f 6), .int (f 7)])
  else if k = 32 then .inl (cI, 120, .inl f)
  else if k = 33 then .inl (cI, 7, .inl f)
  else if k = 34 then .inl (cS, 4, .inr (.inr (.inr (.inr (fun j => some (ad (42 + 2 * j)))))))
  else if k = 35 then .inl (cK, 6, .inr (.inr (.inr (.inr (fun j => some (ad (36 + j)))))))
  else if k < 42 then .inr (zKc (k - 36), [])
  else if k % 2 = 0 then .inr (5, [.ref (ad (k + 1)), .int (f 1), .int (f 2)])
  else .inl (cJ, 40, .inr (.inl g))
def cWd (D : va_G) (cI cJ cK cS : ClassId) (ad : Nat → Nat) : zWd := (D, [(cI, .int), (cJ, .long), (cK, .object "BeardHire$Kind"), (cS, .object "BeardHire$Sheet")], ad, 50, fun M k => zCe ad cI cJ cK cS (M.1 k) (M.2 k) k, fun U H => zEC ad (fun q => ∃ k, k < 50 ∧ q = ad k) U H)
def zIsC (w : zWd) : Prop := zOk w ∧ zn w = 50 ∧ (∃ cI cJ cK cS : ClassId, zt w = [(cI, .int), (cJ, .long), (cK, .object "BeardHire$Kind"), (cS, .object "BeardHire$Sheet")] ∧ ∀ M k, zc w M k = zCe (za w) cI cJ cK cS (M.1 k) (M.2 k) k) ∧ ∀ U H, ze w U H → zEC (za w) (zA w) U H
theorem cWd_is {D : va_G} {cI cJ cK cS : ClassId} {ad : Nat → Nat} (hi : ∀ i j, i < 50 → j < 50 → ad i = ad j → i = j) : zIsC (cWd D cI cJ cK cS ad) :=
  ⟨⟨hi, fun M M' i h1 h2 => by show zCe _ _ _ _ _ _ _ _ = zCe _ _ _ _ _ _ _ _; rw [h1, h2], fun s U H H1 h hW hq => zEC.go h hW hq, fun U g mk a H h => zEC.call h⟩, rfl, ⟨cI, cJ, cK, cS, rfl, fun _ _ => rfl⟩, fun _ _ h => h⟩
def zT (t : Nat) : Prop := t = 1 ∨ t = 11 ∨ t = 21
def zS (q : Nat) : Prop := q = 42 ∨ q = 44 ∨ q = 46 ∨ q = 48
theorem zT1 : zT 1 := Or.inl rfl
theorem zT11 : zT 11 := Or.inr (Or.inl rfl)
theorem zT21 : zT 21 := Or.inr (Or.inr rfl)
theorem zS_of {i : Int32} {j : Nat} (h : zix i 4 = some j) : zS (42 + 2 * j) := by
  have := zix_lt h
  unfold zS; omega
def fs9 (w : zWd) : zM → List Value := fun M => [.ref (za w 1), .ref (za w 11), .ref (za w 21), .int (M.1 0 3), .ref (za w 31), .ref (za w 34), .ref (za w 33)]
def fs7 (w : zWd) (t : Nat) : zM → List Value := fun M => [.ref (za w 35), .int (M.1 t 1), .int (M.1 t 2), .int (M.1 t 3), .ref (za w (t + 1)), .ref (za w (t + 2)), .ref (za w (t + 3)), .ref (za w (t + 4)), .ref (za w (t + 5)), .ref (za w (t + 6)), .ref (za w (t + 7)), .ref (za w (t + 8)), .ref (za w (t + 9))]
def fs6 (w : zWd) : zM → List Value := fun M => [.ref (za w 35), .ref (za w 32), .int (M.1 31 2), .ref (za w 11), .int (M.1 31 4), .int (M.1 31 5), .int (M.1 31 6), .int (M.1 31 7)]
def fs5 (w : zWd) (q : Nat) : zM → List Value := fun M => [.ref (za w (q + 1)), .int (M.1 q 1), .int (M.1 q 2)]
def fs0 : zM → List Value := fun _ => []
theorem cC0 {w : zWd} (h : zIsC w) : zOB w 0 9 (fs9 w) := by
  obtain ⟨-, hn, ⟨cI, cJ, cK, cS, -, hc⟩, -⟩ := h
  exact ⟨by omega, fun M => by rw [hc]; rfl⟩
theorem cCt {w : zWd} (h : zIsC w) {t : Nat} (ht : zT t) : zOB w t 7 (fs7 w t) := by
  obtain ⟨-, hn, ⟨cI, cJ, cK, cS, -, hc⟩, -⟩ := h
  rcases ht with rfl | rfl | rfl <;> exact ⟨by omega, fun M => by rw [hc]; rfl⟩
theorem cC31 {w : zWd} (h : zIsC w) : zOB w 31 6 (fs6 w) := by
  obtain ⟨-, hn, ⟨cI, cJ, cK, cS, -, hc⟩, -⟩ := h
  exact ⟨by omega, fun M => by rw [hc]; rfl⟩
theorem cC32 {w : zWd} (h : zIsC w) : zIA w 32 120 := by
  obtain ⟨-, hn, ⟨cI, cJ, cK, cS, ht, hc⟩, -⟩ := h
  exact ⟨by omega, cI, 0, by rw [ht]; rfl, fun M => by rw [hc]; rfl⟩
theorem cC33 {w : zWd} (h : zIsC w) : zIA w 33 7 := by
  obtain ⟨-, hn, ⟨cI, cJ, cK, cS, ht, hc⟩, -⟩ := h
  exact ⟨by omega, cI, 0, by rw [ht]; rfl, fun M => by rw [hc]; rfl⟩
theorem cC34 {w : zWd} (h : zIsC w) : zRA w 34 4 (fun j => 42 + 2 * j) := by
  obtain ⟨-, hn, ⟨cI, cJ, cK, cS, ht, hc⟩, -⟩ := h
  exact ⟨by omega, cS, 3, _, by rw [ht]; rfl, fun M => by rw [hc]; rfl⟩
theorem cC35 {w : zWd} (h : zIsC w) : zRA w 35 6 (fun j => 36 + j) := by
  obtain ⟨-, hn, ⟨cI, cJ, cK, cS, ht, hc⟩, -⟩ := h
  exact ⟨by omega, cK, 2, _, by rw [ht]; rfl, fun M => by rw [hc]; rfl⟩
theorem cCk {w : zWd} (h : zIsC w) {k : Nat} (hk : k < 6) : zOB w (36 + k) (zKc k) fs0 := by
  obtain ⟨-, hn, ⟨cI, cJ, cK, cS, -, hc⟩, -⟩ := h
  refine ⟨by omega, fun M => ?_⟩
  rw [hc]
  rcases (show k = 0 ∨ k = 1 ∨ k = 2 ∨ k = 3 ∨ k = 4 ∨ k = 5 by omega) with rfl | rfl | rfl | rfl | rfl | rfl <;> rfl
theorem cCs {w : zWd} (h : zIsC w) {q : Nat} (hq : zS q) : zOB w q 5 (fs5 w q) := by
  obtain ⟨-, hn, ⟨cI, cJ, cK, cS, -, hc⟩, -⟩ := h
  rcases hq with rfl | rfl | rfl | rfl <;> exact ⟨by omega, fun M => by rw [hc]; rfl⟩
theorem cCs1 {w : zWd} (h : zIsC w) {q : Nat} (hq : zS q) : zLA w (q + 1) 40 := by
  obtain ⟨-, hn, ⟨cI, cJ, cK, cS, ht, hc⟩, -⟩ := h
  rcases hq with rfl | rfl | rfl | rfl <;> exact ⟨by omega, cJ, 1, by rw [ht]; rfl, fun M => by rw [hc]; rfl⟩
theorem cCt1 {w : zWd} (h : zIsC w) {t : Nat} (ht : zT t) : zIA w (t + 1) 8 := by
  obtain ⟨-, hn, ⟨cI, cJ, cK, cS, hy, hc⟩, -⟩ := h
  rcases ht with rfl | rfl | rfl <;> exact ⟨by omega, cI, 0, by rw [hy]; rfl, fun M => by rw [hc]; rfl⟩
theorem cCt2 {w : zWd} (h : zIsC w) {t : Nat} (ht : zT t) : zIA w (t + 2) 8 := by
  obtain ⟨-, hn, ⟨cI, cJ, cK, cS, hy, hc⟩, -⟩ := h
  rcases ht with rfl | rfl | rfl <;> exact ⟨by omega, cI, 0, by rw [hy]; rfl, fun M => by rw [hc]; rfl⟩
theorem cCt3 {w : zWd} (h : zIsC w) {t : Nat} (ht : zT t) : zIA w (t + 3) 8 := by
  obtain ⟨-, hn, ⟨cI, cJ, cK, cS, hy, hc⟩, -⟩ := h
  rcases ht with rfl | rfl | rfl <;> exact ⟨by omega, cI, 0, by rw [hy]; rfl, fun M => by rw [hc]; rfl⟩
theorem cCt4 {w : zWd} (h : zIsC w) {t : Nat} (ht : zT t) : zIA w (t + 4) 8 := by
  obtain ⟨-, hn, ⟨cI, cJ, cK, cS, hy, hc⟩, -⟩ := h
  rcases ht with rfl | rfl | rfl <;> exact ⟨by omega, cI, 0, by rw [hy]; rfl, fun M => by rw [hc]; rfl⟩
theorem cCt5 {w : zWd} (h : zIsC w) {t : Nat} (ht : zT t) : zIA w (t + 5) 6 := by
  obtain ⟨-, hn, ⟨cI, cJ, cK, cS, hy, hc⟩, -⟩ := h
  rcases ht with rfl | rfl | rfl <;> exact ⟨by omega, cI, 0, by rw [hy]; rfl, fun M => by rw [hc]; rfl⟩
theorem cCt6 {w : zWd} (h : zIsC w) {t : Nat} (ht : zT t) : zIA w (t + 6) 6 := by
  obtain ⟨-, hn, ⟨cI, cJ, cK, cS, hy, hc⟩, -⟩ := h
  rcases ht with rfl | rfl | rfl <;> exact ⟨by omega, cI, 0, by rw [hy]; rfl, fun M => by rw [hc]; rfl⟩
theorem cCt7 {w : zWd} (h : zIsC w) {t : Nat} (ht : zT t) : zIA w (t + 7) 6 := by
  obtain ⟨-, hn, ⟨cI, cJ, cK, cS, hy, hc⟩, -⟩ := h
  rcases ht with rfl | rfl | rfl <;> exact ⟨by omega, cI, 0, by rw [hy]; rfl, fun M => by rw [hc]; rfl⟩
theorem cCt8 {w : zWd} (h : zIsC w) {t : Nat} (ht : zT t) : zIA w (t + 8) 6 := by
  obtain ⟨-, hn, ⟨cI, cJ, cK, cS, hy, hc⟩, -⟩ := h
  rcases ht with rfl | rfl | rfl <;> exact ⟨by omega, cI, 0, by rw [hy]; rfl, fun M => by rw [hc]; rfl⟩
theorem cCt9 {w : zWd} (h : zIsC w) {t : Nat} (ht : zT t) : zIA w (t + 9) 6 := by
  obtain ⟨-, hn, ⟨cI, cJ, cK, cS, hy, hc⟩, -⟩ := h
  rcases ht with rfl | rfl | rfl <;> exact ⟨by omega, cI, 0, by rw [hy]; rfl, fun M => by rw [hc]; rfl⟩
theorem cE {w : zWd} (h : zIsC w) {U : State} {H : Heap} (he : ze w U H) : zEC (za w) (zA w) U H := h.2.2.2 U H he
theorem cP9_3 {w : zWd} {M : zM} {v : Int32} : fs9 w (zst M 0 3 v) = (fs9 w M).set 3 (.int v) := by simp [fs9, zst]
theorem cP7_1 {w : zWd} {t : Nat} {M : zM} {v : Int32} : fs7 w t (zst M t 1 v) = (fs7 w t M).set 1 (.int v) := by simp [fs7, zst]
theorem cP7_2 {w : zWd} {t : Nat} {M : zM} {v : Int32} : fs7 w t (zst M t 2 v) = (fs7 w t M).set 2 (.int v) := by simp [fs7, zst]
theorem cP7_3 {w : zWd} {t : Nat} {M : zM} {v : Int32} : fs7 w t (zst M t 3 v) = (fs7 w t M).set 3 (.int v) := by simp [fs7, zst]
theorem cP6_2 {w : zWd} {M : zM} {v : Int32} : fs6 w (zst M 31 2 v) = (fs6 w M).set 2 (.int v) := by simp [fs6, zst]
theorem cP6_4 {w : zWd} {M : zM} {v : Int32} : fs6 w (zst M 31 4 v) = (fs6 w M).set 4 (.int v) := by simp [fs6, zst]
theorem cP6_5 {w : zWd} {M : zM} {v : Int32} : fs6 w (zst M 31 5 v) = (fs6 w M).set 5 (.int v) := by simp [fs6, zst]
theorem cP6_6 {w : zWd} {M : zM} {v : Int32} : fs6 w (zst M 31 6 v) = (fs6 w M).set 6 (.int v) := by simp [fs6, zst]
theorem cP6_7 {w : zWd} {M : zM} {v : Int32} : fs6 w (zst M 31 7 v) = (fs6 w M).set 7 (.int v) := by simp [fs6, zst]
theorem cP5_1 {w : zWd} {q : Nat} {M : zM} {v : Int32} : fs5 w q (zst M q 1 v) = (fs5 w q M).set 1 (.int v) := by simp [fs5, zst]
theorem cP5_2 {w : zWd} {q : Nat} {M : zM} {v : Int32} : fs5 w q (zst M q 2 v) = (fs5 w q M).set 2 (.int v) := by simp [fs5, zst]
def fs10 (w : zWd) : zM → List Value := fun M => [.ref (za w 1), .ref (za w 2), .ref (za w 3), .ref (za w 4), .ref (za w 5), .int (M.1 0 5), .ref (za w 6), .int (M.1 0 7), .int (M.1 0 8), .int (M.1 0 9), .int (M.1 0 10), .int (M.1 0 11), .ref (za w 7), .ref (za w 8), .ref (za w 9), .ref (za w 10)]
def zMe (ad : Nat → Nat) (cI cJ : ClassId) (f : Nat → Int32) (g : Nat → Int64) (k : Nat) : va_E :=
  if k = 0 then .inr (10, [.ref (ad 1), .ref (ad 2), .ref (ad 3), .ref (ad 4), .ref (ad 5), .int (f 5), .ref (ad 6), .int (f 7), .int (f 8), .int (f 9), .int (f 10), .int (f 11), .ref (ad 7), .ref (ad 8), .ref (ad 9), .ref (ad 10)])
  else if k < 5 then .inl (cI, 59, .inl f)
  else if k = 5 then .inl (cI, 7, .inl f)
  else if k = 6 then .inl (cI, 120, .inl f)
  else if k < 9 then .inl (cI, 4, .inl f)
  else .inl (cJ, if k = 9 then 160 else 40, .inr (.inl g))
def mWd (D : va_G) (cI cJ : ClassId) (ad : Nat → Nat) : zWd := (D, [(cI, .int), (cJ, .long)], ad, 11, fun M k => zMe ad cI cJ (M.1 k) (M.2 k) k, fun _ _ => True)
def zIsM (w : zWd) : Prop := zOk w ∧ zn w = 11 ∧ ∃ cI cJ : ClassId, zt w = [(cI, .int), (cJ, .long)] ∧ ∀ M k, zc w M k = zMe (za w) cI cJ (M.1 k) (M.2 k) k
theorem mWd_is {D : va_G} {cI cJ : ClassId} {ad : Nat → Nat} (hi : ∀ i j, i < 11 → j < 11 → ad i = ad j → i = j) : zIsM (mWd D cI cJ ad) :=
  ⟨⟨hi, fun M M' i h1 h2 => by show zMe _ _ _ _ _ _ = zMe _ _ _ _ _ _; rw [h1, h2], fun _ _ _ _ _ _ _ => trivial, fun _ _ _ _ _ _ => trivial⟩, rfl, cI, cJ, rfl, fun _ _ => rfl⟩
theorem mM0 {w : zWd} (h : zIsM w) : zOB w 0 10 (fs10 w) := by
  obtain ⟨-, hn, cI, cJ, -, hc⟩ := h
  exact ⟨by omega, fun M => by rw [hc]; rfl⟩
theorem mM1 {w : zWd} (h : zIsM w) : zIA w 1 59 := by
  obtain ⟨-, hn, cI, cJ, ht, hc⟩ := h
  exact ⟨by omega, cI, 0, by rw [ht]; rfl, fun M => by rw [hc]; rfl⟩
theorem mM2 {w : zWd} (h : zIsM w) : zIA w 2 59 := by
  obtain ⟨-, hn, cI, cJ, ht, hc⟩ := h
  exact ⟨by omega, cI, 0, by rw [ht]; rfl, fun M => by rw [hc]; rfl⟩
theorem mM3 {w : zWd} (h : zIsM w) : zIA w 3 59 := by
  obtain ⟨-, hn, cI, cJ, ht, hc⟩ := h
  exact ⟨by omega, cI, 0, by rw [ht]; rfl, fun M => by rw [hc]; rfl⟩
theorem mM4 {w : zWd} (h : zIsM w) : zIA w 4 59 := by
  obtain ⟨-, hn, cI, cJ, ht, hc⟩ := h
  exact ⟨by omega, cI, 0, by rw [ht]; rfl, fun M => by rw [hc]; rfl⟩
theorem mM5 {w : zWd} (h : zIsM w) : zIA w 5 7 := by
  obtain ⟨-, hn, cI, cJ, ht, hc⟩ := h
  exact ⟨by omega, cI, 0, by rw [ht]; rfl, fun M => by rw [hc]; rfl⟩
theorem mM6 {w : zWd} (h : zIsM w) : zIA w 6 120 := by
  obtain ⟨-, hn, cI, cJ, ht, hc⟩ := h
  exact ⟨by omega, cI, 0, by rw [ht]; rfl, fun M => by rw [hc]; rfl⟩
theorem mM7 {w : zWd} (h : zIsM w) : zIA w 7 4 := by
  obtain ⟨-, hn, cI, cJ, ht, hc⟩ := h
  exact ⟨by omega, cI, 0, by rw [ht]; rfl, fun M => by rw [hc]; rfl⟩
theorem mM8 {w : zWd} (h : zIsM w) : zIA w 8 4 := by
  obtain ⟨-, hn, cI, cJ, ht, hc⟩ := h
  exact ⟨by omega, cI, 0, by rw [ht]; rfl, fun M => by rw [hc]; rfl⟩
theorem mM9 {w : zWd} (h : zIsM w) : zLA w 9 160 := by
  obtain ⟨-, hn, cI, cJ, ht, hc⟩ := h
  exact ⟨by omega, cJ, 1, by rw [ht]; rfl, fun M => by rw [hc]; rfl⟩
theorem mM10 {w : zWd} (h : zIsM w) : zLA w 10 40 := by
  obtain ⟨-, hn, cI, cJ, ht, hc⟩ := h
  exact ⟨by omega, cJ, 1, by rw [ht]; rfl, fun M => by rw [hc]; rfl⟩
theorem mP10_5 {w : zWd} {M : zM} {v : Int32} : fs10 w (zst M 0 5 v) = (fs10 w M).set 5 (.int v) := by simp [fs10, zst]
theorem mP10_7 {w : zWd} {M : zM} {v : Int32} : fs10 w (zst M 0 7 v) = (fs10 w M).set 7 (.int v) := by simp [fs10, zst]
theorem mP10_8 {w : zWd} {M : zM} {v : Int32} : fs10 w (zst M 0 8 v) = (fs10 w M).set 8 (.int v) := by simp [fs10, zst]
theorem mP10_9 {w : zWd} {M : zM} {v : Int32} : fs10 w (zst M 0 9 v) = (fs10 w M).set 9 (.int v) := by simp [fs10, zst]
theorem mP10_10 {w : zWd} {M : zM} {v : Int32} : fs10 w (zst M 0 10 v) = (fs10 w M).set 10 (.int v) := by simp [fs10, zst]
theorem mP10_11 {w : zWd} {M : zM} {v : Int32} : fs10 w (zst M 0 11 v) = (fs10 w M).set 11 (.int v) := by simp [fs10, zst]
theorem vc0 : vwCl[0]? = some (RX0, TX0, 0) := rfl
theorem vc1 : vwCl[1]? = some (RX1, TX1, 0) := rfl
theorem vc2 : vwCl[2]? = some (RX2, TX2, 0) := rfl
theorem vc3 : vwCl[3]? = some (RX3, TX3, 0) := rfl
theorem vc4 : vwCl[4]? = some (RX4, TX4, 0) := rfl
theorem vc5 : vwCl[5]? = some (RX5, TX5, 3) := rfl
theorem vc6 : vwCl[6]? = some (RX6, TX6, 8) := rfl
theorem vc7 : vwCl[7]? = some (RX7, TX7, 13) := rfl
theorem vc8 : vwCl[8]? = some (RX8, TX8, 0) := rfl
theorem vc9 : vwCl[9]? = some (RX9, TX9, 7) := rfl
theorem vc10 : vwCl[10]? = some (RX10, TX10, 16) := rfl
end
section
/-! further rows: names, switches, Math, the table ABOVE, Strings -/
def zb2 {α β γ : Type} (x : Option (α × β)) (f : α → β → Option γ) : Option γ := x.bind (fun r => f r.1 r.2)
theorem z_b2 {α β γ : Type} {x : Option (α × β)} {f : α → β → Option γ} {c : γ} (h : zb2 x f = some c) : ∃ a b, x = some (a, b) ∧ f a b = some c := by
  obtain ⟨⟨a, b⟩, h1, h2⟩ := z_bind h
  exact ⟨a, b, h1, h2⟩
theorem zbl_fit {v : Int32} (h : v &&& 1 = v) : fits .boolean (.int v) = true := by
  obtain ⟨j, hj, e⟩ := pk_andE v (m := 1) 1 (by decide)
  rw [h] at e
  rw [e]
  rcases (show j = 0 ∨ j = 1 by omega) with rfl | rfl <;> rfl
theorem zbl_nar {v : Int32} (h : v &&& 1 = v) : narrow .boolean (.int v) = .int v := by simp [narrow, h]
def zmax (x y : Int32) : Int32 := if x < y then y else x
def zmin (x y : Int32) : Int32 := if y < x then y else x
theorem z_inc_1 (x : Int32) : x + Int32.ofInt 1 = x + 1 := rfl
theorem z_inc_10 (x : Int32) : x + Int32.ofInt 10 = x + 10 := rfl
theorem z_inc_6 (x : Int32) : x + Int32.ofInt 6 = x + 6 := rfl
theorem z_inc_m1 (x : Int32) : x + Int32.ofInt (-1) = x + (-1) := rfl
section ZN
variable {p : Program} {l : Launch} {e : Env} {R : Room} {s : State} {m : MethodId} {args : Array Value} {below : List Frame} {meth : Method} {c : Code} {H : Heap} {locs : List Loc} {Q : State → Prop}
variable {cc : ByteArray} {pc nL : Nat} {ls : Array Slot} {rest : List Value} {w : zWd} {M : zM} {own : String}
theorem z_nmI {x y : Int32} (he : y = x) (k : W p l e R s m args below meth c H locs 0 0 Q (F0 m pc ls (.int y :: rest))) : W p l e R s m args below meth c H locs 0 0 Q (F0 m pc ls (.int x :: rest)) := he ▸ k
theorem z_nmL {x y : Int64} (he : y = x) (k : W p l e R s m args below meth c H locs 0 0 Q (F0 m pc ls (.long y :: rest))) : W p l e R s m args below meth c H locs 0 0 Q (F0 m pc ls (.long x :: rest)) := he ▸ k
theorem z_tab (hexec : p.tables.exec = Jvm.exec) (hb : c.code = cc) {dflt lo hi : Int} {offs : Array Int} {len : Nat} {x k : Int32} {off : Int} {tgt : Nat} (hdg : decode cc pc = .ok (.tableswitch dflt lo hi offs, len)) (hk : x = k) (h1 : ¬ k.toInt < lo) (h2 : ¬ hi < k.toInt) (ho : offs[(k.toInt - lo).toNat]? = some off) (ht : (pc : Int) + off = (tgt : Int))
    (kk : W p l e R s m args below meth c H locs 0 0 Q (F0 m tgt ls rest)) : W p l e R s m args below meth c H locs 0 0 Q (F0 m pc ls (.int x :: rest)) := by
  subst hk
  exact lv_tableIn hexec hb hdg h1 h2 ho ht kk
theorem z_look (hexec : p.tables.exec = Jvm.exec) (hb : c.code = cc) {dflt : Int} {ps : Array (Int × Int)} {len : Nat} {x k : Int32} {off : Int} {tgt : Nat} (hdg : decode cc pc = .ok (.lookupswitch dflt ps, len)) (hp : (ps.toList.zip (ps.toList.drop 1)).all (fun (a, next) => a.1 < next.1) = true) (hk : x = k) (ho : Op.lookupswitch.offset ps.toList dflt k.toInt = off) (ht : (pc : Int) + off = (tgt : Int))
    (kk : W p l e R s m args below meth c H locs 0 0 Q (F0 m tgt ls rest)) : W p l e R s m args below meth c H locs 0 0 Q (F0 m pc ls (.int x :: rest)) := by
  subst hk
  exact lv_lookup hexec hb hdg hp ho ht kk
theorem z_mmax {idx : Nat} {x y : Int32} (G : zG w p s m c args cc own nL) (hsz : ls.size = nL) (h1 : Cond.methodLink own idx Lib.Math.max.name ∈ zU) (h2 : Cond.static Lib.Math.max.name ∈ zU) (h3 : Cond.initialized "java/lang/Math" ∈ zU) (h4 : Cond.code Lib.Math.max.name Lib.Math.max.code 2 (some .int) ∈ zU) (hf : 1 ≤ R.frames) (hlo : (rest.map fun v => v.category).sum + 13 ≤ R.locals) (hdg : decode cc pc = .ok (.invokestatic idx, 3))
    (kk : W p l e R s m args below meth c H locs 0 0 Q (F0 m (pc + 3) ls (.int (zmax x y) :: rest))) : W p l e R s m args below meth c H locs 0 0 Q (F0 m pc ls (.int y :: .int x :: rest)) :=
  va_mmax G.x G.b (G.ml.trans hsz.symm) G.o (G.t h1) (G.t h2) (G.t h3) (G.t h4) hf hlo (Nat.zero_le _) (Nat.zero_le _) hdg kk
theorem z_mmin {idx : Nat} {x y : Int32} (G : zG w p s m c args cc own nL) (hsz : ls.size = nL) (h1 : Cond.methodLink own idx Lib.Math.min.name ∈ zU) (h2 : Cond.static Lib.Math.min.name ∈ zU) (h3 : Cond.initialized "java/lang/Math" ∈ zU) (h4 : Cond.code Lib.Math.min.name Lib.Math.min.code 2 (some .int) ∈ zU) (hf : 1 ≤ R.frames) (hlo : (rest.map fun v => v.category).sum + 13 ≤ R.locals) (hdg : decode cc pc = .ok (.invokestatic idx, 3))
    (kk : W p l e R s m args below meth c H locs 0 0 Q (F0 m (pc + 3) ls (.int (zmin x y) :: rest))) : W p l e R s m args below meth c H locs 0 0 Q (F0 m pc ls (.int y :: .int x :: rest)) :=
  va_mmin G.x G.b (G.ml.trans hsz.symm) G.o (G.t h1) (G.t h2) (G.t h3) (G.t h4) hf hlo (Nat.zero_le _) (Nat.zero_le _) hdg kk
/-- the table ABOVE -/
theorem z_abvG {idx : Nat} (hw : zIsC w) (G : zG w p s m c args cc own nL) (hH : zH w s M H locs) (hl : Cond.fieldLink own idx "BeardHire" "ABOVE" "[I" ∈ zU) (hdg : decode cc pc = .ok (.getstatic idx, 3))
    (kk : W p l e R s m args below meth c H locs 0 0 Q (F0 m (pc + 3) ls (.ref (za w 300) :: rest))) : W p l e R s m args below meth c H locs 0 0 Q (F0 m pc ls rest) :=
  va_gets G.x G.b (cE hw G.e).2.2.2.2.1 hH.2 G.o (G.t hl) (fun _ h => h) hdg kk
theorem z_abv {i : Int32} {j : Nat} (hw : zIsC w) (G : zG w p s m c args cc own nL) (hH : zH w s M H locs) (hj : zix i 6 = some j) (hdg : decode cc pc = .ok (.iaload, 1))
    (kk : W p l e R s m args below meth c H locs 0 0 Q (F0 m (pc + 1) ls (.int (zAbv j) :: rest))) : W p l e R s m args below meth c H locs 0 0 Q (F0 m pc ls (.int i :: .ref (za w 300) :: rest)) := by
  obtain ⟨h1, h2⟩ := zix_some hj
  exact va_ti G.x G.b (cE hw G.e).2.2.2.2.2 hH.2 h1 (by rw [h2]) hdg kk
/-- a call on a receiver that is no cell of the world's -/
theorem z_runX {y : MethodName} {bytes : ByteArray} {maxL n idx b : Nat} {ret : Option FieldType} {rm : Room} {Qc : Array Value → State → Outcome → State → Prop} {free : Addr → Prop} {C : String} {As : List Value} {st0 : List Value} (G : zG w p s m c args cc own nL) (hH : zH w s M H locs) (hsz : ls.size = nL) (hM : Met l y (Cond.code y bytes maxL ret :: zU) rm (zPre w M (.ref b :: As)) Qc 0 0 free) (hrv : ∃ cell : Cell, H[b]? = some cell ∧ cell.vm.isStatics = false ∧ s.vm.findClass C = some cell.cls) (ha : zAr y C n)
    (h1 : Cond.methodLink own idx y ∈ zU) (h2 : Cond.instanceMethod y ∈ zU) (h3 : Cond.selects C y y ∈ zU) (h4 : Cond.initialized C ∈ zU) (h5 : Cond.code y bytes maxL ret ∈ zU) (hrc : rm.cells = 0) (hrs : rm.slots = 0) (hn : As.length = n) (hR1 : rm.frames + 1 ≤ R.frames) (hR2 : 8 + (maxL + 11) + rm.locals ≤ R.locals)
    (hst : st0 = As.reverse ++ .ref b :: rest) (hW : (rest.map fun v => v.category).sum ≤ 8) (hdg : decode cc pc = .ok (.invokevirtual idx, 3)) : va_Run p l e R s m args below meth c H locs 0 0 0 0 (F0 m pc ls st0) rest (Qc (Value.ref b :: As).toArray) free := by
  obtain ⟨a1, a2⟩ := ha
  have hcb : CallB R s args own idx y bytes maxL ret (Cond.code y bytes maxL ret :: zU) rm 0 0 n := callB_of n G.2.2.2.2.1 (z_goodU h5) rfl hrc hrs (by rw [a1]; exact G.t h4) (G.t h1) a2 ⟨hR1, hR2⟩
  exact va_runV (g := F0 m pc ls st0) G.f hM ⟨hcb, G.t h2, G.t h3⟩ ⟨zPre.blind G.k, hrv, zPre.at _ G hH⟩ rfl hn hsz hst (lv_room hW) hdg ⟨Nat.zero_le _, Nat.zero_le _⟩
theorem z_strV {i : Nat} (hw : zIsC w) (G : zG w p s m c args cc own nL) (hH : zH w s M H locs) (hi : i < 14) : ∃ cell : Cell, H[za w (100 + i)]? = some cell ∧ cell.vm.isStatics = false ∧ s.vm.findClass RJ0 = some cell.cls :=
  vk_recv (i := i) (adK := fun i => za w (100 + i)) (cE hw G.e).1 hi hH.2
end ZN
theorem zKc_ok {k : Nat} (hk : k < 6) : ∃ (C : String) (T : u_T) (N : Nat), vwCl[zKc k]? = some (C, T, N) := by
  rcases (show k = 0 ∨ k = 1 ∨ k = 2 ∨ k = 3 ∨ k = 4 ∨ k = 5 by omega) with rfl | rfl | rfl | rfl | rfl | rfl <;> exact ⟨_, _, _, rfl⟩
end
section
/-! combinators of the generated functions: a named continuation, loops by fuel; stores with a name for the new memory -/
def zj {α R : Type} (J : α) (K : α → Option R) : Option R := K J
theorem z_j {α R : Type} {J : α} {K : α → Option R} {r : Option R} (h : zj J K = r) : ∃ J' : α, J' = J ∧ K J' = r := ⟨J, rfl, h⟩
def zL1 {A1 R : Type} (F : (A1 → Option R) → A1 → Option R) : Nat → A1 → Option R
  | 0 => fun _ => none
  | n + 1 => F (zL1 F n)
theorem zL1_0 {A1 R : Type} {F : (A1 → Option R) → A1 → Option R} {x1 : A1} {r : R} (h : zL1 F 0 x1 = some r) : False := by cases h
theorem zL1_s {A1 R : Type} {F : (A1 → Option R) → A1 → Option R} {x1 : A1} {n : Nat} {r : Option R} (h : zL1 F (n + 1) x1 = r) : ∃ rc, rc = zL1 F n ∧ F rc x1 = r := ⟨_, rfl, h⟩
theorem zL1_e {A1 R : Type} {F : (A1 → Option R) → A1 → Option R} {x1 : A1} {n : Nat} : zL1 F (n + 1) x1 = F (zL1 F n) x1 := rfl
def zL2 {A1 A2 R : Type} (F : (A1 → A2 → Option R) → A1 → A2 → Option R) : Nat → A1 → A2 → Option R
  | 0 => fun _ _ => none
  | n + 1 => F (zL2 F n)
theorem zL2_0 {A1 A2 R : Type} {F : (A1 → A2 → Option R) → A1 → A2 → Option R} {x1 : A1} {x2 : A2} {r : R} (h : zL2 F 0 x1 x2 = some r) : False := by cases h
theorem zL2_s {A1 A2 R : Type} {F : (A1 → A2 → Option R) → A1 → A2 → Option R} {x1 : A1} {x2 : A2} {n : Nat} {r : Option R} (h : zL2 F (n + 1) x1 x2 = r) : ∃ rc, rc = zL2 F n ∧ F rc x1 x2 = r := ⟨_, rfl, h⟩
theorem zL2_e {A1 A2 R : Type} {F : (A1 → A2 → Option R) → A1 → A2 → Option R} {x1 : A1} {x2 : A2} {n : Nat} : zL2 F (n + 1) x1 x2 = F (zL2 F n) x1 x2 := rfl
def zL3 {A1 A2 A3 R : Type} (F : (A1 → A2 → A3 → Option R) → A1 → A2 → A3 → Option R) : Nat → A1 → A2 → A3 → Option R
  | 0 => fun _ _ _ => none
  | n + 1 => F (zL3 F n)
theorem zL3_0 {A1 A2 A3 R : Type} {F : (A1 → A2 → A3 → Option R) → A1 → A2 → A3 → Option R} {x1 : A1} {x2 : A2} {x3 : A3} {r : R} (h : zL3 F 0 x1 x2 x3 = some r) : False := by cases h
theorem zL3_s {A1 A2 A3 R : Type} {F : (A1 → A2 → A3 → Option R) → A1 → A2 → A3 → Option R} {x1 : A1} {x2 : A2} {x3 : A3} {n : Nat} {r : Option R} (h : zL3 F (n + 1) x1 x2 x3 = r) : ∃ rc, rc = zL3 F n ∧ F rc x1 x2 x3 = r := ⟨_, rfl, h⟩
theorem zL3_e {A1 A2 A3 R : Type} {F : (A1 → A2 → A3 → Option R) → A1 → A2 → A3 → Option R} {x1 : A1} {x2 : A2} {x3 : A3} {n : Nat} : zL3 F (n + 1) x1 x2 x3 = F (zL3 F n) x1 x2 x3 := rfl
def zL4 {A1 A2 A3 A4 R : Type} (F : (A1 → A2 → A3 → A4 → Option R) → A1 → A2 → A3 → A4 → Option R) : Nat → A1 → A2 → A3 → A4 → Option R
  | 0 => fun _ _ _ _ => none
  | n + 1 => F (zL4 F n)
theorem zL4_0 {A1 A2 A3 A4 R : Type} {F : (A1 → A2 → A3 → A4 → Option R) → A1 → A2 → A3 → A4 → Option R} {x1 : A1} {x2 : A2} {x3 : A3} {x4 : A4} {r : R} (h : zL4 F 0 x1 x2 x3 x4 = some r) : False := by cases h
theorem zL4_s {A1 A2 A3 A4 R : Type} {F : (A1 → A2 → A3 → A4 → Option R) → A1 → A2 → A3 → A4 → Option R} {x1 : A1} {x2 : A2} {x3 : A3} {x4 : A4} {n : Nat} {r : Option R} (h : zL4 F (n + 1) x1 x2 x3 x4 = r) : ∃ rc, rc = zL4 F n ∧ F rc x1 x2 x3 x4 = r := ⟨_, rfl, h⟩
theorem zL4_e {A1 A2 A3 A4 R : Type} {F : (A1 → A2 → A3 → A4 → Option R) → A1 → A2 → A3 → A4 → Option R} {x1 : A1} {x2 : A2} {x3 : A3} {x4 : A4} {n : Nat} : zL4 F (n + 1) x1 x2 x3 x4 = F (zL4 F n) x1 x2 x3 x4 := rfl
def zL5 {A1 A2 A3 A4 A5 R : Type} (F : (A1 → A2 → A3 → A4 → A5 → Option R) → A1 → A2 → A3 → A4 → A5 → Option R) : Nat → A1 → A2 → A3 → A4 → A5 → Option R
  | 0 => fun _ _ _ _ _ => none
  | n + 1 => F (zL5 F n)
theorem zL5_0 {A1 A2 A3 A4 A5 R : Type} {F : (A1 → A2 → A3 → A4 → A5 → Option R) → A1 → A2 → A3 → A4 → A5 → Option R} {x1 : A1} {x2 : A2} {x3 : A3} {x4 : A4} {x5 : A5} {r : R} (h : zL5 F 0 x1 x2 x3 x4 x5 = some r) : False := by cases h
theorem zL5_s {A1 A2 A3 A4 A5 R : Type} {F : (A1 → A2 → A3 → A4 → A5 → Option R) → A1 → A2 → A3 → A4 → A5 → Option R} {x1 : A1} {x2 : A2} {x3 : A3} {x4 : A4} {x5 : A5} {n : Nat} {r : Option R} (h : zL5 F (n + 1) x1 x2 x3 x4 x5 = r) : ∃ rc, rc = zL5 F n ∧ F rc x1 x2 x3 x4 x5 = r := ⟨_, rfl, h⟩
theorem zL5_e {A1 A2 A3 A4 A5 R : Type} {F : (A1 → A2 → A3 → A4 → A5 → Option R) → A1 → A2 → A3 → A4 → A5 → Option R} {x1 : A1} {x2 : A2} {x3 : A3} {x4 : A4} {x5 : A5} {n : Nat} : zL5 F (n + 1) x1 x2 x3 x4 x5 = F (zL5 F n) x1 x2 x3 x4 x5 := rfl
def zL6 {A1 A2 A3 A4 A5 A6 R : Type} (F : (A1 → A2 → A3 → A4 → A5 → A6 → Option R) → A1 → A2 → A3 → A4 → A5 → A6 → Option R) : Nat → A1 → A2 → A3 → A4 → A5 → A6 → Option R
  | 0 => fun _ _ _ _ _ _ => none
  | n + 1 => F (zL6 F n)
theorem zL6_0 {A1 A2 A3 A4 A5 A6 R : Type} {F : (A1 → A2 → A3 → A4 → A5 → A6 → Option R) → A1 → A2 → A3 → A4 → A5 → A6 → Option R} {x1 : A1} {x2 : A2} {x3 : A3} {x4 : A4} {x5 : A5} {x6 : A6} {r : R} (h : zL6 F 0 x1 x2 x3 x4 x5 x6 = some r) : False := by cases h
theorem zL6_s {A1 A2 A3 A4 A5 A6 R : Type} {F : (A1 → A2 → A3 → A4 → A5 → A6 → Option R) → A1 → A2 → A3 → A4 → A5 → A6 → Option R} {x1 : A1} {x2 : A2} {x3 : A3} {x4 : A4} {x5 : A5} {x6 : A6} {n : Nat} {r : Option R} (h : zL6 F (n + 1) x1 x2 x3 x4 x5 x6 = r) : ∃ rc, rc = zL6 F n ∧ F rc x1 x2 x3 x4 x5 x6 = r := ⟨_, rfl, h⟩
theorem zL6_e {A1 A2 A3 A4 A5 A6 R : Type} {F : (A1 → A2 → A3 → A4 → A5 → A6 → Option R) → A1 → A2 → A3 → A4 → A5 → A6 → Option R} {x1 : A1} {x2 : A2} {x3 : A3} {x4 : A4} {x5 : A5} {x6 : A6} {n : Nat} : zL6 F (n + 1) x1 x2 x3 x4 x5 x6 = F (zL6 F n) x1 x2 x3 x4 x5 x6 := rfl
def zL7 {A1 A2 A3 A4 A5 A6 A7 R : Type} (F : (A1 → A2 → A3 → A4 → A5 → A6 → A7 → Option R) → A1 → A2 → A3 → A4 → A5 → A6 → A7 → Option R) : Nat → A1 → A2 → A3 → A4 → A5 → A6 → A7 → Option R
  | 0 => fun _ _ _ _ _ _ _ => none
  | n + 1 => F (zL7 F n)
theorem zL7_0 {A1 A2 A3 A4 A5 A6 A7 R : Type} {F : (A1 → A2 → A3 → A4 → A5 → A6 → A7 → Option R) → A1 → A2 → A3 → A4 → A5 → A6 → A7 → Option R} {x1 : A1} {x2 : A2} {x3 : A3} {x4 : A4} {x5 : A5} {x6 : A6} {x7 : A7} {r : R} (h : zL7 F 0 x1 x2 x3 x4 x5 x6 x7 = some r) : False := by cases h
theorem zL7_s {A1 A2 A3 A4 A5 A6 A7 R : Type} {F : (A1 → A2 → A3 → A4 → A5 → A6 → A7 → Option R) → A1 → A2 → A3 → A4 → A5 → A6 → A7 → Option R} {x1 : A1} {x2 : A2} {x3 : A3} {x4 : A4} {x5 : A5} {x6 : A6} {x7 : A7} {n : Nat} {r : Option R} (h : zL7 F (n + 1) x1 x2 x3 x4 x5 x6 x7 = r) : ∃ rc, rc = zL7 F n ∧ F rc x1 x2 x3 x4 x5 x6 x7 = r := ⟨_, rfl, h⟩
theorem zL7_e {A1 A2 A3 A4 A5 A6 A7 R : Type} {F : (A1 → A2 → A3 → A4 → A5 → A6 → A7 → Option R) → A1 → A2 → A3 → A4 → A5 → A6 → A7 → Option R} {x1 : A1} {x2 : A2} {x3 : A3} {x4 : A4} {x5 : A5} {x6 : A6} {x7 : A7} {n : Nat} : zL7 F (n + 1) x1 x2 x3 x4 x5 x6 x7 = F (zL7 F n) x1 x2 x3 x4 x5 x6 x7 := rfl
def zL8 {A1 A2 A3 A4 A5 A6 A7 A8 R : Type} (F : (A1 → A2 → A3 → A4 → A5 → A6 → A7 → A8 → Option R) → A1 → A2 → A3 → A4 → A5 → A6 → A7 → A8 → Option R) : Nat → A1 → A2 → A3 → A4 → A5 → A6 → A7 → A8 → Option R
  | 0 => fun _ _ _ _ _ _ _ _ => none
  | n + 1 => F (zL8 F n)
theorem zL8_0 {A1 A2 A3 A4 A5 A6 A7 A8 R : Type} {F : (A1 → A2 → A3 → A4 → A5 → A6 → A7 → A8 → Option R) → A1 → A2 → A3 → A4 → A5 → A6 → A7 → A8 → Option R} {x1 : A1} {x2 : A2} {x3 : A3} {x4 : A4} {x5 : A5} {x6 : A6} {x7 : A7} {x8 : A8} {r : R} (h : zL8 F 0 x1 x2 x3 x4 x5 x6 x7 x8 = some r) : False := by cases h
theorem zL8_s {A1 A2 A3 A4 A5 A6 A7 A8 R : Type} {F : (A1 → A2 → A3 → A4 → A5 → A6 → A7 → A8 → Option R) → A1 → A2 → A3 → A4 → A5 → A6 → A7 → A8 → Option R} {x1 : A1} {x2 : A2} {x3 : A3} {x4 : A4} {x5 : A5} {x6 : A6} {x7 : A7} {x8 : A8} {n : Nat} {r : Option R} (h : zL8 F (n + 1) x1 x2 x3 x4 x5 x6 x7 x8 = r) : ∃ rc, rc = zL8 F n ∧ F rc x1 x2 x3 x4 x5 x6 x7 x8 = r := ⟨_, rfl, h⟩
theorem zL8_e {A1 A2 A3 A4 A5 A6 A7 A8 R : Type} {F : (A1 → A2 → A3 → A4 → A5 → A6 → A7 → A8 → Option R) → A1 → A2 → A3 → A4 → A5 → A6 → A7 → A8 → Option R} {x1 : A1} {x2 : A2} {x3 : A3} {x4 : A4} {x5 : A5} {x6 : A6} {x7 : A7} {x8 : A8} {n : Nat} : zL8 F (n + 1) x1 x2 x3 x4 x5 x6 x7 x8 = F (zL8 F n) x1 x2 x3 x4 x5 x6 x7 x8 := rfl
def zL9 {A1 A2 A3 A4 A5 A6 A7 A8 A9 R : Type} (F : (A1 → A2 → A3 → A4 → A5 → A6 → A7 → A8 → A9 → Option R) → A1 → A2 → A3 → A4 → A5 → A6 → A7 → A8 → A9 → Option R) : Nat → A1 → A2 → A3 → A4 → A5 → A6 → A7 → A8 → A9 → Option R
  | 0 => fun _ _ _ _ _ _ _ _ _ => none
  | n + 1 => F (zL9 F n)
theorem zL9_0 {A1 A2 A3 A4 A5 A6 A7 A8 A9 R : Type} {F : (A1 → A2 → A3 → A4 → A5 → A6 → A7 → A8 → A9 → Option R) → A1 → A2 → A3 → A4 → A5 → A6 → A7 → A8 → A9 → Option R} {x1 : A1} {x2 : A2} {x3 : A3} {x4 : A4} {x5 : A5} {x6 : A6} {x7 : A7} {x8 : A8} {x9 : A9} {r : R} (h : zL9 F 0 x1 x2 x3 x4 x5 x6 x7 x8 x9 = some r) : False := by cases h
theorem zL9_s {A1 A2 A3 A4 A5 A6 A7 A8 A9 R : Type} {F : (A1 → A2 → A3 → A4 → A5 → A6 → A7 → A8 → A9 → Option R) → A1 → A2 → A3 → A4 → A5 → A6 → A7 → A8 → A9 → Option R} {x1 : A1} {x2 : A2} {x3 : A3} {x4 : A4} {x5 : A5} {x6 : A6} {x7 : A7} {x8 : A8} {x9 : A9} {n : Nat} {r : Option R} (h : zL9 F (n + 1) x1 x2 x3 x4 x5 x6 x7 x8 x9 = r) : ∃ rc, rc = zL9 F n ∧ F rc x1 x2 x3 x4 x5 x6 x7 x8 x9 = r := ⟨_, rfl, h⟩
theorem zL9_e {A1 A2 A3 A4 A5 A6 A7 A8 A9 R : Type} {F : (A1 → A2 → A3 → A4 → A5 → A6 → A7 → A8 → A9 → Option R) → A1 → A2 → A3 → A4 → A5 → A6 → A7 → A8 → A9 → Option R} {x1 : A1} {x2 : A2} {x3 : A3} {x4 : A4} {x5 : A5} {x6 : A6} {x7 : A7} {x8 : A8} {x9 : A9} {n : Nat} : zL9 F (n + 1) x1 x2 x3 x4 x5 x6 x7 x8 x9 = F (zL9 F n) x1 x2 x3 x4 x5 x6 x7 x8 x9 := rfl
def zL10 {A1 A2 A3 A4 A5 A6 A7 A8 A9 A10 R : Type} (F : (A1 → A2 → A3 → A4 → A5 → A6 → A7 → A8 → A9 → A10 → Option R) → A1 → A2 → A3 → A4 → A5 → A6 → A7 → A8 → A9 → A10 → Option R) : Nat → A1 → A2 → A3 → A4 → A5 → A6 → A7 → A8 → A9 → A10 → Option R
  | 0 => fun _ _ _ _ _ _ _ _ _ _ => none
  | n + 1 => F (zL10 F n)
theorem zL10_0 {A1 A2 A3 A4 A5 A6 A7 A8 A9 A10 R : Type} {F : (A1 → A2 → A3 → A4 → A5 → A6 → A7 → A8 → A9 → A10 → Option R) → A1 → A2 → A3 → A4 → A5 → A6 → A7 → A8 → A9 → A10 → Option R} {x1 : A1} {x2 : A2} {x3 : A3} {x4 : A4} {x5 : A5} {x6 : A6} {x7 : A7} {x8 : A8} {x9 : A9} {x10 : A10} {r : R} (h : zL10 F 0 x1 x2 x3 x4 x5 x6 x7 x8 x9 x10 = some r) : False := by cases h
theorem zL10_s {A1 A2 A3 A4 A5 A6 A7 A8 A9 A10 R : Type} {F : (A1 → A2 → A3 → A4 → A5 → A6 → A7 → A8 → A9 → A10 → Option R) → A1 → A2 → A3 → A4 → A5 → A6 → A7 → A8 → A9 → A10 → Option R} {x1 : A1} {x2 : A2} {x3 : A3} {x4 : A4} {x5 : A5} {x6 : A6} {x7 : A7} {x8 : A8} {x9 : A9} {x10 : A10} {n : Nat} {r : Option R} (h : zL10 F (n + 1) x1 x2 x3 x4 x5 x6 x7 x8 x9 x10 = r) : ∃ rc, rc = zL10 F n ∧ F rc x1 x2 x3 x4 x5 x6 x7 x8 x9 x10 = r := ⟨_, rfl, h⟩
theorem zL10_e {A1 A2 A3 A4 A5 A6 A7 A8 A9 A10 R : Type} {F : (A1 → A2 → A3 → A4 → A5 → A6 → A7 → A8 → A9 → A10 → Option R) → A1 → A2 → A3 → A4 → A5 → A6 → A7 → A8 → A9 → A10 → Option R} {x1 : A1} {x2 : A2} {x3 : A3} {x4 : A4} {x5 : A5} {x6 : A6} {x7 : A7} {x8 : A8} {x9 : A9} {x10 : A10} {n : Nat} : zL10 F (n + 1) x1 x2 x3 x4 x5 x6 x7 x8 x9 x10 = F (zL10 F n) x1 x2 x3 x4 x5 x6 x7 x8 x9 x10 := rfl
abbrev zGo (p : Program) (l : Launch) (e : Env) (R : Room) (s : State) (m : MethodId) (args : Array Value) (below : List Frame) (meth : Method) (c : Code) (Qc : Array Value → State → Outcome → State → Prop) (free : Addr → Prop) (H : Heap) (locs : List Loc) (g : JFrame) : Prop := W p l e R s m args below meth c H locs 0 0 (MQ below Qc args s 0 0 free) g
theorem z_metN {l : Launch} {w : zWd} {M : zM} {y : MethodName} {cc : ByteArray} {maxL : Nat} {ret : Option FieldType} {rm : Room} {av : List Value} {Qc : Array Value → State → Outcome → State → Prop} {free : Addr → Prop} {own : String} {lv : List (Nat × Value)} (ho : zOk w) (hy : plainName y.cls = true) (hm : (lg_sl av).length ≤ maxL) (hown : y.cls = own) (hlv : lv_args 0 av = lv)
    (body : ∀ (p : Program) (e : Env) (s : State) (m : MethodId) (args : Array Value) (below : List Frame) (meth : Method) (c : Code), zG w p s m c args cc own maxL → meth.sig.returnType = ret → meth.locks = false → zH w s M s.heap [] → ∀ ls : Array Slot, lv_has ls maxL lv →
      zGo p l e rm s m args below meth c Qc free s.heap [] (F0 m 0 ls [])) : Met l y (Cond.code y cc maxL ret :: zU) rm (zPre w M av) Qc 0 0 free := by
  subst hown hlv
  exact z_met ho hy hm (fun p e s m below meth c G hr hlk hH ls hl => body p e s m av.toArray below meth c G hr hlk hH ls hl)
section ZS
variable {p : Program} {l : Launch} {e : Env} {R : Room} {s : State} {m : MethodId} {args : Array Value} {below : List Frame} {meth : Method} {c : Code} {H : Heap} {locs : List Loc} {Q : State → Prop}
variable {cc : ByteArray} {pc nL : Nat} {ls : Array Slot} {rest : List Value} {w : zWd} {M M1 : zM} {own : String}
theorem z_putN {ci Nf idx k : Nat} {C : String} {T : u_T} {fs : zM → List Value} {v : Int32} {ty : FieldType} (G : zG w p s m c args cc own nL) (hH : zH w s M H locs) (hO : zOB w k ci fs) (hc : vwCl[ci]? = some (C, T, Nf)) (hin : ∀ u ∈ u_ws C T Nf, u ∈ zU) (ty0 : Nat → FieldType) (hty : ∀ k, k < Nf → parseFieldDescriptor (T k).2.2.1 = some (ty0 k)) (hnm : ∀ a, a < Nf → ∀ b, b < Nf → a ≠ b → (T a).2.1 ≠ (T b).2.1) (j : Nat) (hj : j < Nf)
    (hl : Cond.fieldLink own idx (T j).1 (T j).2.1 (T j).2.2.1 ∈ zU) (hfin : (T j).2.2.2 = false) (hd : ty0 j = ty) (hn : narrow ty (.int v) = .int v) (hfit : fits ty (.int v) = true) (hfs : fs (zst M k j v) = (fs M).set j (.int v)) (hlen : j < (fs M).length) (hdg : decode cc pc = .ok (.putfield idx, 3)) (eM : M1 = zst M k j v)
    (kk : ∀ (H1 : Heap) (locs1 : List Loc), zH w s M1 H1 locs1 → W p l e R s m args below meth c H1 locs1 0 0 Q (F0 m (pc + 3) ls rest)) : W p l e R s m args below meth c H locs 0 0 Q (F0 m pc ls (.int v :: .ref (za w k) :: rest)) := by
  subst eM
  exact z_put G hH hO hc hin ty0 hty hnm j hj hl hfin hd hn hfit hfs hlen hdg kk
theorem z_iastN {k n j : Nat} {i v : Int32} (G : zG w p s m c args cc own nL) (hH : zH w s M H locs) (hA : zIA w k n) (hj : zix i n = some j) (hdg : decode cc pc = .ok (.iastore, 1)) (eM : M1 = zst M k j v)
    (kk : ∀ (H1 : Heap) (locs1 : List Loc), zH w s M1 H1 locs1 → W p l e R s m args below meth c H1 locs1 0 0 Q (F0 m (pc + 1) ls rest)) : W p l e R s m args below meth c H locs 0 0 Q (F0 m pc ls (.int v :: .int i :: .ref (za w k) :: rest)) := by
  subst eM
  exact z_iast G hH hA hj hdg kk
theorem z_lastN {k n j : Nat} {i : Int32} {v : Int64} (G : zG w p s m c args cc own nL) (hH : zH w s M H locs) (hA : zLA w k n) (hj : zix i n = some j) (hdg : decode cc pc = .ok (.lastore, 1)) (eM : M1 = zstL M k j v)
    (kk : ∀ (H1 : Heap) (locs1 : List Loc), zH w s M1 H1 locs1 → W p l e R s m args below meth c H1 locs1 0 0 Q (F0 m (pc + 1) ls rest)) : W p l e R s m args below meth c H locs 0 0 Q (F0 m pc ls (.long v :: .int i :: .ref (za w k) :: rest)) := by
  subst eM
  exact z_last G hH hA hj hdg kk
theorem z_copyiN {k0 k1 n0 n1 idx : Nat} {sp dp n : Int32} {a b d : Nat} (G : zG w p s m c args cc own nL) (hH : zH w s M H locs) (hsz : ls.size = nL) (h0 : zIA w k0 n0) (h1 : zIA w k1 n1) (hok : zcpOk sp dp n n0 n1)
    (hl : Cond.methodLink own idx arraycopyName ∈ zU) (hnat : Cond.native arraycopyName ∈ zU) (hstat : Cond.static arraycopyName ∈ zU) (hini : Cond.initialized "java/lang/System" ∈ zU) (hframes : 1 ≤ R.frames) (hlocals : (rest.map fun v => v.category).sum + (nativeFrameWords "java/lang/System" "arraycopy" 5 + 11) ≤ R.locals) (hdg : decode cc pc = .ok (.invokestatic idx, 3)) (ea : sp.toNatClampNeg = a) (eb : dp.toNatClampNeg = b) (ed : n.toNatClampNeg = d) (eM : M1 = zcp M k0 k1 a b d)
    (kk : ∀ (H1 : Heap) (locs1 : List Loc), zH w s M1 H1 locs1 → W p l e R s m args below meth c H1 locs1 0 0 Q (F0 m (pc + 3) ls rest)) : W p l e R s m args below meth c H locs 0 0 Q (F0 m pc ls (.int n :: .int dp :: .ref (za w k1) :: .int sp :: .ref (za w k0) :: rest)) := by
  subst eM ea eb ed
  exact z_copyi G hH hsz h0 h1 hok hl hnat hstat hini hframes hlocals hdg kk
theorem z_copylN {k0 k1 n0 n1 idx : Nat} {sp dp n : Int32} {a b d : Nat} (G : zG w p s m c args cc own nL) (hH : zH w s M H locs) (hsz : ls.size = nL) (h0 : zLA w k0 n0) (h1 : zLA w k1 n1) (hok : zcpOk sp dp n n0 n1)
    (hl : Cond.methodLink own idx arraycopyName ∈ zU) (hnat : Cond.native arraycopyName ∈ zU) (hstat : Cond.static arraycopyName ∈ zU) (hini : Cond.initialized "java/lang/System" ∈ zU) (hframes : 1 ≤ R.frames) (hlocals : (rest.map fun v => v.category).sum + (nativeFrameWords "java/lang/System" "arraycopy" 5 + 11) ≤ R.locals) (hdg : decode cc pc = .ok (.invokestatic idx, 3)) (ea : sp.toNatClampNeg = a) (eb : dp.toNatClampNeg = b) (ed : n.toNatClampNeg = d) (eM : M1 = zcpL M k0 k1 a b d)
    (kk : ∀ (H1 : Heap) (locs1 : List Loc), zH w s M1 H1 locs1 → W p l e R s m args below meth c H1 locs1 0 0 Q (F0 m (pc + 3) ls rest)) : W p l e R s m args below meth c H locs 0 0 Q (F0 m pc ls (.int n :: .int dp :: .ref (za w k1) :: .int sp :: .ref (za w k0) :: rest)) := by
  subst eM ea eb ed
  exact z_copyl G hH hsz h0 h1 hok hl hnat hstat hini hframes hlocals hdg kk
end ZS
/-- the places of a copy, tested -/
def zcpT (sp dp n : Int32) (n0 n1 : Nat) : Option Unit := if sp < 0 ∨ dp < 0 ∨ n < 0 ∨ n0 < sp.toNatClampNeg + n.toNatClampNeg ∨ n1 < dp.toNatClampNeg + n.toNatClampNeg then none else some ()
theorem zcpT_ok {sp dp n : Int32} {n0 n1 : Nat} {u : Unit} (h : zcpT sp dp n n0 n1 = some u) : zcpOk sp dp n n0 n1 := by
  unfold zcpT at h
  by_cases hc : sp < 0 ∨ dp < 0 ∨ n < 0 ∨ n0 < sp.toNatClampNeg + n.toNatClampNeg ∨ n1 < dp.toNatClampNeg + n.toNatClampNeg
  · rw [if_pos hc] at h; cases h
  · simp only [not_or, Nat.not_lt] at hc
    exact hc
theorem z_i2 (x : Int32) (n : Int) : x + Int32.ofInt n = x + Int32.ofInt n := rfl
end
section
/-! super.m(..) where the class above inherits m: the reference names x, the code is y's -/
section ZSI
variable {p : Program} {l : Launch} {e : Env} {R : Room} {s : State} {m : MethodId} {args : Array Value} {below : List Frame} {meth : Method} {c : Code} {H : Heap} {locs : List Loc}
variable {cc : ByteArray} {pc nL : Nat} {ls : Array Slot} {rest : List Value} {w : zWd} {M : zM} {own : String}
theorem z_subOf {s : State} {A B : String} {a b : ClassId} (ha : s.vm.findClass A = some a) (hb : s.vm.findClass B = some b) (h : (Cond.superclass A B).before args s = true) : s.vm.isSubclass a b = true := by
  obtain ⟨ps, dk, kp, hps, hdk, hkp, hsuper, -, -, -⟩ := Cond.superclass_spec ha h
  have e1 : ps = b := Option.some.inj (hps.symm.trans hb)
  subst e1
  have hs : 0 < s.vm.classes.size := Nat.lt_of_le_of_lt (Nat.zero_le _) (Array.getElem?_eq_some_iff.mp hdk).1
  obtain ⟨n, hn⟩ : ∃ n, s.vm.classes.size = n + 1 := ⟨s.vm.classes.size - 1, by omega⟩
  simp [Vm.isSubclass, Vm.isSubclassAux, hn, hdk, hsuper]
theorem z_runSI {x y : MethodName} {bytes : ByteArray} {maxL n idx k ci Nf : Nat} {ret : Option FieldType} {rm : Room} {Qc : Array Value → State → Outcome → State → Prop} {free : Addr → Prop} {C : String} {T : u_T} {fs : zM → List Value} {As : List Value} {st0 : List Value} {S : String}
    (G : zG w p s m c args cc own nL) (hH : zH w s M H locs) (hsz : ls.size = nL) (hM : Met l y (Cond.code y bytes maxL ret :: zU) rm (zPre w M (.ref (za w k) :: As)) Qc 0 0 free) (hO : zOB w k ci fs) (hc : vwCl[ci]? = some (C, T, Nf)) (ha : zAr y S n) (hnm : x.name = y.name) (hds : x.desc = y.desc) (hno : x.name ≠ "<init>")
    (h1 : Cond.methodLink own idx x ∈ zU) (h2 : Cond.sameMethod x.cls y.cls x.name x.desc ∈ zU) (h3 : Cond.superclass own x.cls ∈ zU) (h7 : Cond.superclass x.cls y.cls ∈ zU) (h6 : Cond.instanceMethod y ∈ zU) (h4 : Cond.initialized S ∈ zU) (h5 : Cond.code y bytes maxL ret ∈ zU) (hrc : rm.cells = 0) (hrs : rm.slots = 0) (hn : As.length = n) (hR1 : rm.frames + 1 ≤ R.frames) (hR2 : 8 + (maxL + 11) + rm.locals ≤ R.locals)
    (hst : st0 = As.reverse ++ .ref (za w k) :: rest) (hW : (rest.map fun v => v.category).sum ≤ 8) (hdg : decode cc pc = .ok (.invokespecial idx, 3)) : va_Run p l e R s m args below meth c H locs 0 0 0 0 (F0 m pc ls st0) rest (Qc (Value.ref (za w k) :: As).toArray) free := by
  obtain ⟨a1, a2, a3, a4⟩ := ha
  have hG : GoodIn zU (Cond.code y bytes maxL ret :: zU) := z_goodU h5
  have hK : Back l R p e below s args y 3 8 (PreOf R 0 0 (zPre w M (.ref (za w k) :: As))) (PostOf Qc 0 0 free) := back_of (bytes := bytes) (maxL := maxL) (ret := ret) hM (zPre.blind G.k) hrc hrs hR1 hR2 (pay_in G.2.2.2.2.1 hG) List.mem_cons_self (fun a' U hW => word_at hW (Or.inl (by first | rfl | simp [Cond.onTables, Cond.keeps, Cond.steady])) (by rw [a1]; exact G.t h4))
  obtain ⟨cellB, hcB, hoB, hclB⟩ := z_recv G hH.1 hO hc
  obtain ⟨hfc, kB, hkB, -⟩ := (G.K.1 ci _ hc).2
  have hkB : s.vm.classes[cellB.cls]? = some kB := by rw [← Option.some.inj (hfc.symm.trans hclB)]; exact hkB
  intro T hT X
  obtain ⟨mk, methM, hnamed, hmethM, hstM, habM⟩ := Cond.instanceMethod_spec (G.t h6)
  obtain ⟨methM', cM, hmethM', -, -, -, -, -, -, hsigM⟩ := Cond.code_spec hnamed (G.t h5)
  cases hmethM.symm.trans hmethM'
  obtain ⟨ps, dk, kp, hps, hdk, hkp, hsuper, -, -, hnid⟩ := Cond.superclass_spec G.o (G.t h3)
  have hn' : s.methodNamed? ⟨y.cls, x.name, x.desc⟩ = some mk := by rw [hnm, hds]; exact hnamed
  have hsub : s.vm.isSubclass ps mk.cls = true := z_subOf hps (findClass_of_methodNamed hnamed) (G.t h7)
  have hlen : As.length = methM.sig.parameters.length := by
    rw [hsigM] at a4
    exact hn.trans (Option.some.inj a4).symm
  have hst' : (F0 m pc ls st0).stack = As.reverse ++ .ref (za w k) :: rest := hst
  have hdg' : decode c.code (F0 m pc ls st0).pc = .ok (.invokespecial idx, 3) := by rw [G.b]; exact hdg
  obtain ⟨vm₁, X₁, hstep₁⟩ := X.invokespecialUp G.x G.o (G.t h1) (G.t h2) hn' hmethM hstM habM hno hdk hnid hps hsuper hsub (a := za w k) (cell := cellB) (by rw [hT]; exact hcB)
    (fun z h => by rw [h] at hoB; cases hoB) hkB (g := F0 m pc ls st0) rfl (argsL := As) (rest := rest) hlen hst' hdg'
  obtain ⟨v, ⟨U', l2, c2, s2⟩, X', ⟨g', mk2, t, L, e1, e2, hq, q1, hL, q2, q3⟩, hsteps⟩ := hK m meth c ⟨T.setVm vm₁, locs, 0, 0⟩ { (F0 m pc ls st0) with stack := rest } (.invokespecial idx) mk (Value.ref (za w k) :: As).toArray X₁ rfl (hsz.trans G.ml.symm) hdg' (lv_room hW) (X₁.named hnamed) ⟨Nat.zero_le _, Nat.zero_le _, zPre.at _ G hH (T.setVm vm₁) hT X₁.warmed⟩
  dsimp only [Pt.U, Pt.locs, Pt.cells, Pt.slots] at X' e1 e2 q1 q2 q3 hsteps
  subst q1; subst q2; subst q3
  exact ⟨v, (T.setVm vm₁).calling g' mk2 (Value.ref (za w k) :: As).toArray, t, U', L, hT, X', hL, e1, e2, hq, fun target h => hstep₁ _ (by rw [doInvoke_state]; exact hsteps.trans h)⟩
end ZSI
end
section
def fX2_costs (a1 : Int32) (a2 : Int32) : Option Int32 :=
  some (5 : Int32)
abbrev rX2_costs : Room := { frames := 0, cells := 0, slots := 0, locals := 0 }
theorem arX2_costs : zAr yX2_costs RX2 2 := ⟨rfl, by decide, by decide, by decide +kernel⟩
set_option maxHeartbeats 4000000 in
theorem kX2_costs (l : Launch) {w : zWd} (hw : zIsC w) {q ci Nf : Nat} {C : String} {T : u_T} {fs : zM → List Value} (hO : zOB w q ci fs) (hc : vwCl[ci]? = some (C, T, Nf)) {M0 : zM} {a1 : Int32} {a2 : Int32} {r : Int32} (h : fX2_costs a1 a2 = some r) : Met l yX2_costs (Cond.code yX2_costs cX2_costs 3 (some .int) :: zU) rX2_costs (zPre w M0 [.ref (za w q), .int a1, .int a2]) (zR (some (.int r))) 0 0 zNo := by
  refine z_metN (own := RX2) (lv := [(0, .ref (za w q)), (1, .int a1), (2, .int a2)]) hw.1 (by decide) (Nat.le_of_ble_eq_true rfl) rfl rfl ?_
  intro p e s m args below meth c G hr hlk hH ls hl
  unfold fX2_costs at h
  refine lv_iconst (v := (5 : Int32)) G.x G.b dX2_costs_0 (by decide) ?_
  exact z_rtI G hr hlk h dX2_costs_1
def fX2_meets (a1 : Int32) (a2 : Int32) (a3 : Int32) : Option Int32 :=
  if a2 = (0 : Int32) then (some (0 : Int32)) else (some (a1 / (10 : Int32)))
abbrev rX2_meets : Room := { frames := 0, cells := 0, slots := 0, locals := 0 }
theorem arX2_meets : zAr yX2_meets RX2 3 := ⟨rfl, by decide, by decide, by decide +kernel⟩
set_option maxHeartbeats 4000000 in
theorem kX2_meets (l : Launch) {w : zWd} (hw : zIsC w) {q ci Nf : Nat} {C : String} {T : u_T} {fs : zM → List Value} (hO : zOB w q ci fs) (hc : vwCl[ci]? = some (C, T, Nf)) {M0 : zM} {a1 : Int32} {a2 : Int32} {a3 : Int32} {r : Int32} (h : fX2_meets a1 a2 a3 = some r) : Met l yX2_meets (Cond.code yX2_meets cX2_meets 4 (some .int) :: zU) rX2_meets (zPre w M0 [.ref (za w q), .int a1, .int a2, .int a3]) (zR (some (.int r))) 0 0 zNo := by
  refine z_metN (own := RX2) (lv := [(0, .ref (za w q)), (1, .int a1), (2, .int a2), (3, .int a3)]) hw.1 (by decide) (Nat.le_of_ble_eq_true rfl) rfl rfl ?_
  intro p e s m args below meth c G hr hlk hH ls hl
  unfold fX2_meets at h
  refine lv_iload_n G.x G.b dX2_meets_0 rfl (lv_at hl 2 rfl) ?_
  refine lv_if_eq (tgt := 11) G.x G.b dX2_meets_1 (by decide) (fun c1 => ?_) (fun c1 => ?_)
  · have h := z_if c1 h
    refine lv_iconst (v := (0 : Int32)) G.x G.b dX2_meets_11 (by decide) ?_
    exact z_rtI G hr hlk h dX2_meets_12
  · have h := z_ifn c1 h
    refine lv_iload_n G.x G.b dX2_meets_4 rfl (lv_at hl 1 rfl) ?_
    refine lv_bipush (v := (10 : Int32)) G.x G.b dX2_meets_5 (by decide) ?_
    refine lv_idiv G.x G.b dX2_meets_7 (by decide) ?_
    refine lv_goto (tgt := 12) G.x G.b dX2_meets_8 (by decide) ?_
    exact z_rtI G hr hlk h dX2_meets_12
def fX2_leaves (a1 : Int32) : Option Int32 :=
  some (3 : Int32)
abbrev rX2_leaves : Room := { frames := 0, cells := 0, slots := 0, locals := 0 }
theorem arX2_leaves : zAr yX2_leaves RX2 1 := ⟨rfl, by decide, by decide, by decide +kernel⟩
set_option maxHeartbeats 4000000 in
theorem kX2_leaves (l : Launch) {w : zWd} (hw : zIsC w) {q ci Nf : Nat} {C : String} {T : u_T} {fs : zM → List Value} (hO : zOB w q ci fs) (hc : vwCl[ci]? = some (C, T, Nf)) {M0 : zM} {a1 : Int32} {r : Int32} (h : fX2_leaves a1 = some r) : Met l yX2_leaves (Cond.code yX2_leaves cX2_leaves 2 (some .int) :: zU) rX2_leaves (zPre w M0 [.ref (za w q), .int a1]) (zR (some (.int r))) 0 0 zNo := by
  refine z_metN (own := RX2) (lv := [(0, .ref (za w q)), (1, .int a1)]) hw.1 (by decide) (Nat.le_of_ble_eq_true rfl) rfl rfl ?_
  intro p e s m args below meth c G hr hlk hH ls hl
  unfold fX2_leaves at h
  refine lv_iconst (v := (3 : Int32)) G.x G.b dX2_leaves_0 (by decide) ?_
  exact z_rtI G hr hlk h dX2_leaves_1
def fX2_gains (a1 : Int32) : Option Int32 :=
  some (1 : Int32)
abbrev rX2_gains : Room := { frames := 0, cells := 0, slots := 0, locals := 0 }
theorem arX2_gains : zAr yX2_gains RX2 1 := ⟨rfl, by decide, by decide, by decide +kernel⟩
set_option maxHeartbeats 4000000 in
theorem kX2_gains (l : Launch) {w : zWd} (hw : zIsC w) {q ci Nf : Nat} {C : String} {T : u_T} {fs : zM → List Value} (hO : zOB w q ci fs) (hc : vwCl[ci]? = some (C, T, Nf)) {M0 : zM} {a1 : Int32} {r : Int32} (h : fX2_gains a1 = some r) : Met l yX2_gains (Cond.code yX2_gains cX2_gains 2 (some .int) :: zU) rX2_gains (zPre w M0 [.ref (za w q), .int a1]) (zR (some (.int r))) 0 0 zNo := by
  refine z_metN (own := RX2) (lv := [(0, .ref (za w q)), (1, .int a1)]) hw.1 (by decide) (Nat.le_of_ble_eq_true rfl) rfl rfl ?_
  intro p e s m args below meth c G hr hlk hH ls hl
  unfold fX2_gains at h
  refine lv_iconst (v := (1 : Int32)) G.x G.b dX2_gains_0 (by decide) ?_
  exact z_rtI G hr hlk h dX2_gains_1
def fX0_costs (a1 : Int32) (a2 : Int32) : Option Int32 :=
  (fX2_costs a1 a2).bind fun x1 =>
  some (x1 + (a1 / (10 : Int32)))
abbrev rX0_costs : Room := { frames := 1, cells := 0, slots := 0, locals := 22 }
theorem arX0_costs : zAr yX0_costs RX0 2 := ⟨rfl, by decide, by decide, by decide +kernel⟩
set_option maxHeartbeats 4000000 in
theorem kX0_costs (l : Launch) {w : zWd} (hw : zIsC w) {q ci Nf : Nat} {C : String} {T : u_T} {fs : zM → List Value} (hO : zOB w q ci fs) (hc : vwCl[ci]? = some (C, T, Nf)) {M0 : zM} {a1 : Int32} {a2 : Int32} {r : Int32} (h : fX0_costs a1 a2 = some r) : Met l yX0_costs (Cond.code yX0_costs cX0_costs 3 (some .int) :: zU) rX0_costs (zPre w M0 [.ref (za w q), .int a1, .int a2]) (zR (some (.int r))) 0 0 zNo := by
  refine z_metN (own := RX0) (lv := [(0, .ref (za w q)), (1, .int a1), (2, .int a2)]) hw.1 (by decide) (Nat.le_of_ble_eq_true rfl) rfl rfl ?_
  intro p e s m args below meth c G hr hlk hH ls hl
  unfold fX0_costs at h
  refine lv_aload_n G.x G.b dX0_costs_0 rfl (lv_at hl 0 rfl) ?_
  refine lv_iload_n G.x G.b dX0_costs_1 rfl (lv_at hl 1 rfl) ?_
  refine lv_iload_n G.x G.b dX0_costs_2 rfl (lv_at hl 2 rfl) ?_
  obtain ⟨x1, ex1, h⟩ := z_bind h
  refine z_rdI (z_runSU (As := [.int a1, .int a2]) (rest := []) G hH hl.1 (kX2_costs l hw hO hc ex1) hO hc arX2_costs (by decide) u293 u289 u40 u287 u2 u308 rfl rfl rfl (Nat.le_of_ble_eq_true rfl) (Nat.le_of_ble_eq_true rfl) rfl (Nat.le_of_ble_eq_true rfl) dX0_costs_3) ?_
  refine lv_iload_n G.x G.b dX0_costs_6 rfl (lv_at hl 1 rfl) ?_
  refine lv_bipush (v := (10 : Int32)) G.x G.b dX0_costs_7 (by decide) ?_
  refine lv_idiv G.x G.b dX0_costs_9 (by decide) ?_
  refine lv_iadd G.x G.b dX0_costs_10 ?_
  exact z_rtI G hr hlk h dX0_costs_11
def fX0_meets (a1 : Int32) (a2 : Int32) (a3 : Int32) : Option Int32 :=
  (fX2_meets a1 a2 a3).bind fun x1 =>
  if a3 ≤ (50 : Int32) then (some x1) else (some (x1 - (4 : Int32)))
abbrev rX0_meets : Room := { frames := 1, cells := 0, slots := 0, locals := 23 }
theorem arX0_meets : zAr yX0_meets RX0 3 := ⟨rfl, by decide, by decide, by decide +kernel⟩
set_option maxHeartbeats 4000000 in
theorem kX0_meets (l : Launch) {w : zWd} (hw : zIsC w) {q ci Nf : Nat} {C : String} {T : u_T} {fs : zM → List Value} (hO : zOB w q ci fs) (hc : vwCl[ci]? = some (C, T, Nf)) {M0 : zM} {a1 : Int32} {a2 : Int32} {a3 : Int32} {r : Int32} (h : fX0_meets a1 a2 a3 = some r) : Met l yX0_meets (Cond.code yX0_meets cX0_meets 5 (some .int) :: zU) rX0_meets (zPre w M0 [.ref (za w q), .int a1, .int a2, .int a3]) (zR (some (.int r))) 0 0 zNo := by
  refine z_metN (own := RX0) (lv := [(0, .ref (za w q)), (1, .int a1), (2, .int a2), (3, .int a3)]) hw.1 (by decide) (Nat.le_of_ble_eq_true rfl) rfl rfl ?_
  intro p e s m args below meth c G hr hlk hH ls hl
  unfold fX0_meets at h
  refine lv_aload_n G.x G.b dX0_meets_0 rfl (lv_at hl 0 rfl) ?_
  refine lv_iload_n G.x G.b dX0_meets_1 rfl (lv_at hl 1 rfl) ?_
  refine lv_iload_n G.x G.b dX0_meets_2 rfl (lv_at hl 2 rfl) ?_
  refine lv_iload_n G.x G.b dX0_meets_3 rfl (lv_at hl 3 rfl) ?_
  obtain ⟨x1, ex1, h⟩ := z_bind h
  refine z_rdI (z_runSU (As := [.int a1, .int a2, .int a3]) (rest := []) G hH hl.1 (kX2_meets l hw hO hc ex1) hO hc arX2_meets (by decide) u352 u348 u40 u346 u2 u369 rfl rfl rfl (Nat.le_of_ble_eq_true rfl) (Nat.le_of_ble_eq_true rfl) rfl (Nat.le_of_ble_eq_true rfl) dX0_meets_4) ?_
  refine lv_istore (lv' := [(4, .int x1), (0, .ref (za w q)), (1, .int a1), (2, .int a2), (3, .int a3)]) G.x G.b dX0_meets_7 hl (Nat.le_of_ble_eq_true rfl) rfl (fun ls hl => ?_)
  refine lv_iload_n G.x G.b dX0_meets_9 rfl (lv_at hl 4 rfl) ?_
  refine lv_bipush (v := (50 : Int32)) G.x G.b dX0_meets_10 (by decide) ?_
  refine lv_icmp_le (tgt := 22) G.x G.b dX0_meets_12 (by decide) (fun c2 => ?_) (fun c2 => ?_)
  · have h := z_if c2 h
    refine lv_iload G.x G.b dX0_meets_22 (lv_at hl 0 rfl) ?_
    exact z_rtI G hr hlk h dX0_meets_24
  · have h := z_ifn c2 h
    refine lv_iload G.x G.b dX0_meets_15 (lv_at hl 0 rfl) ?_
    refine lv_iconst (v := (4 : Int32)) G.x G.b dX0_meets_17 (by decide) ?_
    refine lv_isub G.x G.b dX0_meets_18 ?_
    refine lv_goto (tgt := 24) G.x G.b dX0_meets_19 (by decide) ?_
    exact z_rtI G hr hlk h dX0_meets_24
def fX0_leaves (a1 : Int32) : Option Int32 :=
  if a1 ≤ (50 : Int32) then ((fX2_leaves a1).bind fun x2 =>
  some x2) else (some (-5 : Int32))
abbrev rX0_leaves : Room := { frames := 1, cells := 0, slots := 0, locals := 21 }
theorem arX0_leaves : zAr yX0_leaves RX0 1 := ⟨rfl, by decide, by decide, by decide +kernel⟩
set_option maxHeartbeats 4000000 in
theorem kX0_leaves (l : Launch) {w : zWd} (hw : zIsC w) {q ci Nf : Nat} {C : String} {T : u_T} {fs : zM → List Value} (hO : zOB w q ci fs) (hc : vwCl[ci]? = some (C, T, Nf)) {M0 : zM} {a1 : Int32} {r : Int32} (h : fX0_leaves a1 = some r) : Met l yX0_leaves (Cond.code yX0_leaves cX0_leaves 2 (some .int) :: zU) rX0_leaves (zPre w M0 [.ref (za w q), .int a1]) (zR (some (.int r))) 0 0 zNo := by
  refine z_metN (own := RX0) (lv := [(0, .ref (za w q)), (1, .int a1)]) hw.1 (by decide) (Nat.le_of_ble_eq_true rfl) rfl rfl ?_
  intro p e s m args below meth c G hr hlk hH ls hl
  unfold fX0_leaves at h
  refine lv_iload_n G.x G.b dX0_leaves_0 rfl (lv_at hl 1 rfl) ?_
  refine lv_bipush (v := (50 : Int32)) G.x G.b dX0_leaves_1 (by decide) ?_
  refine lv_icmp_le (tgt := 11) G.x G.b dX0_leaves_3 (by decide) (fun c1 => ?_) (fun c1 => ?_)
  · have h := z_if c1 h
    refine lv_aload_n G.x G.b dX0_leaves_11 rfl (lv_at hl 0 rfl) ?_
    refine lv_iload_n G.x G.b dX0_leaves_12 rfl (lv_at hl 1 rfl) ?_
    obtain ⟨x2, ex2, h⟩ := z_bind h
    refine z_rdI (z_runSU (As := [.int a1]) (rest := []) G hH hl.1 (kX2_leaves l hw hO hc ex2) hO hc arX2_leaves (by decide) u381 u377 u40 u375 u2 u394 rfl rfl rfl (Nat.le_of_ble_eq_true rfl) (Nat.le_of_ble_eq_true rfl) rfl (Nat.le_of_ble_eq_true rfl) dX0_leaves_13) ?_
    exact z_rtI G hr hlk h dX0_leaves_16
  · have h := z_ifn c1 h
    refine lv_bipush (v := (-5 : Int32)) G.x G.b dX0_leaves_6 (by decide) ?_
    refine lv_goto (tgt := 16) G.x G.b dX0_leaves_8 (by decide) ?_
    exact z_rtI G hr hlk h dX0_leaves_16
def fX0_gains (a1 : Int32) : Option Int32 :=
  (fX2_gains a1).bind fun x1 =>
  some (x1 + (2 : Int32))
abbrev rX0_gains : Room := { frames := 1, cells := 0, slots := 0, locals := 21 }
theorem arX0_gains : zAr yX0_gains RX0 1 := ⟨rfl, by decide, by decide, by decide +kernel⟩
set_option maxHeartbeats 4000000 in
theorem kX0_gains (l : Launch) {w : zWd} (hw : zIsC w) {q ci Nf : Nat} {C : String} {T : u_T} {fs : zM → List Value} (hO : zOB w q ci fs) (hc : vwCl[ci]? = some (C, T, Nf)) {M0 : zM} {a1 : Int32} {r : Int32} (h : fX0_gains a1 = some r) : Met l yX0_gains (Cond.code yX0_gains cX0_gains 2 (some .int) :: zU) rX0_gains (zPre w M0 [.ref (za w q), .int a1]) (zR (some (.int r))) 0 0 zNo := by
  refine z_metN (own := RX0) (lv := [(0, .ref (za w q)), (1, .int a1)]) hw.1 (by decide) (Nat.le_of_ble_eq_true rfl) rfl rfl ?_
  intro p e s m args below meth c G hr hlk hH ls hl
  unfold fX0_gains at h
  refine lv_aload_n G.x G.b dX0_gains_0 rfl (lv_at hl 0 rfl) ?_
  refine lv_iload_n G.x G.b dX0_gains_1 rfl (lv_at hl 1 rfl) ?_
  obtain ⟨x1, ex1, h⟩ := z_bind h
  refine z_rdI (z_runSU (As := [.int a1]) (rest := []) G hH hl.1 (kX2_gains l hw hO hc ex1) hO hc arX2_gains (by decide) u321 u317 u40 u315 u2 u336 rfl rfl rfl (Nat.le_of_ble_eq_true rfl) (Nat.le_of_ble_eq_true rfl) rfl (Nat.le_of_ble_eq_true rfl) dX0_gains_2) ?_
  refine lv_iconst (v := (2 : Int32)) G.x G.b dX0_gains_5 (by decide) ?_
  refine lv_iadd G.x G.b dX0_gains_6 ?_
  exact z_rtI G hr hlk h dX0_gains_7
def fX8_costs (a1 : Int32) (a2 : Int32) : Option Int32 :=
  some (12 : Int32)
abbrev rX8_costs : Room := { frames := 0, cells := 0, slots := 0, locals := 0 }
theorem arX8_costs : zAr yX8_costs RX8 2 := ⟨rfl, by decide, by decide, by decide +kernel⟩
set_option maxHeartbeats 4000000 in
theorem kX8_costs (l : Launch) {w : zWd} (hw : zIsC w) {q ci Nf : Nat} {C : String} {T : u_T} {fs : zM → List Value} (hO : zOB w q ci fs) (hc : vwCl[ci]? = some (C, T, Nf)) {M0 : zM} {a1 : Int32} {a2 : Int32} {r : Int32} (h : fX8_costs a1 a2 = some r) : Met l yX8_costs (Cond.code yX8_costs cX8_costs 3 (some .int) :: zU) rX8_costs (zPre w M0 [.ref (za w q), .int a1, .int a2]) (zR (some (.int r))) 0 0 zNo := by
  refine z_metN (own := RX8) (lv := [(0, .ref (za w q)), (1, .int a1), (2, .int a2)]) hw.1 (by decide) (Nat.le_of_ble_eq_true rfl) rfl rfl ?_
  intro p e s m args below meth c G hr hlk hH ls hl
  unfold fX8_costs at h
  refine lv_bipush (v := (12 : Int32)) G.x G.b dX8_costs_0 (by decide) ?_
  exact z_rtI G hr hlk h dX8_costs_2
def fX8_meets (a1 : Int32) (a2 : Int32) (a3 : Int32) : Option Int32 :=
  (fX2_meets a1 a2 a3).bind fun x1 =>
  if x1 ≤ (0 : Int32) then (some (-6 : Int32)) else (some x1)
abbrev rX8_meets : Room := { frames := 1, cells := 0, slots := 0, locals := 23 }
theorem arX8_meets : zAr yX8_meets RX8 3 := ⟨rfl, by decide, by decide, by decide +kernel⟩
set_option maxHeartbeats 4000000 in
theorem kX8_meets (l : Launch) {w : zWd} (hw : zIsC w) {q ci Nf : Nat} {C : String} {T : u_T} {fs : zM → List Value} (hO : zOB w q ci fs) (hc : vwCl[ci]? = some (C, T, Nf)) {M0 : zM} {a1 : Int32} {a2 : Int32} {a3 : Int32} {r : Int32} (h : fX8_meets a1 a2 a3 = some r) : Met l yX8_meets (Cond.code yX8_meets cX8_meets 5 (some .int) :: zU) rX8_meets (zPre w M0 [.ref (za w q), .int a1, .int a2, .int a3]) (zR (some (.int r))) 0 0 zNo := by
  refine z_metN (own := RX8) (lv := [(0, .ref (za w q)), (1, .int a1), (2, .int a2), (3, .int a3)]) hw.1 (by decide) (Nat.le_of_ble_eq_true rfl) rfl rfl ?_
  intro p e s m args below meth c G hr hlk hH ls hl
  unfold fX8_meets at h
  refine lv_aload_n G.x G.b dX8_meets_0 rfl (lv_at hl 0 rfl) ?_
  refine lv_iload_n G.x G.b dX8_meets_1 rfl (lv_at hl 1 rfl) ?_
  refine lv_iload_n G.x G.b dX8_meets_2 rfl (lv_at hl 2 rfl) ?_
  refine lv_iload_n G.x G.b dX8_meets_3 rfl (lv_at hl 3 rfl) ?_
  obtain ⟨x1, ex1, h⟩ := z_bind h
  refine z_rdI (z_runSU (As := [.int a1, .int a2, .int a3]) (rest := []) G hH hl.1 (kX2_meets l hw hO hc ex1) hO hc arX2_meets (by decide) u367 u348 u47 u346 u2 u369 rfl rfl rfl (Nat.le_of_ble_eq_true rfl) (Nat.le_of_ble_eq_true rfl) rfl (Nat.le_of_ble_eq_true rfl) dX8_meets_4) ?_
  refine lv_istore (lv' := [(4, .int x1), (0, .ref (za w q)), (1, .int a1), (2, .int a2), (3, .int a3)]) G.x G.b dX8_meets_7 hl (Nat.le_of_ble_eq_true rfl) rfl (fun ls hl => ?_)
  refine lv_iload G.x G.b dX8_meets_9 (lv_at hl 0 rfl) ?_
  refine lv_if_le (tgt := 19) G.x G.b dX8_meets_11 (by decide) (fun c2 => ?_) (fun c2 => ?_)
  · have h := z_if c2 h
    refine lv_bipush (v := (-6 : Int32)) G.x G.b dX8_meets_19 (by decide) ?_
    exact z_rtI G hr hlk h dX8_meets_21
  · have h := z_ifn c2 h
    refine lv_iload G.x G.b dX8_meets_14 (lv_at hl 0 rfl) ?_
    refine lv_goto (tgt := 21) G.x G.b dX8_meets_16 (by decide) ?_
    exact z_rtI G hr hlk h dX8_meets_21
def fX8_leaves (a1 : Int32) : Option Int32 :=
  (fX2_leaves a1).bind fun x1 =>
  some (x1 + (4 : Int32))
abbrev rX8_leaves : Room := { frames := 1, cells := 0, slots := 0, locals := 21 }
theorem arX8_leaves : zAr yX8_leaves RX8 1 := ⟨rfl, by decide, by decide, by decide +kernel⟩
set_option maxHeartbeats 4000000 in
theorem kX8_leaves (l : Launch) {w : zWd} (hw : zIsC w) {q ci Nf : Nat} {C : String} {T : u_T} {fs : zM → List Value} (hO : zOB w q ci fs) (hc : vwCl[ci]? = some (C, T, Nf)) {M0 : zM} {a1 : Int32} {r : Int32} (h : fX8_leaves a1 = some r) : Met l yX8_leaves (Cond.code yX8_leaves cX8_leaves 2 (some .int) :: zU) rX8_leaves (zPre w M0 [.ref (za w q), .int a1]) (zR (some (.int r))) 0 0 zNo := by
  refine z_metN (own := RX8) (lv := [(0, .ref (za w q)), (1, .int a1)]) hw.1 (by decide) (Nat.le_of_ble_eq_true rfl) rfl rfl ?_
  intro p e s m args below meth c G hr hlk hH ls hl
  unfold fX8_leaves at h
  refine lv_aload_n G.x G.b dX8_leaves_0 rfl (lv_at hl 0 rfl) ?_
  refine lv_iload_n G.x G.b dX8_leaves_1 rfl (lv_at hl 1 rfl) ?_
  obtain ⟨x1, ex1, h⟩ := z_bind h
  refine z_rdI (z_runSU (As := [.int a1]) (rest := []) G hH hl.1 (kX2_leaves l hw hO hc ex1) hO hc arX2_leaves (by decide) u392 u377 u47 u375 u2 u394 rfl rfl rfl (Nat.le_of_ble_eq_true rfl) (Nat.le_of_ble_eq_true rfl) rfl (Nat.le_of_ble_eq_true rfl) dX8_leaves_2) ?_
  refine lv_iconst (v := (4 : Int32)) G.x G.b dX8_leaves_5 (by decide) ?_
  refine lv_iadd G.x G.b dX8_leaves_6 ?_
  exact z_rtI G hr hlk h dX8_leaves_7
def fX3_costs (a1 : Int32) (a2 : Int32) : Option Int32 :=
  some (2 : Int32)
abbrev rX3_costs : Room := { frames := 0, cells := 0, slots := 0, locals := 0 }
theorem arX3_costs : zAr yX3_costs RX3 2 := ⟨rfl, by decide, by decide, by decide +kernel⟩
set_option maxHeartbeats 4000000 in
theorem kX3_costs (l : Launch) {w : zWd} (hw : zIsC w) {q ci Nf : Nat} {C : String} {T : u_T} {fs : zM → List Value} (hO : zOB w q ci fs) (hc : vwCl[ci]? = some (C, T, Nf)) {M0 : zM} {a1 : Int32} {a2 : Int32} {r : Int32} (h : fX3_costs a1 a2 = some r) : Met l yX3_costs (Cond.code yX3_costs cX3_costs 3 (some .int) :: zU) rX3_costs (zPre w M0 [.ref (za w q), .int a1, .int a2]) (zR (some (.int r))) 0 0 zNo := by
  refine z_metN (own := RX3) (lv := [(0, .ref (za w q)), (1, .int a1), (2, .int a2)]) hw.1 (by decide) (Nat.le_of_ble_eq_true rfl) rfl rfl ?_
  intro p e s m args below meth c G hr hlk hH ls hl
  unfold fX3_costs at h
  refine lv_iconst (v := (2 : Int32)) G.x G.b dX3_costs_0 (by decide) ?_
  exact z_rtI G hr hlk h dX3_costs_1
def fX3_meets (a1 : Int32) (a2 : Int32) (a3 : Int32) : Option Int32 :=
  (fX2_meets a1 a2 a3).bind fun x1 =>
  some (x1 + (1 : Int32))
abbrev rX3_meets : Room := { frames := 1, cells := 0, slots := 0, locals := 23 }
theorem arX3_meets : zAr yX3_meets RX3 3 := ⟨rfl, by decide, by decide, by decide +kernel⟩
set_option maxHeartbeats 4000000 in
theorem kX3_meets (l : Launch) {w : zWd} (hw : zIsC w) {q ci Nf : Nat} {C : String} {T : u_T} {fs : zM → List Value} (hO : zOB w q ci fs) (hc : vwCl[ci]? = some (C, T, Nf)) {M0 : zM} {a1 : Int32} {a2 : Int32} {a3 : Int32} {r : Int32} (h : fX3_meets a1 a2 a3 = some r) : Met l yX3_meets (Cond.code yX3_meets cX3_meets 4 (some .int) :: zU) rX3_meets (zPre w M0 [.ref (za w q), .int a1, .int a2, .int a3]) (zR (some (.int r))) 0 0 zNo := by
  refine z_metN (own := RX3) (lv := [(0, .ref (za w q)), (1, .int a1), (2, .int a2), (3, .int a3)]) hw.1 (by decide) (Nat.le_of_ble_eq_true rfl) rfl rfl ?_
  intro p e s m args below meth c G hr hlk hH ls hl
  unfold fX3_meets at h
  refine lv_aload_n G.x G.b dX3_meets_0 rfl (lv_at hl 0 rfl) ?_
  refine lv_iload_n G.x G.b dX3_meets_1 rfl (lv_at hl 1 rfl) ?_
  refine lv_iload_n G.x G.b dX3_meets_2 rfl (lv_at hl 2 rfl) ?_
  refine lv_iload_n G.x G.b dX3_meets_3 rfl (lv_at hl 3 rfl) ?_
  obtain ⟨x1, ex1, h⟩ := z_bind h
  refine z_rdI (z_runSU (As := [.int a1, .int a2, .int a3]) (rest := []) G hH hl.1 (kX2_meets l hw hO hc ex1) hO hc arX2_meets (by decide) u360 u348 u54 u346 u2 u369 rfl rfl rfl (Nat.le_of_ble_eq_true rfl) (Nat.le_of_ble_eq_true rfl) rfl (Nat.le_of_ble_eq_true rfl) dX3_meets_4) ?_
  refine lv_iconst (v := (1 : Int32)) G.x G.b dX3_meets_7 (by decide) ?_
  refine lv_iadd G.x G.b dX3_meets_8 ?_
  exact z_rtI G hr hlk h dX3_meets_9
def fX3_leaves (a1 : Int32) : Option Int32 :=
  some (1 : Int32)
abbrev rX3_leaves : Room := { frames := 0, cells := 0, slots := 0, locals := 0 }
theorem arX3_leaves : zAr yX3_leaves RX3 1 := ⟨rfl, by decide, by decide, by decide +kernel⟩
set_option maxHeartbeats 4000000 in
theorem kX3_leaves (l : Launch) {w : zWd} (hw : zIsC w) {q ci Nf : Nat} {C : String} {T : u_T} {fs : zM → List Value} (hO : zOB w q ci fs) (hc : vwCl[ci]? = some (C, T, Nf)) {M0 : zM} {a1 : Int32} {r : Int32} (h : fX3_leaves a1 = some r) : Met l yX3_leaves (Cond.code yX3_leaves cX3_leaves 2 (some .int) :: zU) rX3_leaves (zPre w M0 [.ref (za w q), .int a1]) (zR (some (.int r))) 0 0 zNo := by
  refine z_metN (own := RX3) (lv := [(0, .ref (za w q)), (1, .int a1)]) hw.1 (by decide) (Nat.le_of_ble_eq_true rfl) rfl rfl ?_
  intro p e s m args below meth c G hr hlk hH ls hl
  unfold fX3_leaves at h
  refine lv_iconst (v := (1 : Int32)) G.x G.b dX3_leaves_0 (by decide) ?_
  exact z_rtI G hr hlk h dX3_leaves_1
def fX3_gains (a1 : Int32) : Option Int32 :=
  some (0 : Int32)
abbrev rX3_gains : Room := { frames := 0, cells := 0, slots := 0, locals := 0 }
theorem arX3_gains : zAr yX3_gains RX3 1 := ⟨rfl, by decide, by decide, by decide +kernel⟩
set_option maxHeartbeats 4000000 in
theorem kX3_gains (l : Launch) {w : zWd} (hw : zIsC w) {q ci Nf : Nat} {C : String} {T : u_T} {fs : zM → List Value} (hO : zOB w q ci fs) (hc : vwCl[ci]? = some (C, T, Nf)) {M0 : zM} {a1 : Int32} {r : Int32} (h : fX3_gains a1 = some r) : Met l yX3_gains (Cond.code yX3_gains cX3_gains 2 (some .int) :: zU) rX3_gains (zPre w M0 [.ref (za w q), .int a1]) (zR (some (.int r))) 0 0 zNo := by
  refine z_metN (own := RX3) (lv := [(0, .ref (za w q)), (1, .int a1)]) hw.1 (by decide) (Nat.le_of_ble_eq_true rfl) rfl rfl ?_
  intro p e s m args below meth c G hr hlk hH ls hl
  unfold fX3_gains at h
  refine lv_iconst (v := (0 : Int32)) G.x G.b dX3_gains_0 (by decide) ?_
  exact z_rtI G hr hlk h dX3_gains_1
def fX1_costs (a1 : Int32) (a2 : Int32) : Option Int32 :=
  (fX0_costs a1 a2).bind fun x1 =>
  some ((2 : Int32) * x1)
abbrev rX1_costs : Room := { frames := 2, cells := 0, slots := 0, locals := 44 }
theorem arX1_costs : zAr yX1_costs RX1 2 := ⟨rfl, by decide, by decide, by decide +kernel⟩
set_option maxHeartbeats 4000000 in
theorem kX1_costs (l : Launch) {w : zWd} (hw : zIsC w) {q ci Nf : Nat} {C : String} {T : u_T} {fs : zM → List Value} (hO : zOB w q ci fs) (hc : vwCl[ci]? = some (C, T, Nf)) {M0 : zM} {a1 : Int32} {a2 : Int32} {r : Int32} (h : fX1_costs a1 a2 = some r) : Met l yX1_costs (Cond.code yX1_costs cX1_costs 3 (some .int) :: zU) rX1_costs (zPre w M0 [.ref (za w q), .int a1, .int a2]) (zR (some (.int r))) 0 0 zNo := by
  refine z_metN (own := RX1) (lv := [(0, .ref (za w q)), (1, .int a1), (2, .int a2)]) hw.1 (by decide) (Nat.le_of_ble_eq_true rfl) rfl rfl ?_
  intro p e s m args below meth c G hr hlk hH ls hl
  unfold fX1_costs at h
  refine lv_iconst (v := (2 : Int32)) G.x G.b dX1_costs_0 (by decide) ?_
  refine lv_aload_n G.x G.b dX1_costs_1 rfl (lv_at hl 0 rfl) ?_
  refine lv_iload_n G.x G.b dX1_costs_2 rfl (lv_at hl 1 rfl) ?_
  refine lv_iload_n G.x G.b dX1_costs_3 rfl (lv_at hl 2 rfl) ?_
  obtain ⟨x1, ex1, h⟩ := z_bind h
  refine z_rdI (z_runSU (As := [.int a1, .int a2]) (rest := [.int (2 : Int32)]) G hH hl.1 (kX0_costs l hw hO hc ex1) hO hc arX0_costs (by decide) u297 u1258 u61 u291 u3 u292 rfl rfl rfl (Nat.le_of_ble_eq_true rfl) (Nat.le_of_ble_eq_true rfl) rfl (Nat.le_of_ble_eq_true rfl) dX1_costs_4) ?_
  refine lv_imul G.x G.b dX1_costs_7 ?_
  exact z_rtI G hr hlk h dX1_costs_8
def fX1_meets (a1 : Int32) (a2 : Int32) (a3 : Int32) : Option Int32 :=
  (fX0_meets a1 a2 a3).bind fun x1 =>
  if a1 ≤ (20 : Int32) then (some x1) else (some (x1 + (10 : Int32)))
abbrev rX1_meets : Room := { frames := 2, cells := 0, slots := 0, locals := 47 }
theorem arX1_meets : zAr yX1_meets RX1 3 := ⟨rfl, by decide, by decide, by decide +kernel⟩
set_option maxHeartbeats 4000000 in
theorem kX1_meets (l : Launch) {w : zWd} (hw : zIsC w) {q ci Nf : Nat} {C : String} {T : u_T} {fs : zM → List Value} (hO : zOB w q ci fs) (hc : vwCl[ci]? = some (C, T, Nf)) {M0 : zM} {a1 : Int32} {a2 : Int32} {a3 : Int32} {r : Int32} (h : fX1_meets a1 a2 a3 = some r) : Met l yX1_meets (Cond.code yX1_meets cX1_meets 5 (some .int) :: zU) rX1_meets (zPre w M0 [.ref (za w q), .int a1, .int a2, .int a3]) (zR (some (.int r))) 0 0 zNo := by
  refine z_metN (own := RX1) (lv := [(0, .ref (za w q)), (1, .int a1), (2, .int a2), (3, .int a3)]) hw.1 (by decide) (Nat.le_of_ble_eq_true rfl) rfl rfl ?_
  intro p e s m args below meth c G hr hlk hH ls hl
  unfold fX1_meets at h
  refine lv_aload_n G.x G.b dX1_meets_0 rfl (lv_at hl 0 rfl) ?_
  refine lv_iload_n G.x G.b dX1_meets_1 rfl (lv_at hl 1 rfl) ?_
  refine lv_iload_n G.x G.b dX1_meets_2 rfl (lv_at hl 2 rfl) ?_
  refine lv_iload_n G.x G.b dX1_meets_3 rfl (lv_at hl 3 rfl) ?_
  obtain ⟨x1, ex1, h⟩ := z_bind h
  refine z_rdI (z_runSU (As := [.int a1, .int a2, .int a3]) (rest := []) G hH hl.1 (kX0_meets l hw hO hc ex1) hO hc arX0_meets (by decide) u356 u1261 u61 u350 u3 u351 rfl rfl rfl (Nat.le_of_ble_eq_true rfl) (Nat.le_of_ble_eq_true rfl) rfl (Nat.le_of_ble_eq_true rfl) dX1_meets_4) ?_
  refine lv_istore (lv' := [(4, .int x1), (0, .ref (za w q)), (1, .int a1), (2, .int a2), (3, .int a3)]) G.x G.b dX1_meets_7 hl (Nat.le_of_ble_eq_true rfl) rfl (fun ls hl => ?_)
  refine lv_iload_n G.x G.b dX1_meets_9 rfl (lv_at hl 2 rfl) ?_
  refine lv_bipush (v := (20 : Int32)) G.x G.b dX1_meets_10 (by decide) ?_
  refine lv_icmp_le (tgt := 23) G.x G.b dX1_meets_12 (by decide) (fun c2 => ?_) (fun c2 => ?_)
  · have h := z_if c2 h
    refine lv_iload G.x G.b dX1_meets_23 (lv_at hl 0 rfl) ?_
    exact z_rtI G hr hlk h dX1_meets_25
  · have h := z_ifn c2 h
    refine lv_iload G.x G.b dX1_meets_15 (lv_at hl 0 rfl) ?_
    refine lv_bipush (v := (10 : Int32)) G.x G.b dX1_meets_17 (by decide) ?_
    refine lv_iadd G.x G.b dX1_meets_19 ?_
    refine lv_goto (tgt := 25) G.x G.b dX1_meets_20 (by decide) ?_
    exact z_rtI G hr hlk h dX1_meets_25
def fX1_leaves (a1 : Int32) : Option Int32 :=
  (fX0_leaves a1).bind fun x1 =>
  some (x1 + (1 : Int32))
abbrev rX1_leaves : Room := { frames := 2, cells := 0, slots := 0, locals := 42 }
theorem arX1_leaves : zAr yX1_leaves RX1 1 := ⟨rfl, by decide, by decide, by decide +kernel⟩
set_option maxHeartbeats 4000000 in
theorem kX1_leaves (l : Launch) {w : zWd} (hw : zIsC w) {q ci Nf : Nat} {C : String} {T : u_T} {fs : zM → List Value} (hO : zOB w q ci fs) (hc : vwCl[ci]? = some (C, T, Nf)) {M0 : zM} {a1 : Int32} {r : Int32} (h : fX1_leaves a1 = some r) : Met l yX1_leaves (Cond.code yX1_leaves cX1_leaves 2 (some .int) :: zU) rX1_leaves (zPre w M0 [.ref (za w q), .int a1]) (zR (some (.int r))) 0 0 zNo := by
  refine z_metN (own := RX1) (lv := [(0, .ref (za w q)), (1, .int a1)]) hw.1 (by decide) (Nat.le_of_ble_eq_true rfl) rfl rfl ?_
  intro p e s m args below meth c G hr hlk hH ls hl
  unfold fX1_leaves at h
  refine lv_aload_n G.x G.b dX1_leaves_0 rfl (lv_at hl 0 rfl) ?_
  refine lv_iload_n G.x G.b dX1_leaves_1 rfl (lv_at hl 1 rfl) ?_
  obtain ⟨x1, ex1, h⟩ := z_bind h
  refine z_rdI (z_runSU (As := [.int a1]) (rest := []) G hH hl.1 (kX0_leaves l hw hO hc ex1) hO hc arX0_leaves (by decide) u385 u1263 u61 u379 u3 u380 rfl rfl rfl (Nat.le_of_ble_eq_true rfl) (Nat.le_of_ble_eq_true rfl) rfl (Nat.le_of_ble_eq_true rfl) dX1_leaves_2) ?_
  refine lv_iconst (v := (1 : Int32)) G.x G.b dX1_leaves_5 (by decide) ?_
  refine lv_iadd G.x G.b dX1_leaves_6 ?_
  exact z_rtI G hr hlk h dX1_leaves_7
def fX1_gains (a1 : Int32) : Option Int32 :=
  if a1 = (0 : Int32) then ((fX0_gains a1).bind fun x2 =>
  some x2) else (some (0 : Int32))
abbrev rX1_gains : Room := { frames := 2, cells := 0, slots := 0, locals := 42 }
theorem arX1_gains : zAr yX1_gains RX1 1 := ⟨rfl, by decide, by decide, by decide +kernel⟩
set_option maxHeartbeats 4000000 in
theorem kX1_gains (l : Launch) {w : zWd} (hw : zIsC w) {q ci Nf : Nat} {C : String} {T : u_T} {fs : zM → List Value} (hO : zOB w q ci fs) (hc : vwCl[ci]? = some (C, T, Nf)) {M0 : zM} {a1 : Int32} {r : Int32} (h : fX1_gains a1 = some r) : Met l yX1_gains (Cond.code yX1_gains cX1_gains 2 (some .int) :: zU) rX1_gains (zPre w M0 [.ref (za w q), .int a1]) (zR (some (.int r))) 0 0 zNo := by
  refine z_metN (own := RX1) (lv := [(0, .ref (za w q)), (1, .int a1)]) hw.1 (by decide) (Nat.le_of_ble_eq_true rfl) rfl rfl ?_
  intro p e s m args below meth c G hr hlk hH ls hl
  unfold fX1_gains at h
  refine lv_iload_n G.x G.b dX1_gains_0 rfl (lv_at hl 1 rfl) ?_
  refine lv_if_eq (tgt := 8) G.x G.b dX1_gains_1 (by decide) (fun c1 => ?_) (fun c1 => ?_)
  · have h := z_if c1 h
    refine lv_aload_n G.x G.b dX1_gains_8 rfl (lv_at hl 0 rfl) ?_
    refine lv_iload_n G.x G.b dX1_gains_9 rfl (lv_at hl 1 rfl) ?_
    obtain ⟨x2, ex2, h⟩ := z_bind h
    refine z_rdI (z_runSU (As := [.int a1]) (rest := []) G hH hl.1 (kX0_gains l hw hO hc ex2) hO hc arX0_gains (by decide) u325 u1260 u61 u319 u3 u320 rfl rfl rfl (Nat.le_of_ble_eq_true rfl) (Nat.le_of_ble_eq_true rfl) rfl (Nat.le_of_ble_eq_true rfl) dX1_gains_10) ?_
    exact z_rtI G hr hlk h dX1_gains_13
  · have h := z_ifn c1 h
    refine lv_iconst (v := (0 : Int32)) G.x G.b dX1_gains_4 (by decide) ?_
    refine lv_goto (tgt := 13) G.x G.b dX1_gains_5 (by decide) ?_
    exact z_rtI G hr hlk h dX1_gains_13
def fX4_costs (a1 : Int32) (a2 : Int32) : Option Int32 :=
  (fX8_costs a1 a2).bind fun x1 =>
  some (x1 + (a2 / (50 : Int32)))
abbrev rX4_costs : Room := { frames := 1, cells := 0, slots := 0, locals := 22 }
theorem arX4_costs : zAr yX4_costs RX4 2 := ⟨rfl, by decide, by decide, by decide +kernel⟩
set_option maxHeartbeats 4000000 in
theorem kX4_costs (l : Launch) {w : zWd} (hw : zIsC w) {q ci Nf : Nat} {C : String} {T : u_T} {fs : zM → List Value} (hO : zOB w q ci fs) (hc : vwCl[ci]? = some (C, T, Nf)) {M0 : zM} {a1 : Int32} {a2 : Int32} {r : Int32} (h : fX4_costs a1 a2 = some r) : Met l yX4_costs (Cond.code yX4_costs cX4_costs 3 (some .int) :: zU) rX4_costs (zPre w M0 [.ref (za w q), .int a1, .int a2]) (zR (some (.int r))) 0 0 zNo := by
  refine z_metN (own := RX4) (lv := [(0, .ref (za w q)), (1, .int a1), (2, .int a2)]) hw.1 (by decide) (Nat.le_of_ble_eq_true rfl) rfl rfl ?_
  intro p e s m args below meth c G hr hlk hH ls hl
  unfold fX4_costs at h
  refine lv_aload_n G.x G.b dX4_costs_0 rfl (lv_at hl 0 rfl) ?_
  refine lv_iload_n G.x G.b dX4_costs_1 rfl (lv_at hl 1 rfl) ?_
  refine lv_iload_n G.x G.b dX4_costs_2 rfl (lv_at hl 2 rfl) ?_
  obtain ⟨x1, ex1, h⟩ := z_bind h
  refine z_rdI (z_runSU (As := [.int a1, .int a2]) (rest := []) G hH hl.1 (kX8_costs l hw hO hc ex1) hO hc arX8_costs (by decide) u304 u1259 u68 u305 u4 u306 rfl rfl rfl (Nat.le_of_ble_eq_true rfl) (Nat.le_of_ble_eq_true rfl) rfl (Nat.le_of_ble_eq_true rfl) dX4_costs_3) ?_
  refine lv_iload_n G.x G.b dX4_costs_6 rfl (lv_at hl 2 rfl) ?_
  refine lv_bipush (v := (50 : Int32)) G.x G.b dX4_costs_7 (by decide) ?_
  refine lv_idiv G.x G.b dX4_costs_9 (by decide) ?_
  refine lv_iadd G.x G.b dX4_costs_10 ?_
  exact z_rtI G hr hlk h dX4_costs_11
def fX4_meets (a1 : Int32) (a2 : Int32) (a3 : Int32) : Option Int32 :=
  (fX8_meets a1 a2 a3).bind fun x1 =>
  some ((2 : Int32) * x1)
abbrev rX4_meets : Room := { frames := 2, cells := 0, slots := 0, locals := 47 }
theorem arX4_meets : zAr yX4_meets RX4 3 := ⟨rfl, by decide, by decide, by decide +kernel⟩
set_option maxHeartbeats 4000000 in
theorem kX4_meets (l : Launch) {w : zWd} (hw : zIsC w) {q ci Nf : Nat} {C : String} {T : u_T} {fs : zM → List Value} (hO : zOB w q ci fs) (hc : vwCl[ci]? = some (C, T, Nf)) {M0 : zM} {a1 : Int32} {a2 : Int32} {a3 : Int32} {r : Int32} (h : fX4_meets a1 a2 a3 = some r) : Met l yX4_meets (Cond.code yX4_meets cX4_meets 4 (some .int) :: zU) rX4_meets (zPre w M0 [.ref (za w q), .int a1, .int a2, .int a3]) (zR (some (.int r))) 0 0 zNo := by
  refine z_metN (own := RX4) (lv := [(0, .ref (za w q)), (1, .int a1), (2, .int a2), (3, .int a3)]) hw.1 (by decide) (Nat.le_of_ble_eq_true rfl) rfl rfl ?_
  intro p e s m args below meth c G hr hlk hH ls hl
  unfold fX4_meets at h
  refine lv_iconst (v := (2 : Int32)) G.x G.b dX4_meets_0 (by decide) ?_
  refine lv_aload_n G.x G.b dX4_meets_1 rfl (lv_at hl 0 rfl) ?_
  refine lv_iload_n G.x G.b dX4_meets_2 rfl (lv_at hl 1 rfl) ?_
  refine lv_iload_n G.x G.b dX4_meets_3 rfl (lv_at hl 2 rfl) ?_
  refine lv_iload_n G.x G.b dX4_meets_4 rfl (lv_at hl 3 rfl) ?_
  obtain ⟨x1, ex1, h⟩ := z_bind h
  refine z_rdI (z_runSU (As := [.int a1, .int a2, .int a3]) (rest := [.int (2 : Int32)]) G hH hl.1 (kX8_meets l hw hO hc ex1) hO hc arX8_meets (by decide) u364 u1262 u68 u365 u4 u366 rfl rfl rfl (Nat.le_of_ble_eq_true rfl) (Nat.le_of_ble_eq_true rfl) rfl (Nat.le_of_ble_eq_true rfl) dX4_meets_5) ?_
  refine lv_imul G.x G.b dX4_meets_8 ?_
  exact z_rtI G hr hlk h dX4_meets_9
def fX4_gains (a1 : Int32) : Option Int32 :=
  (fX2_gains a1).bind fun x1 =>
  some (x1 - (2 : Int32))
abbrev rX4_gains : Room := { frames := 1, cells := 0, slots := 0, locals := 21 }
theorem arX4_gains : zAr yX4_gains RX4 1 := ⟨rfl, by decide, by decide, by decide +kernel⟩
set_option maxHeartbeats 4000000 in
theorem kX4_gains (l : Launch) {w : zWd} (hw : zIsC w) {q ci Nf : Nat} {C : String} {T : u_T} {fs : zM → List Value} (hO : zOB w q ci fs) (hc : vwCl[ci]? = some (C, T, Nf)) {M0 : zM} {a1 : Int32} {r : Int32} (h : fX4_gains a1 = some r) : Met l yX4_gains (Cond.code yX4_gains cX4_gains 2 (some .int) :: zU) rX4_gains (zPre w M0 [.ref (za w q), .int a1]) (zR (some (.int r))) 0 0 zNo := by
  refine z_metN (own := RX4) (lv := [(0, .ref (za w q)), (1, .int a1)]) hw.1 (by decide) (Nat.le_of_ble_eq_true rfl) rfl rfl ?_
  intro p e s m args below meth c G hr hlk hH ls hl
  unfold fX4_gains at h
  refine lv_aload_n G.x G.b dX4_gains_0 rfl (lv_at hl 0 rfl) ?_
  refine lv_iload_n G.x G.b dX4_gains_1 rfl (lv_at hl 1 rfl) ?_
  obtain ⟨x1, ex1, h⟩ := z_bind h
  refine z_rdI (z_runSI (x := ⟨RX8, "gains", "(Z)I"⟩) (As := [.int a1]) (rest := []) G hH hl.1 (kX2_gains l hw hO hc ex1) hO hc arX2_gains rfl rfl (by decide) u332 u333 u68 u47 u315 u2 u336 rfl rfl rfl (Nat.le_of_ble_eq_true rfl) (Nat.le_of_ble_eq_true rfl) rfl (Nat.le_of_ble_eq_true rfl) dX4_gains_2) ?_
  refine lv_iconst (v := (2 : Int32)) G.x G.b dX4_gains_5 (by decide) ?_
  refine lv_isub G.x G.b dX4_gains_6 ?_
  exact z_rtI G hr hlk h dX4_gains_7
end
