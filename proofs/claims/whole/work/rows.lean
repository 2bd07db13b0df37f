section
-- ===== PART A: goes FIRST, ahead of the names: the tables' words, and 'selects' of the private methods out of them =====
/-- a private method of a class that the tables say can be made, by its rows of tables_1 -/
def lw_okq (q : MethodName × Nat) : Prop := (q.1.cls ≠ "java/lang/invoke/MethodHandle" ∧ q.1.cls ≠ "java/lang/invoke/VarHandle") ∧ Cond.instantiable q.1.cls q.2 ∈ tables_1 ∧ Cond.privateMethod q.1 ∈ tables_1 ∧ Cond.instanceMethod q.1 ∈ tables_1
theorem lw_p0 : lw_okq (⟨"HedgeGame$Page", "fits", "(I)Z"⟩, 2) := ⟨⟨by decide +kernel, by decide +kernel⟩, List.mem_of_getElem? (i := 30) (by decide +kernel), List.mem_of_getElem? (i := 299) (by decide +kernel), List.mem_of_getElem? (i := 300) (by decide +kernel)⟩
theorem lw_p1 : lw_okq (⟨"HedgeGame$Shape", "findSets", "()V"⟩, 5) := ⟨⟨by decide +kernel, by decide +kernel⟩, List.mem_of_getElem? (i := 44) (by decide +kernel), List.mem_of_getElem? (i := 421) (by decide +kernel), List.mem_of_getElem? (i := 422) (by decide +kernel)⟩
theorem lw_p2 : lw_okq (⟨"HedgeGame$Shape", "canStand", "(I)Z"⟩, 5) := ⟨⟨by decide +kernel, by decide +kernel⟩, List.mem_of_getElem? (i := 44) (by decide +kernel), List.mem_of_getElem? (i := 425) (by decide +kernel), List.mem_of_getElem? (i := 426) (by decide +kernel)⟩
theorem lw_p3 : lw_okq (⟨"HedgeGame", "isUnknown", "(I)Z"⟩, 14) := ⟨⟨by decide +kernel, by decide +kernel⟩, List.mem_of_getElem? (i := 22) (by decide +kernel), List.mem_of_getElem? (i := 446) (by decide +kernel), List.mem_of_getElem? (i := 447) (by decide +kernel)⟩
theorem lw_p4 : lw_okq (⟨"HedgeGame", "chart", "()V"⟩, 14) := ⟨⟨by decide +kernel, by decide +kernel⟩, List.mem_of_getElem? (i := 22) (by decide +kernel), List.mem_of_getElem? (i := 458) (by decide +kernel), List.mem_of_getElem? (i := 459) (by decide +kernel)⟩
theorem lw_p5 : lw_okq (⟨"HedgeGame$Outcomes", "hedgesWithCut", "(III)J"⟩, 2) := ⟨⟨by decide +kernel, by decide +kernel⟩, List.mem_of_getElem? (i := 150) (by decide +kernel), List.mem_of_getElem? (i := 474) (by decide +kernel), List.mem_of_getElem? (i := 475) (by decide +kernel)⟩
theorem lw_p6 : lw_okq (⟨"HedgeGame$Values", "simplestOf", "(III)I"⟩, 2) := ⟨⟨by decide +kernel, by decide +kernel⟩, List.mem_of_getElem? (i := 180) (by decide +kernel), List.mem_of_getElem? (i := 498) (by decide +kernel), List.mem_of_getElem? (i := 499) (by decide +kernel)⟩
theorem lw_p7 : lw_okq (⟨"HedgeGame", "sortsOf", "(I)I"⟩, 14) := ⟨⟨by decide +kernel, by decide +kernel⟩, List.mem_of_getElem? (i := 22) (by decide +kernel), List.mem_of_getElem? (i := 523) (by decide +kernel), List.mem_of_getElem? (i := 524) (by decide +kernel)⟩
theorem lw_p8 : lw_okq (⟨"HedgeGame", "whomToLetBegin", "(I)I"⟩, 14) := ⟨⟨by decide +kernel, by decide +kernel⟩, List.mem_of_getElem? (i := 22) (by decide +kernel), List.mem_of_getElem? (i := 531) (by decide +kernel), List.mem_of_getElem? (i := 532) (by decide +kernel)⟩
theorem lw_p9 : lw_okq (⟨"HedgeGame", "hasNoHedge", "()Z"⟩, 14) := ⟨⟨by decide +kernel, by decide +kernel⟩, List.mem_of_getElem? (i := 22) (by decide +kernel), List.mem_of_getElem? (i := 560) (by decide +kernel), List.mem_of_getElem? (i := 561) (by decide +kernel)⟩
theorem lw_p10 : lw_okq (⟨"HedgeGame", "evenBy", "()I"⟩, 14) := ⟨⟨by decide +kernel, by decide +kernel⟩, List.mem_of_getElem? (i := 22) (by decide +kernel), List.mem_of_getElem? (i := 610) (by decide +kernel), List.mem_of_getElem? (i := 611) (by decide +kernel)⟩
theorem lw_p11 : lw_okq (⟨"HedgeGame$Lottery", "winnerOf", "(II)I"⟩, 4) := ⟨⟨by decide +kernel, by decide +kernel⟩, List.mem_of_getElem? (i := 206) (by decide +kernel), List.mem_of_getElem? (i := 643) (by decide +kernel), List.mem_of_getElem? (i := 644) (by decide +kernel)⟩
theorem lw_p12 : lw_okq (⟨"HedgeGame$Lottery", "drawFrom", "(I)I"⟩, 4) := ⟨⟨by decide +kernel, by decide +kernel⟩, List.mem_of_getElem? (i := 206) (by decide +kernel), List.mem_of_getElem? (i := 648) (by decide +kernel), List.mem_of_getElem? (i := 649) (by decide +kernel)⟩
theorem lw_p13 : lw_okq (⟨"HedgeGame$Lottery", "draw", "(I)I"⟩, 4) := ⟨⟨by decide +kernel, by decide +kernel⟩, List.mem_of_getElem? (i := 206) (by decide +kernel), List.mem_of_getElem? (i := 653) (by decide +kernel), List.mem_of_getElem? (i := 654) (by decide +kernel)⟩
theorem lw_p14 : lw_okq (⟨"HedgeGame", "digestOutlook", "(J)J"⟩, 14) := ⟨⟨by decide +kernel, by decide +kernel⟩, List.mem_of_getElem? (i := 22) (by decide +kernel), List.mem_of_getElem? (i := 696) (by decide +kernel), List.mem_of_getElem? (i := 697) (by decide +kernel)⟩
theorem lw_p15 : lw_okq (⟨"HedgeGameModel", "read", "()I"⟩, 34) := ⟨⟨by decide +kernel, by decide +kernel⟩, List.mem_of_getElem? (i := 708) (by decide +kernel), List.mem_of_getElem? (i := 832) (by decide +kernel), List.mem_of_getElem? (i := 833) (by decide +kernel)⟩
def lw_privs_1 : List (MethodName × Nat) := [(⟨"HedgeGame$Page", "fits", "(I)Z"⟩, 2), (⟨"HedgeGame$Shape", "findSets", "()V"⟩, 5), (⟨"HedgeGame$Shape", "canStand", "(I)Z"⟩, 5), (⟨"HedgeGame", "isUnknown", "(I)Z"⟩, 14), (⟨"HedgeGame", "chart", "()V"⟩, 14), (⟨"HedgeGame$Outcomes", "hedgesWithCut", "(III)J"⟩, 2), (⟨"HedgeGame$Values", "simplestOf", "(III)I"⟩, 2), (⟨"HedgeGame", "sortsOf", "(I)I"⟩, 14), (⟨"HedgeGame", "whomToLetBegin", "(I)I"⟩, 14), (⟨"HedgeGame", "hasNoHedge", "()Z"⟩, 14), (⟨"HedgeGame", "evenBy", "()I"⟩, 14), (⟨"HedgeGame$Lottery", "winnerOf", "(II)I"⟩, 4), (⟨"HedgeGame$Lottery", "drawFrom", "(I)I"⟩, 4), (⟨"HedgeGame$Lottery", "draw", "(I)I"⟩, 4), (⟨"HedgeGame", "digestOutlook", "(J)J"⟩, 14), (⟨"HedgeGameModel", "read", "()I"⟩, 34)]
theorem lw_r1 : ∀ q ∈ lw_privs_1, lw_okq q := List.forall_mem_cons.mpr ⟨lw_p0, List.forall_mem_cons.mpr ⟨lw_p1, List.forall_mem_cons.mpr ⟨lw_p2, List.forall_mem_cons.mpr ⟨lw_p3, List.forall_mem_cons.mpr ⟨lw_p4, List.forall_mem_cons.mpr ⟨lw_p5, List.forall_mem_cons.mpr ⟨lw_p6, List.forall_mem_cons.mpr ⟨lw_p7, List.forall_mem_cons.mpr ⟨lw_p8, List.forall_mem_cons.mpr ⟨lw_p9, List.forall_mem_cons.mpr ⟨lw_p10, List.forall_mem_cons.mpr ⟨lw_p11, List.forall_mem_cons.mpr ⟨lw_p12, List.forall_mem_cons.mpr ⟨lw_p13, List.forall_mem_cons.mpr ⟨lw_p14, List.forall_mem_cons.mpr ⟨lw_p15, fun _ h => absurd h List.not_mem_nil⟩⟩⟩⟩⟩⟩⟩⟩⟩⟩⟩⟩⟩⟩⟩⟩
theorem lw_p16 : lw_okq (⟨"HedgeGameModel", "at", "(I)I"⟩, 34) := ⟨⟨by decide +kernel, by decide +kernel⟩, List.mem_of_getElem? (i := 708) (by decide +kernel), List.mem_of_getElem? (i := 836) (by decide +kernel), List.mem_of_getElem? (i := 837) (by decide +kernel)⟩
theorem lw_p17 : lw_okq (⟨"HedgeGameModel", "isBranch", "(I)Z"⟩, 34) := ⟨⟨by decide +kernel, by decide +kernel⟩, List.mem_of_getElem? (i := 708) (by decide +kernel), List.mem_of_getElem? (i := 851) (by decide +kernel), List.mem_of_getElem? (i := 852) (by decide +kernel)⟩
theorem lw_p18 : lw_okq (⟨"HedgeGameModel", "branchNow", "(II)I"⟩, 34) := ⟨⟨by decide +kernel, by decide +kernel⟩, List.mem_of_getElem? (i := 708) (by decide +kernel), List.mem_of_getElem? (i := 855) (by decide +kernel), List.mem_of_getElem? (i := 856) (by decide +kernel)⟩
theorem lw_p19 : lw_okq (⟨"HedgeGameModel", "mayCut", "(III)Z"⟩, 34) := ⟨⟨by decide +kernel, by decide +kernel⟩, List.mem_of_getElem? (i := 708) (by decide +kernel), List.mem_of_getElem? (i := 862) (by decide +kernel), List.mem_of_getElem? (i := 863) (by decide +kernel)⟩
theorem lw_p20 : lw_okq (⟨"HedgeGameModel", "isBare", "(II)Z"⟩, 34) := ⟨⟨by decide +kernel, by decide +kernel⟩, List.mem_of_getElem? (i := 708) (by decide +kernel), List.mem_of_getElem? (i := 866) (by decide +kernel), List.mem_of_getElem? (i := 867) (by decide +kernel)⟩
theorem lw_p21 : lw_okq (⟨"HedgeGameModel", "above", "(I)I"⟩, 34) := ⟨⟨by decide +kernel, by decide +kernel⟩, List.mem_of_getElem? (i := 708) (by decide +kernel), List.mem_of_getElem? (i := 870) (by decide +kernel), List.mem_of_getElem? (i := 871) (by decide +kernel)⟩
theorem lw_p22 : lw_okq (⟨"HedgeGameModel", "sortsOf", "(I)I"⟩, 34) := ⟨⟨by decide +kernel, by decide +kernel⟩, List.mem_of_getElem? (i := 708) (by decide +kernel), List.mem_of_getElem? (i := 874) (by decide +kernel), List.mem_of_getElem? (i := 875) (by decide +kernel)⟩
theorem lw_p23 : lw_okq (⟨"HedgeGameModel", "laySorts", "(I)V"⟩, 34) := ⟨⟨by decide +kernel, by decide +kernel⟩, List.mem_of_getElem? (i := 708) (by decide +kernel), List.mem_of_getElem? (i := 878) (by decide +kernel), List.mem_of_getElem? (i := 879) (by decide +kernel)⟩
theorem lw_p24 : lw_okq (⟨"HedgeGameModel", "layWinners", "()V"⟩, 34) := ⟨⟨by decide +kernel, by decide +kernel⟩, List.mem_of_getElem? (i := 708) (by decide +kernel), List.mem_of_getElem? (i := 882) (by decide +kernel), List.mem_of_getElem? (i := 883) (by decide +kernel)⟩
theorem lw_p25 : lw_okq (⟨"HedgeGameModel", "winnerFrom", "(II)I"⟩, 34) := ⟨⟨by decide +kernel, by decide +kernel⟩, List.mem_of_getElem? (i := 708) (by decide +kernel), List.mem_of_getElem? (i := 886) (by decide +kernel), List.mem_of_getElem? (i := 887) (by decide +kernel)⟩
theorem lw_p26 : lw_okq (⟨"HedgeGameModel", "leaves", "(II)I"⟩, 34) := ⟨⟨by decide +kernel, by decide +kernel⟩, List.mem_of_getElem? (i := 708) (by decide +kernel), List.mem_of_getElem? (i := 890) (by decide +kernel), List.mem_of_getElem? (i := 891) (by decide +kernel)⟩
theorem lw_p27 : lw_okq (⟨"HedgeGameModel", "letOf", "(I)I"⟩, 34) := ⟨⟨by decide +kernel, by decide +kernel⟩, List.mem_of_getElem? (i := 708) (by decide +kernel), List.mem_of_getElem? (i := 894) (by decide +kernel), List.mem_of_getElem? (i := 895) (by decide +kernel)⟩
theorem lw_p28 : lw_okq (⟨"HedgeGameModel", "worstBy", "(II)I"⟩, 34) := ⟨⟨by decide +kernel, by decide +kernel⟩, List.mem_of_getElem? (i := 708) (by decide +kernel), List.mem_of_getElem? (i := 898) (by decide +kernel), List.mem_of_getElem? (i := 899) (by decide +kernel)⟩
theorem lw_p29 : lw_okq (⟨"HedgeGameModel", "refused", "(I)I"⟩, 34) := ⟨⟨by decide +kernel, by decide +kernel⟩, List.mem_of_getElem? (i := 708) (by decide +kernel), List.mem_of_getElem? (i := 929) (by decide +kernel), List.mem_of_getElem? (i := 930) (by decide +kernel)⟩
theorem lw_p30 : lw_okq (⟨"HedgeGameModel", "winsNow", "(I)I"⟩, 34) := ⟨⟨by decide +kernel, by decide +kernel⟩, List.mem_of_getElem? (i := 708) (by decide +kernel), List.mem_of_getElem? (i := 933) (by decide +kernel), List.mem_of_getElem? (i := 934) (by decide +kernel)⟩
theorem lw_p31 : lw_okq (⟨"HedgeGameModel", "bestNow", "(I)I"⟩, 34) := ⟨⟨by decide +kernel, by decide +kernel⟩, List.mem_of_getElem? (i := 708) (by decide +kernel), List.mem_of_getElem? (i := 941) (by decide +kernel), List.mem_of_getElem? (i := 942) (by decide +kernel)⟩
def lw_privs_2 : List (MethodName × Nat) := [(⟨"HedgeGameModel", "at", "(I)I"⟩, 34), (⟨"HedgeGameModel", "isBranch", "(I)Z"⟩, 34), (⟨"HedgeGameModel", "branchNow", "(II)I"⟩, 34), (⟨"HedgeGameModel", "mayCut", "(III)Z"⟩, 34), (⟨"HedgeGameModel", "isBare", "(II)Z"⟩, 34), (⟨"HedgeGameModel", "above", "(I)I"⟩, 34), (⟨"HedgeGameModel", "sortsOf", "(I)I"⟩, 34), (⟨"HedgeGameModel", "laySorts", "(I)V"⟩, 34), (⟨"HedgeGameModel", "layWinners", "()V"⟩, 34), (⟨"HedgeGameModel", "winnerFrom", "(II)I"⟩, 34), (⟨"HedgeGameModel", "leaves", "(II)I"⟩, 34), (⟨"HedgeGameModel", "letOf", "(I)I"⟩, 34), (⟨"HedgeGameModel", "worstBy", "(II)I"⟩, 34), (⟨"HedgeGameModel", "refused", "(I)I"⟩, 34), (⟨"HedgeGameModel", "winsNow", "(I)I"⟩, 34), (⟨"HedgeGameModel", "bestNow", "(I)I"⟩, 34)]
theorem lw_r2 : ∀ q ∈ lw_privs_2, lw_okq q := List.forall_mem_cons.mpr ⟨lw_p16, List.forall_mem_cons.mpr ⟨lw_p17, List.forall_mem_cons.mpr ⟨lw_p18, List.forall_mem_cons.mpr ⟨lw_p19, List.forall_mem_cons.mpr ⟨lw_p20, List.forall_mem_cons.mpr ⟨lw_p21, List.forall_mem_cons.mpr ⟨lw_p22, List.forall_mem_cons.mpr ⟨lw_p23, List.forall_mem_cons.mpr ⟨lw_p24, List.forall_mem_cons.mpr ⟨lw_p25, List.forall_mem_cons.mpr ⟨lw_p26, List.forall_mem_cons.mpr ⟨lw_p27, List.forall_mem_cons.mpr ⟨lw_p28, List.forall_mem_cons.mpr ⟨lw_p29, List.forall_mem_cons.mpr ⟨lw_p30, List.forall_mem_cons.mpr ⟨lw_p31, fun _ h => absurd h List.not_mem_nil⟩⟩⟩⟩⟩⟩⟩⟩⟩⟩⟩⟩⟩⟩⟩⟩
theorem lw_p32 : lw_okq (⟨"HedgeGameModel", "layLasting", "()V"⟩, 34) := ⟨⟨by decide +kernel, by decide +kernel⟩, List.mem_of_getElem? (i := 708) (by decide +kernel), List.mem_of_getElem? (i := 945) (by decide +kernel), List.mem_of_getElem? (i := 946) (by decide +kernel)⟩
theorem lw_p33 : lw_okq (⟨"HedgeGameModel", "lastingFrom", "(II)I"⟩, 34) := ⟨⟨by decide +kernel, by decide +kernel⟩, List.mem_of_getElem? (i := 708) (by decide +kernel), List.mem_of_getElem? (i := 949) (by decide +kernel), List.mem_of_getElem? (i := 950) (by decide +kernel)⟩
theorem lw_p34 : lw_okq (⟨"HedgeGameModel", "lastsNow", "(I)I"⟩, 34) := ⟨⟨by decide +kernel, by decide +kernel⟩, List.mem_of_getElem? (i := 708) (by decide +kernel), List.mem_of_getElem? (i := 958) (by decide +kernel), List.mem_of_getElem? (i := 959) (by decide +kernel)⟩
theorem lw_p35 : lw_okq (⟨"HedgeGameModel", "layWorth", "()V"⟩, 34) := ⟨⟨by decide +kernel, by decide +kernel⟩, List.mem_of_getElem? (i := 708) (by decide +kernel), List.mem_of_getElem? (i := 966) (by decide +kernel), List.mem_of_getElem? (i := 967) (by decide +kernel)⟩
theorem lw_p36 : lw_okq (⟨"HedgeGameModel", "worthFrom", "(I)I"⟩, 34) := ⟨⟨by decide +kernel, by decide +kernel⟩, List.mem_of_getElem? (i := 708) (by decide +kernel), List.mem_of_getElem? (i := 970) (by decide +kernel), List.mem_of_getElem? (i := 971) (by decide +kernel)⟩
theorem lw_p37 : lw_okq (⟨"HedgeGameModel", "treeNow", "(I)I"⟩, 34) := ⟨⟨by decide +kernel, by decide +kernel⟩, List.mem_of_getElem? (i := 708) (by decide +kernel), List.mem_of_getElem? (i := 982) (by decide +kernel), List.mem_of_getElem? (i := 983) (by decide +kernel)⟩
theorem lw_p38 : lw_okq (⟨"HedgeGameModel", "evenNow", "()I"⟩, 34) := ⟨⟨by decide +kernel, by decide +kernel⟩, List.mem_of_getElem? (i := 708) (by decide +kernel), List.mem_of_getElem? (i := 990) (by decide +kernel), List.mem_of_getElem? (i := 991) (by decide +kernel)⟩
theorem lw_p39 : lw_okq (⟨"HedgeGameModel", "isEven", "()Z"⟩, 34) := ⟨⟨by decide +kernel, by decide +kernel⟩, List.mem_of_getElem? (i := 708) (by decide +kernel), List.mem_of_getElem? (i := 994) (by decide +kernel), List.mem_of_getElem? (i := 995) (by decide +kernel)⟩
theorem lw_p40 : lw_okq (⟨"HedgeGameModel", "likelyNow", "(I)I"⟩, 34) := ⟨⟨by decide +kernel, by decide +kernel⟩, List.mem_of_getElem? (i := 708) (by decide +kernel), List.mem_of_getElem? (i := 1002) (by decide +kernel), List.mem_of_getElem? (i := 1003) (by decide +kernel)⟩
theorem lw_p41 : lw_okq (⟨"HedgeGameModel", "partsFrom", "(II)J"⟩, 34) := ⟨⟨by decide +kernel, by decide +kernel⟩, List.mem_of_getElem? (i := 708) (by decide +kernel), List.mem_of_getElem? (i := 1006) (by decide +kernel), List.mem_of_getElem? (i := 1007) (by decide +kernel)⟩
theorem lw_p42 : lw_okq (⟨"HedgeGameModel", "gamesNow", "(III)I"⟩, 34) := ⟨⟨by decide +kernel, by decide +kernel⟩, List.mem_of_getElem? (i := 708) (by decide +kernel), List.mem_of_getElem? (i := 1024) (by decide +kernel), List.mem_of_getElem? (i := 1025) (by decide +kernel)⟩
theorem lw_p43 : lw_okq (⟨"HedgeGameModel", "play", "(I)I"⟩, 34) := ⟨⟨by decide +kernel, by decide +kernel⟩, List.mem_of_getElem? (i := 708) (by decide +kernel), List.mem_of_getElem? (i := 1028) (by decide +kernel), List.mem_of_getElem? (i := 1029) (by decide +kernel)⟩
theorem lw_p44 : lw_okq (⟨"HedgeGameModel", "mayCuts", "(II)I"⟩, 34) := ⟨⟨by decide +kernel, by decide +kernel⟩, List.mem_of_getElem? (i := 708) (by decide +kernel), List.mem_of_getElem? (i := 1032) (by decide +kernel), List.mem_of_getElem? (i := 1033) (by decide +kernel)⟩
theorem lw_p45 : lw_okq (⟨"HedgeGameModel", "draw", "(I)I"⟩, 34) := ⟨⟨by decide +kernel, by decide +kernel⟩, List.mem_of_getElem? (i := 708) (by decide +kernel), List.mem_of_getElem? (i := 1036) (by decide +kernel), List.mem_of_getElem? (i := 1037) (by decide +kernel)⟩
theorem lw_p46 : lw_okq (⟨"HedgeGameModel", "howMany", "(I)I"⟩, 34) := ⟨⟨by decide +kernel, by decide +kernel⟩, List.mem_of_getElem? (i := 708) (by decide +kernel), List.mem_of_getElem? (i := 1059) (by decide +kernel), List.mem_of_getElem? (i := 1060) (by decide +kernel)⟩
theorem lw_p47 : lw_okq (⟨"HedgeGameModel", "onGround", "()I"⟩, 34) := ⟨⟨by decide +kernel, by decide +kernel⟩, List.mem_of_getElem? (i := 708) (by decide +kernel), List.mem_of_getElem? (i := 1063) (by decide +kernel), List.mem_of_getElem? (i := 1064) (by decide +kernel)⟩
def lw_privs_3 : List (MethodName × Nat) := [(⟨"HedgeGameModel", "layLasting", "()V"⟩, 34), (⟨"HedgeGameModel", "lastingFrom", "(II)I"⟩, 34), (⟨"HedgeGameModel", "lastsNow", "(I)I"⟩, 34), (⟨"HedgeGameModel", "layWorth", "()V"⟩, 34), (⟨"HedgeGameModel", "worthFrom", "(I)I"⟩, 34), (⟨"HedgeGameModel", "treeNow", "(I)I"⟩, 34), (⟨"HedgeGameModel", "evenNow", "()I"⟩, 34), (⟨"HedgeGameModel", "isEven", "()Z"⟩, 34), (⟨"HedgeGameModel", "likelyNow", "(I)I"⟩, 34), (⟨"HedgeGameModel", "partsFrom", "(II)J"⟩, 34), (⟨"HedgeGameModel", "gamesNow", "(III)I"⟩, 34), (⟨"HedgeGameModel", "play", "(I)I"⟩, 34), (⟨"HedgeGameModel", "mayCuts", "(II)I"⟩, 34), (⟨"HedgeGameModel", "draw", "(I)I"⟩, 34), (⟨"HedgeGameModel", "howMany", "(I)I"⟩, 34), (⟨"HedgeGameModel", "onGround", "()I"⟩, 34)]
theorem lw_r3 : ∀ q ∈ lw_privs_3, lw_okq q := List.forall_mem_cons.mpr ⟨lw_p32, List.forall_mem_cons.mpr ⟨lw_p33, List.forall_mem_cons.mpr ⟨lw_p34, List.forall_mem_cons.mpr ⟨lw_p35, List.forall_mem_cons.mpr ⟨lw_p36, List.forall_mem_cons.mpr ⟨lw_p37, List.forall_mem_cons.mpr ⟨lw_p38, List.forall_mem_cons.mpr ⟨lw_p39, List.forall_mem_cons.mpr ⟨lw_p40, List.forall_mem_cons.mpr ⟨lw_p41, List.forall_mem_cons.mpr ⟨lw_p42, List.forall_mem_cons.mpr ⟨lw_p43, List.forall_mem_cons.mpr ⟨lw_p44, List.forall_mem_cons.mpr ⟨lw_p45, List.forall_mem_cons.mpr ⟨lw_p46, List.forall_mem_cons.mpr ⟨lw_p47, fun _ h => absurd h List.not_mem_nil⟩⟩⟩⟩⟩⟩⟩⟩⟩⟩⟩⟩⟩⟩⟩⟩
theorem lw_p48 : lw_okq (⟨"HedgeGameModel", "mix", "(J)V"⟩, 34) := ⟨⟨by decide +kernel, by decide +kernel⟩, List.mem_of_getElem? (i := 708) (by decide +kernel), List.mem_of_getElem? (i := 1072) (by decide +kernel), List.mem_of_getElem? (i := 1073) (by decide +kernel)⟩
theorem lw_p49 : lw_okq (⟨"HedgeGameModel", "mixHedge", "()V"⟩, 34) := ⟨⟨by decide +kernel, by decide +kernel⟩, List.mem_of_getElem? (i := 708) (by decide +kernel), List.mem_of_getElem? (i := 1077) (by decide +kernel), List.mem_of_getElem? (i := 1078) (by decide +kernel)⟩
def lw_privs_4 : List (MethodName × Nat) := [(⟨"HedgeGameModel", "mix", "(J)V"⟩, 34), (⟨"HedgeGameModel", "mixHedge", "()V"⟩, 34)]
theorem lw_r4 : ∀ q ∈ lw_privs_4, lw_okq q := List.forall_mem_cons.mpr ⟨lw_p48, List.forall_mem_cons.mpr ⟨lw_p49, fun _ h => absurd h List.not_mem_nil⟩⟩
def lw_privs : List (MethodName × Nat) := lw_privs_1 ++ (lw_privs_2 ++ (lw_privs_3 ++ (lw_privs_4)))
def lw_tbl : List Cond := k2_sels lw_privs ++ tables_1
theorem lw_privs_ok : ∀ q ∈ lw_privs, lw_okq q := by
  show ∀ q ∈ lw_privs_1 ++ (lw_privs_2 ++ (lw_privs_3 ++ (lw_privs_4))), lw_okq q
  exact List.forall_mem_append.mpr ⟨lw_r1, List.forall_mem_append.mpr ⟨lw_r2, List.forall_mem_append.mpr ⟨lw_r3, lw_r4⟩⟩⟩
end
section
/-! ===== BEGIN words of one list among another's, by their places ===== -/
theorem goodIn_r {big : List Cond} (ws : List Cond) (ps : List Nat) (hp : ws = ps.filterMap (fun i => big[i]?)) (h : ws.all goodWord = true) : GoodIn big ws := by
  intro w hw
  have h1 := List.all_eq_true.mp h w hw
  rw [hp] at hw
  obtain ⟨i, -, hi⟩ := List.mem_filterMap.mp hw
  have hm : w ∈ big := by first | exact List.mem_of_getElem? hi | exact List.getElem?_mem hi
  exact ⟨hm, good_of_word h1⟩
theorem goodIn_app {big a b : List Cond} (ha : GoodIn big a) (hb : GoodIn big b) : GoodIn big (a ++ b) := fun w h => (List.mem_append.mp h).elim (ha w) (hb w)
theorem goodIn_ca {big a b : List Cond} {c : Cond} (ha : GoodIn big (c :: a)) (hb : GoodIn big b) : GoodIn big (c :: (a ++ b)) := fun w h => (List.mem_cons.mp h).elim (fun e => ha w (List.mem_cons.mpr (Or.inl e))) (fun h => (List.mem_append.mp h).elim (fun h => ha w (List.mem_cons.mpr (Or.inr h))) (hb w))
theorem goodIn_sub {big ws : List Cond} (hm : ∀ w ∈ ws, w ∈ big) (h : ws.all goodWord = true) : GoodIn big ws := fun w hw => ⟨hm w hw, good_of_word (List.all_eq_true.mp h w hw)⟩
/-! ===== END ===== -/

/-! ===== BEGIN printed: names, fields, word lists, decode rows ===== -/
def RX0 : String := "HedgeGame$Chances"
def TX0 : u_T := fun k => match k with
  | 0 => ("HedgeGame$Chances", "rules", "LHedgeGame$Rules;", true)
  | _ => ("HedgeGame$Chances", "chance", "[J", true)
def tyX0 : Nat → FieldType := fun k => match k with
  | 0 => .object "HedgeGame$Rules"
  | _ => .array .long
abbrev wsX00 : List Cond := u_ws RX0 TX0 2
theorem nmX0 : ∀ a, a < 2 → ∀ b, b < 2 → a ≠ b → (TX0 a).2.1 ≠ (TX0 b).2.1 := by decide +kernel
theorem tyX0_ok : ∀ k, k < 2 → parseFieldDescriptor (TX0 k).2.2.1 = some (tyX0 k) := by decide +kernel
abbrev cX0_init : ByteArray := prog_2_method_1_code
def yX0_init : MethodName := ⟨RX0, "<init>", "(LHedgeGame$Rules;)V"⟩
abbrev cX0_millionths : ByteArray := prog_2_method_2_code
def yX0_millionths : MethodName := ⟨RX0, "millionths", "(II)I"⟩
abbrev cX0_enter : ByteArray := prog_2_method_3_code
def yX0_enter : MethodName := ⟨RX0, "enter", "(III)V"⟩
def RX1 : String := "HedgeGame$Lengths"
def TX1 : u_T := fun k => match k with
  | 0 => ("HedgeGame$Lengths", "rules", "LHedgeGame$Rules;", true)
  | 1 => ("HedgeGame$Lengths", "outcomes", "LHedgeGame$Outcomes;", true)
  | _ => ("HedgeGame$Lengths", "cuts", "[I", true)
def tyX1 : Nat → FieldType := fun k => match k with
  | 0 => .object "HedgeGame$Rules"
  | 1 => .object "HedgeGame$Outcomes"
  | _ => .array .int
abbrev wsX10 : List Cond := u_ws RX1 TX1 3
theorem nmX1 : ∀ a, a < 3 → ∀ b, b < 3 → a ≠ b → (TX1 a).2.1 ≠ (TX1 b).2.1 := by decide +kernel
theorem tyX1_ok : ∀ k, k < 3 → parseFieldDescriptor (TX1 k).2.2.1 = some (tyX1 k) := by decide +kernel
abbrev cX1_init : ByteArray := prog_3_method_1_code
def yX1_init : MethodName := ⟨RX1, "<init>", "(LHedgeGame$Rules;LHedgeGame$Outcomes;)V"⟩
abbrev cX1_cutsFrom : ByteArray := prog_3_method_2_code
def yX1_cutsFrom : MethodName := ⟨RX1, "cutsFrom", "(II)I"⟩
abbrev cX1_bestCut : ByteArray := prog_3_method_3_code
def yX1_bestCut : MethodName := ⟨RX1, "bestCut", "(II)I"⟩
abbrev cX1_enter : ByteArray := prog_3_method_4_code
def yX1_enter : MethodName := ⟨RX1, "enter", "(III)V"⟩
def RX2 : String := "HedgeGame$Lottery"
def TX2 : u_T := fun k => match k with
  | 0 => ("HedgeGame$Lottery", "rules", "LHedgeGame$Rules;", true)
  | 1 => ("HedgeGame$Lottery", "seed", "I", false)
  | 2 => ("HedgeGame$Lottery", "whiteWon", "I", false)
  | _ => ("HedgeGame$Lottery", "cutsDone", "I", false)
def tyX2 : Nat → FieldType := fun k => match k with
  | 0 => .object "HedgeGame$Rules"
  | 1 => .int
  | 2 => .int
  | _ => .int
abbrev wsX20 : List Cond := u_ws RX2 TX2 4
theorem nmX2 : ∀ a, a < 4 → ∀ b, b < 4 → a ≠ b → (TX2 a).2.1 ≠ (TX2 b).2.1 := by decide +kernel
theorem tyX2_ok : ∀ k, k < 4 → parseFieldDescriptor (TX2 k).2.2.1 = some (tyX2 k) := by decide +kernel
abbrev cX2_init : ByteArray := prog_4_method_1_code
def yX2_init : MethodName := ⟨RX2, "<init>", "(LHedgeGame$Rules;)V"⟩
abbrev cX2_playAll : ByteArray := prog_4_method_2_code
def yX2_playAll : MethodName := ⟨RX2, "playAll", "(III)V"⟩
abbrev cX2_winnerOf : ByteArray := prog_4_method_3_code
def yX2_winnerOf : MethodName := ⟨RX2, "winnerOf", "(II)I"⟩
abbrev cX2_drawFrom : ByteArray := prog_4_method_4_code
def yX2_drawFrom : MethodName := ⟨RX2, "drawFrom", "(I)I"⟩
abbrev cX2_draw : ByteArray := prog_4_method_5_code
def yX2_draw : MethodName := ⟨RX2, "draw", "(I)I"⟩
def RX3 : String := "HedgeGame$Moment"
def TX3 : u_T := fun k => match k with
  | 0 => ("HedgeGame$Moment", "kinds", "[I", true)
  | 1 => ("HedgeGame$Moment", "standing", "I", false)
  | 2 => ("HedgeGame$Moment", "turn", "I", false)
  | 3 => ("HedgeGame$Moment", "cuts", "I", false)
  | _ => ("HedgeGame$Moment", "seen", "LHedgeGame$Seen;", true)
def tyX3 : Nat → FieldType := fun k => match k with
  | 0 => .array .int
  | 1 => .int
  | 2 => .int
  | 3 => .int
  | _ => .object "HedgeGame$Seen"
abbrev wsX30 : List Cond := u_ws RX3 TX3 5
theorem nmX3 : ∀ a, a < 5 → ∀ b, b < 5 → a ≠ b → (TX3 a).2.1 ≠ (TX3 b).2.1 := by decide +kernel
theorem tyX3_ok : ∀ k, k < 5 → parseFieldDescriptor (TX3 k).2.2.1 = some (tyX3 k) := by decide +kernel
abbrev cX3_init : ByteArray := prog_5_method_1_code
def yX3_init : MethodName := ⟨RX3, "<init>", "()V"⟩
abbrev cX3_beginWith : ByteArray := prog_5_method_2_code
def yX3_beginWith : MethodName := ⟨RX3, "beginWith", "(LHedgeGame$Page;I)V"⟩
abbrev cX3_copyFrom : ByteArray := prog_5_method_3_code
def yX3_copyFrom : MethodName := ⟨RX3, "copyFrom", "(LHedgeGame$Moment;)V"⟩
def RX4 : String := "HedgeGame$Outcomes"
def TX4 : u_T := fun k => match k with
  | 0 => ("HedgeGame$Outcomes", "rules", "LHedgeGame$Rules;", true)
  | _ => ("HedgeGame$Outcomes", "won", "[J", true)
def tyX4 : Nat → FieldType := fun k => match k with
  | 0 => .object "HedgeGame$Rules"
  | _ => .array .long
abbrev wsX40 : List Cond := u_ws RX4 TX4 2
theorem nmX4 : ∀ a, a < 2 → ∀ b, b < 2 → a ≠ b → (TX4 a).2.1 ≠ (TX4 b).2.1 := by decide +kernel
theorem tyX4_ok : ∀ k, k < 2 → parseFieldDescriptor (TX4 k).2.2.1 = some (tyX4 k) := by decide +kernel
abbrev cX4_init : ByteArray := prog_6_method_1_code
def yX4_init : MethodName := ⟨RX4, "<init>", "(LHedgeGame$Rules;)V"⟩
abbrev cX4_isWonBy : ByteArray := prog_6_method_2_code
def yX4_isWonBy : MethodName := ⟨RX4, "isWonBy", "(II)Z"⟩
abbrev cX4_winningKinds : ByteArray := prog_6_method_3_code
def yX4_winningKinds : MethodName := ⟨RX4, "winningKinds", "(III)I"⟩
abbrev cX4_enter : ByteArray := prog_6_method_4_code
def yX4_enter : MethodName := ⟨RX4, "enter", "(II)V"⟩
abbrev cX4_hedgesWithCut : ByteArray := prog_6_method_5_code
def yX4_hedgesWithCut : MethodName := ⟨RX4, "hedgesWithCut", "(III)J"⟩
def RX5 : String := "HedgeGame$Page"
def TX5 : u_T := fun k => match k with
  | 0 => ("HedgeGame$Page", "letters", "[C", true)
  | _ => ("HedgeGame$Page", "length", "I", false)
def tyX5 : Nat → FieldType := fun k => match k with
  | 0 => .array .char
  | _ => .int
abbrev wsX50 : List Cond := u_ws RX5 TX5 2
theorem nmX5 : ∀ a, a < 2 → ∀ b, b < 2 → a ≠ b → (TX5 a).2.1 ≠ (TX5 b).2.1 := by decide +kernel
theorem tyX5_ok : ∀ k, k < 2 → parseFieldDescriptor (TX5 k).2.2.1 = some (tyX5 k) := by decide +kernel
abbrev cX5_init : ByteArray := prog_7_method_1_code
def yX5_init : MethodName := ⟨RX5, "<init>", "()V"⟩
abbrev cX5_size : ByteArray := prog_7_method_2_code
def yX5_size : MethodName := ⟨RX5, "size", "()I"⟩
abbrev cX5_add : ByteArray := prog_7_method_3_code
def yX5_add : MethodName := ⟨RX5, "add", "(C)V"⟩
abbrev cX5_wipe : ByteArray := prog_7_method_4_code
def yX5_wipe : MethodName := ⟨RX5, "wipe", "()V"⟩
abbrev cX5_at : ByteArray := prog_7_method_5_code
def yX5_at : MethodName := ⟨RX5, "at", "(I)C"⟩
abbrev cX5_firstWrong : ByteArray := prog_7_method_6_code
def yX5_firstWrong : MethodName := ⟨RX5, "firstWrong", "()I"⟩
abbrev cX5_isWhole : ByteArray := prog_7_method_7_code
def yX5_isWhole : MethodName := ⟨RX5, "isWhole", "()Z"⟩
abbrev cX5_branches : ByteArray := prog_7_method_8_code
def yX5_branches : MethodName := ⟨RX5, "branches", "()I"⟩
abbrev cX5_kindAt : ByteArray := prog_7_method_9_code
def yX5_kindAt : MethodName := ⟨RX5, "kindAt", "(I)I"⟩
abbrev cX5_groundAt : ByteArray := prog_7_method_10_code
def yX5_groundAt : MethodName := ⟨RX5, "groundAt", "(I)I"⟩
abbrev cX5_fits : ByteArray := prog_7_method_11_code
def yX5_fits : MethodName := ⟨RX5, "fits", "(I)Z"⟩
def RX6 : String := "HedgeGame$Rules"
def TX6 : u_T := fun k => match k with
  | 0 => ("HedgeGame$Rules", "shape", "LHedgeGame$Shape;", true)
  | _ => ("HedgeGame$Rules", "now", "LHedgeGame$Moment;", true)
def tyX6 : Nat → FieldType := fun k => match k with
  | 0 => .object "HedgeGame$Shape"
  | _ => .object "HedgeGame$Moment"
abbrev wsX60 : List Cond := u_ws RX6 TX6 2
theorem nmX6 : ∀ a, a < 2 → ∀ b, b < 2 → a ≠ b → (TX6 a).2.1 ≠ (TX6 b).2.1 := by decide +kernel
theorem tyX6_ok : ∀ k, k < 2 → parseFieldDescriptor (TX6 k).2.2.1 = some (tyX6 k) := by decide +kernel
abbrev cX6_init : ByteArray := prog_8_method_1_code
def yX6_init : MethodName := ⟨RX6, "<init>", "(LHedgeGame$Shape;LHedgeGame$Moment;)V"⟩
abbrev cX6_kindsCutBy : ByteArray := prog_8_method_2_code
def yX6_kindsCutBy : MethodName := ⟨RX6, "kindsCutBy", "(III)I"⟩
abbrev cX6_choices : ByteArray := prog_8_method_3_code
def yX6_choices : MethodName := ⟨RX6, "choices", "(II)I"⟩
abbrev cX6_leftBy : ByteArray := prog_8_method_4_code
def yX6_leftBy : MethodName := ⟨RX6, "leftBy", "(II)I"⟩
def RX7 : String := "HedgeGame$Seen"
def TX7 : u_T := fun k => match k with
  | 0 => ("HedgeGame$Seen", "size", "I", false)
  | 1 => ("HedgeGame$Seen", "branches", "[I", true)
  | 2 => ("HedgeGame$Seen", "beginners", "[I", true)
  | _ => ("HedgeGame$Seen", "won", "[Z", true)
def tyX7 : Nat → FieldType := fun k => match k with
  | 0 => .int
  | 1 => .array .int
  | 2 => .array .int
  | _ => .array .boolean
abbrev wsX70 : List Cond := u_ws RX7 TX7 4
theorem nmX7 : ∀ a, a < 4 → ∀ b, b < 4 → a ≠ b → (TX7 a).2.1 ≠ (TX7 b).2.1 := by decide +kernel
theorem tyX7_ok : ∀ k, k < 4 → parseFieldDescriptor (TX7 k).2.2.1 = some (tyX7 k) := by decide +kernel
abbrev cX7_init : ByteArray := prog_9_method_1_code
def yX7_init : MethodName := ⟨RX7, "<init>", "()V"⟩
abbrev cX7_add : ByteArray := prog_9_method_2_code
def yX7_add : MethodName := ⟨RX7, "add", "(IIZ)V"⟩
abbrev cX7_copyFrom : ByteArray := prog_9_method_3_code
def yX7_copyFrom : MethodName := ⟨RX7, "copyFrom", "(LHedgeGame$Seen;)V"⟩
def RX8 : String := "HedgeGame$Shape"
def TX8 : u_T := fun k => match k with
  | 0 => ("HedgeGame$Shape", "number", "I", false)
  | 1 => ("HedgeGame$Shape", "on", "[I", true)
  | 2 => ("HedgeGame$Shape", "above", "[I", true)
  | 3 => ("HedgeGame$Shape", "sets", "[I", true)
  | _ => ("HedgeGame$Shape", "setCount", "I", false)
def tyX8 : Nat → FieldType := fun k => match k with
  | 0 => .int
  | 1 => .array .int
  | 2 => .array .int
  | 3 => .array .int
  | _ => .int
abbrev wsX80 : List Cond := u_ws RX8 TX8 5
theorem nmX8 : ∀ a, a < 5 → ∀ b, b < 5 → a ≠ b → (TX8 a).2.1 ≠ (TX8 b).2.1 := by decide +kernel
theorem tyX8_ok : ∀ k, k < 5 → parseFieldDescriptor (TX8 k).2.2.1 = some (tyX8 k) := by decide +kernel
abbrev cX8_init : ByteArray := prog_10_method_1_code
def yX8_init : MethodName := ⟨RX8, "<init>", "()V"⟩
abbrev cX8_readFrom : ByteArray := prog_10_method_2_code
def yX8_readFrom : MethodName := ⟨RX8, "readFrom", "(LHedgeGame$Page;)V"⟩
abbrev cX8_withAllOn : ByteArray := prog_10_method_3_code
def yX8_withAllOn : MethodName := ⟨RX8, "withAllOn", "(I)I"⟩
abbrev cX8_hasFooting : ByteArray := prog_10_method_4_code
def yX8_hasFooting : MethodName := ⟨RX8, "hasFooting", "(II)Z"⟩
abbrev cX8_onTheGround : ByteArray := prog_10_method_5_code
def yX8_onTheGround : MethodName := ⟨RX8, "onTheGround", "()I"⟩
abbrev cX8_findSets : ByteArray := prog_10_method_6_code
def yX8_findSets : MethodName := ⟨RX8, "findSets", "()V"⟩
abbrev cX8_canStand : ByteArray := prog_10_method_7_code
def yX8_canStand : MethodName := ⟨RX8, "canStand", "(I)Z"⟩
def RX9 : String := "HedgeGame$Values"
def TX9 : u_T := fun k => match k with
  | 0 => ("HedgeGame$Values", "rules", "LHedgeGame$Rules;", true)
  | _ => ("HedgeGame$Values", "value", "[I", true)
def tyX9 : Nat → FieldType := fun k => match k with
  | 0 => .object "HedgeGame$Rules"
  | _ => .array .int
abbrev wsX90 : List Cond := u_ws RX9 TX9 2
theorem nmX9 : ∀ a, a < 2 → ∀ b, b < 2 → a ≠ b → (TX9 a).2.1 ≠ (TX9 b).2.1 := by decide +kernel
theorem tyX9_ok : ∀ k, k < 2 → parseFieldDescriptor (TX9 k).2.2.1 = some (tyX9 k) := by decide +kernel
abbrev cX9_init : ByteArray := prog_11_method_1_code
def yX9_init : MethodName := ⟨RX9, "<init>", "(LHedgeGame$Rules;)V"⟩
abbrev cX9_valueOf : ByteArray := prog_11_method_2_code
def yX9_valueOf : MethodName := ⟨RX9, "valueOf", "(I)I"⟩
abbrev cX9_enter : ByteArray := prog_11_method_3_code
def yX9_enter : MethodName := ⟨RX9, "enter", "(III)V"⟩
abbrev cX9_simplestOf : ByteArray := prog_11_method_4_code
def yX9_simplestOf : MethodName := ⟨RX9, "simplestOf", "(III)I"⟩
abbrev cX9_simplestBetween : ByteArray := prog_11_method_5_code
def yX9_simplestBetween : MethodName := ⟨RX9, "simplestBetween", "(II)I"⟩
def RX10 : String := "HedgeGame"
def TX10 : u_T := fun k => match k with
  | 0 => ("HedgeGame", "page", "LHedgeGame$Page;", true)
  | 1 => ("HedgeGame", "shape", "LHedgeGame$Shape;", true)
  | 2 => ("HedgeGame", "now", "LHedgeGame$Moment;", true)
  | 3 => ("HedgeGame", "kept", "LHedgeGame$Moment;", true)
  | 4 => ("HedgeGame", "rules", "LHedgeGame$Rules;", true)
  | 5 => ("HedgeGame", "outcomes", "LHedgeGame$Outcomes;", true)
  | 6 => ("HedgeGame", "lengths", "LHedgeGame$Lengths;", true)
  | 7 => ("HedgeGame", "values", "LHedgeGame$Values;", true)
  | 8 => ("HedgeGame", "chances", "LHedgeGame$Chances;", true)
  | 9 => ("HedgeGame", "lottery", "LHedgeGame$Lottery;", true)
  | 10 => ("HedgeGame", "isCharted", "Z", false)
  | 11 => ("HedgeGame", "isKept", "Z", false)
  | 12 => ("HedgeGame", "hedgesRead", "I", false)
  | _ => ("HedgeGame", "evensDone", "I", false)
def tyX10 : Nat → FieldType := fun k => match k with
  | 0 => .object "HedgeGame$Page"
  | 1 => .object "HedgeGame$Shape"
  | 2 => .object "HedgeGame$Moment"
  | 3 => .object "HedgeGame$Moment"
  | 4 => .object "HedgeGame$Rules"
  | 5 => .object "HedgeGame$Outcomes"
  | 6 => .object "HedgeGame$Lengths"
  | 7 => .object "HedgeGame$Values"
  | 8 => .object "HedgeGame$Chances"
  | 9 => .object "HedgeGame$Lottery"
  | 10 => .boolean
  | 11 => .boolean
  | 12 => .int
  | _ => .int
abbrev wsX100 : List Cond := u_ws RX10 TX10 14
theorem nmX10 : ∀ a, a < 14 → ∀ b, b < 14 → a ≠ b → (TX10 a).2.1 ≠ (TX10 b).2.1 := by decide +kernel
theorem tyX10_ok : ∀ k, k < 14 → parseFieldDescriptor (TX10 k).2.2.1 = some (tyX10 k) := by decide +kernel
abbrev cX10_init : ByteArray := prog_1_method_1_code
def yX10_init : MethodName := ⟨RX10, "<init>", "()V"⟩
abbrev cX10_letter : ByteArray := prog_1_method_2_code
def yX10_letter : MethodName := ⟨RX10, "letter", "(I)I"⟩
abbrev cX10_blank : ByteArray := prog_1_method_3_code
def yX10_blank : MethodName := ⟨RX10, "blank", "()I"⟩
abbrev cX10_fault : ByteArray := prog_1_method_4_code
def yX10_fault : MethodName := ⟨RX10, "fault", "()I"⟩
abbrev cX10_hedge : ByteArray := prog_1_method_5_code
def yX10_hedge : MethodName := ⟨RX10, "hedge", "()I"⟩
abbrev cX10_branch : ByteArray := prog_1_method_6_code
def yX10_branch : MethodName := ⟨RX10, "branch", "(II)I"⟩
abbrev cX10_as : ByteArray := prog_1_method_7_code
def yX10_as : MethodName := ⟨RX10, "as", "(II)I"⟩
abbrev cX10_cut : ByteArray := prog_1_method_8_code
def yX10_cut : MethodName := ⟨RX10, "cut", "(I)I"⟩
abbrev cX10_grow : ByteArray := prog_1_method_9_code
def yX10_grow : MethodName := ⟨RX10, "grow", "(I)I"⟩
abbrev cX10_pass : ByteArray := prog_1_method_10_code
def yX10_pass : MethodName := ⟨RX10, "pass", "()I"⟩
abbrev cX10_graft : ByteArray := prog_1_method_11_code
def yX10_graft : MethodName := ⟨RX10, "graft", "(II)I"⟩
abbrev cX10_wins : ByteArray := prog_1_method_12_code
def yX10_wins : MethodName := ⟨RX10, "wins", "(I)I"⟩
abbrev cX10_best : ByteArray := prog_1_method_13_code
def yX10_best : MethodName := ⟨RX10, "best", "(I)I"⟩
abbrev cX10_lasts : ByteArray := prog_1_method_14_code
def yX10_lasts : MethodName := ⟨RX10, "lasts", "(I)I"⟩
abbrev cX10_worth : ByteArray := prog_1_method_15_code
def yX10_worth : MethodName := ⟨RX10, "worth", "()I"⟩
abbrev cX10_tree : ByteArray := prog_1_method_16_code
def yX10_tree : MethodName := ⟨RX10, "tree", "(I)I"⟩
abbrev cX10_even : ByteArray := prog_1_method_17_code
def yX10_even : MethodName := ⟨RX10, "even", "()I"⟩
abbrev cX10_likely : ByteArray := prog_1_method_18_code
def yX10_likely : MethodName := ⟨RX10, "likely", "(I)I"⟩
abbrev cX10_see : ByteArray := prog_1_method_19_code
def yX10_see : MethodName := ⟨RX10, "see", "(IIZ)I"⟩
abbrev cX10_forget : ByteArray := prog_1_method_20_code
def yX10_forget : MethodName := ⟨RX10, "forget", "()I"⟩
abbrev cX10_games : ByteArray := prog_1_method_21_code
def yX10_games : MethodName := ⟨RX10, "games", "(III)I"⟩
abbrev cX10_image : ByteArray := prog_1_method_22_code
def yX10_image : MethodName := ⟨RX10, "image", "()I"⟩
abbrev cX10_restore : ByteArray := prog_1_method_23_code
def yX10_restore : MethodName := ⟨RX10, "restore", "()I"⟩
abbrev cX10_count : ByteArray := prog_1_method_24_code
def yX10_count : MethodName := ⟨RX10, "count", "(I)I"⟩
abbrev cX10_digest : ByteArray := prog_1_method_25_code
def yX10_digest : MethodName := ⟨RX10, "digest", "()J"⟩
abbrev cX10_digestOutlook : ByteArray := prog_1_method_26_code
def yX10_digestOutlook : MethodName := ⟨RX10, "digestOutlook", "(J)J"⟩
abbrev cX10_hasNoHedge : ByteArray := prog_1_method_27_code
def yX10_hasNoHedge : MethodName := ⟨RX10, "hasNoHedge", "()Z"⟩
abbrev cX10_isUnknown : ByteArray := prog_1_method_28_code
def yX10_isUnknown : MethodName := ⟨RX10, "isUnknown", "(I)Z"⟩
abbrev cX10_isNoSide : ByteArray := prog_1_method_29_code
def yX10_isNoSide : MethodName := ⟨RX10, "isNoSide", "(I)Z"⟩
abbrev cX10_chart : ByteArray := prog_1_method_30_code
def yX10_chart : MethodName := ⟨RX10, "chart", "()V"⟩
abbrev cX10_place : ByteArray := prog_1_method_31_code
def yX10_place : MethodName := ⟨RX10, "place", "(II)I"⟩
abbrev cX10_evenBy : ByteArray := prog_1_method_32_code
def yX10_evenBy : MethodName := ⟨RX10, "evenBy", "()I"⟩
abbrev cX10_sortsOf : ByteArray := prog_1_method_33_code
def yX10_sortsOf : MethodName := ⟨RX10, "sortsOf", "(I)I"⟩
abbrev cX10_whomToLetBegin : ByteArray := prog_1_method_34_code
def yX10_whomToLetBegin : MethodName := ⟨RX10, "whomToLetBegin", "(I)I"⟩
abbrev cX10_mostLeft : ByteArray := prog_1_method_35_code
def yX10_mostLeft : MethodName := ⟨RX10, "mostLeft", "(II)I"⟩
def RX11 : String := "HedgeGameModel"
def TX11 : u_T := fun k => match k with
  | 0 => ("HedgeGameModel", "hedges", "I", false)
  | 1 => ("HedgeGameModel", "branches", "I", false)
  | 2 => ("HedgeGameModel", "kindOf", "[I", true)
  | 3 => ("HedgeGameModel", "onOf", "[I", true)
  | 4 => ("HedgeGameModel", "stand", "I", false)
  | 5 => ("HedgeGameModel", "turn", "I", false)
  | 6 => ("HedgeGameModel", "cuts", "I", false)
  | 7 => ("HedgeGameModel", "asks", "I", false)
  | 8 => ("HedgeGameModel", "seen", "I", false)
  | 9 => ("HedgeGameModel", "seenBranch", "[I", true)
  | 10 => ("HedgeGameModel", "seenBegins", "[I", true)
  | 11 => ("HedgeGameModel", "seenWins", "[I", true)
  | 12 => ("HedgeGameModel", "pageLength", "I", false)
  | 13 => ("HedgeGameModel", "page", "[B", true)
  | 14 => ("HedgeGameModel", "isWhole", "Z", false)
  | 15 => ("HedgeGameModel", "newBranches", "I", false)
  | 16 => ("HedgeGameModel", "winner", "[I", true)
  | 17 => ("HedgeGameModel", "lasting", "[I", true)
  | 18 => ("HedgeGameModel", "worthBy", "[I", true)
  | 19 => ("HedgeGameModel", "partsBy", "[J", true)
  | 20 => ("HedgeGameModel", "wonBy", "[I", true)
  | 21 => ("HedgeGameModel", "seedNow", "J", false)
  | 22 => ("HedgeGameModel", "gameCuts", "I", false)
  | 23 => ("HedgeGameModel", "isKept", "Z", false)
  | 24 => ("HedgeGameModel", "keptHedge", "I", false)
  | 25 => ("HedgeGameModel", "keptStand", "I", false)
  | 26 => ("HedgeGameModel", "keptTurn", "I", false)
  | 27 => ("HedgeGameModel", "keptCuts", "I", false)
  | 28 => ("HedgeGameModel", "keptSeen", "I", false)
  | 29 => ("HedgeGameModel", "keptKind", "[I", true)
  | 30 => ("HedgeGameModel", "keptBranch", "[I", true)
  | 31 => ("HedgeGameModel", "keptBegins", "[I", true)
  | 32 => ("HedgeGameModel", "keptWins", "[I", true)
  | _ => ("HedgeGameModel", "h", "J", false)
def tyX11 : Nat → FieldType := fun k => match k with
  | 0 => .int
  | 1 => .int
  | 2 => .array .int
  | 3 => .array .int
  | 4 => .int
  | 5 => .int
  | 6 => .int
  | 7 => .int
  | 8 => .int
  | 9 => .array .int
  | 10 => .array .int
  | 11 => .array .int
  | 12 => .int
  | 13 => .array .byte
  | 14 => .boolean
  | 15 => .int
  | 16 => .array .int
  | 17 => .array .int
  | 18 => .array .int
  | 19 => .array .long
  | 20 => .array .int
  | 21 => .long
  | 22 => .int
  | 23 => .boolean
  | 24 => .int
  | 25 => .int
  | 26 => .int
  | 27 => .int
  | 28 => .int
  | 29 => .array .int
  | 30 => .array .int
  | 31 => .array .int
  | 32 => .array .int
  | _ => .long
abbrev wsX110 : List Cond := u_ws RX11 TX11 34
theorem nmX11 : ∀ a, a < 34 → ∀ b, b < 34 → a ≠ b → (TX11 a).2.1 ≠ (TX11 b).2.1 := by decide +kernel
theorem tyX11_ok : ∀ k, k < 34 → parseFieldDescriptor (TX11 k).2.2.1 = some (tyX11 k) := by decide +kernel
abbrev cX11_init : ByteArray := prog_13_method_1_code
def yX11_init : MethodName := ⟨RX11, "<init>", "()V"⟩
abbrev cX11_within : ByteArray := prog_13_method_3_code
def yX11_within : MethodName := ⟨RX11, "within", "(III)Z"⟩
abbrev cX11_isIn : ByteArray := prog_13_method_4_code
def yX11_isIn : MethodName := ⟨RX11, "isIn", "(II)Z"⟩
abbrev cX11_size : ByteArray := prog_13_method_5_code
def yX11_size : MethodName := ⟨RX11, "size", "(I)I"⟩
abbrev cX11_letter : ByteArray := prog_13_method_6_code
def yX11_letter : MethodName := ⟨RX11, "letter", "(I)I"⟩
abbrev cX11_blank : ByteArray := prog_13_method_7_code
def yX11_blank : MethodName := ⟨RX11, "blank", "()I"⟩
abbrev cX11_kindBy : ByteArray := prog_13_method_8_code
def yX11_kindBy : MethodName := ⟨RX11, "kindBy", "(I)I"⟩
abbrev cX11_at : ByteArray := prog_13_method_9_code
def yX11_at : MethodName := ⟨RX11, "at", "(I)I"⟩
abbrev cX11_read : ByteArray := prog_13_method_10_code
def yX11_read : MethodName := ⟨RX11, "read", "()I"⟩
abbrev cX11_fault : ByteArray := prog_13_method_11_code
def yX11_fault : MethodName := ⟨RX11, "fault", "()I"⟩
abbrev cX11_hedge : ByteArray := prog_13_method_12_code
def yX11_hedge : MethodName := ⟨RX11, "hedge", "()I"⟩
abbrev cX11_isBranch : ByteArray := prog_13_method_13_code
def yX11_isBranch : MethodName := ⟨RX11, "isBranch", "(I)Z"⟩
abbrev cX11_above : ByteArray := prog_13_method_14_code
def yX11_above : MethodName := ⟨RX11, "above", "(I)I"⟩
abbrev cX11_isBare : ByteArray := prog_13_method_15_code
def yX11_isBare : MethodName := ⟨RX11, "isBare", "(II)Z"⟩
abbrev cX11_mayCut : ByteArray := prog_13_method_16_code
def yX11_mayCut : MethodName := ⟨RX11, "mayCut", "(III)Z"⟩
abbrev cX11_leaves : ByteArray := prog_13_method_17_code
def yX11_leaves : MethodName := ⟨RX11, "leaves", "(II)I"⟩
abbrev cX11_mayCuts : ByteArray := prog_13_method_18_code
def yX11_mayCuts : MethodName := ⟨RX11, "mayCuts", "(II)I"⟩
abbrev cX11_branchNow : ByteArray := prog_13_method_19_code
def yX11_branchNow : MethodName := ⟨RX11, "branchNow", "(II)I"⟩
abbrev cX11_branch : ByteArray := prog_13_method_20_code
def yX11_branch : MethodName := ⟨RX11, "branch", "(II)I"⟩
abbrev cX11_as : ByteArray := prog_13_method_21_code
def yX11_as : MethodName := ⟨RX11, "as", "(II)I"⟩
abbrev cX11_cut : ByteArray := prog_13_method_22_code
def yX11_cut : MethodName := ⟨RX11, "cut", "(I)I"⟩
abbrev cX11_grow : ByteArray := prog_13_method_23_code
def yX11_grow : MethodName := ⟨RX11, "grow", "(I)I"⟩
abbrev cX11_pass : ByteArray := prog_13_method_24_code
def yX11_pass : MethodName := ⟨RX11, "pass", "()I"⟩
abbrev cX11_graft : ByteArray := prog_13_method_25_code
def yX11_graft : MethodName := ⟨RX11, "graft", "(II)I"⟩
abbrev cX11_winnerFrom : ByteArray := prog_13_method_26_code
def yX11_winnerFrom : MethodName := ⟨RX11, "winnerFrom", "(II)I"⟩
abbrev cX11_lastingFrom : ByteArray := prog_13_method_27_code
def yX11_lastingFrom : MethodName := ⟨RX11, "lastingFrom", "(II)I"⟩
abbrev cX11_layWinners : ByteArray := prog_13_method_28_code
def yX11_layWinners : MethodName := ⟨RX11, "layWinners", "()V"⟩
abbrev cX11_layLasting : ByteArray := prog_13_method_29_code
def yX11_layLasting : MethodName := ⟨RX11, "layLasting", "()V"⟩
abbrev cX11_bestNow : ByteArray := prog_13_method_30_code
def yX11_bestNow : MethodName := ⟨RX11, "bestNow", "(I)I"⟩
abbrev cX11_winsNow : ByteArray := prog_13_method_31_code
def yX11_winsNow : MethodName := ⟨RX11, "winsNow", "(I)I"⟩
abbrev cX11_lastsNow : ByteArray := prog_13_method_32_code
def yX11_lastsNow : MethodName := ⟨RX11, "lastsNow", "(I)I"⟩
abbrev cX11_refused : ByteArray := prog_13_method_33_code
def yX11_refused : MethodName := ⟨RX11, "refused", "(I)I"⟩
abbrev cX11_wins : ByteArray := prog_13_method_34_code
def yX11_wins : MethodName := ⟨RX11, "wins", "(I)I"⟩
abbrev cX11_best : ByteArray := prog_13_method_35_code
def yX11_best : MethodName := ⟨RX11, "best", "(I)I"⟩
abbrev cX11_lasts : ByteArray := prog_13_method_36_code
def yX11_lasts : MethodName := ⟨RX11, "lasts", "(I)I"⟩
abbrev cX11_simplest : ByteArray := prog_13_method_37_code
def yX11_simplest : MethodName := ⟨RX11, "simplest", "(II)I"⟩
abbrev cX11_worthFrom : ByteArray := prog_13_method_38_code
def yX11_worthFrom : MethodName := ⟨RX11, "worthFrom", "(I)I"⟩
abbrev cX11_layWorth : ByteArray := prog_13_method_39_code
def yX11_layWorth : MethodName := ⟨RX11, "layWorth", "()V"⟩
abbrev cX11_worth : ByteArray := prog_13_method_40_code
def yX11_worth : MethodName := ⟨RX11, "worth", "()I"⟩
abbrev cX11_treeNow : ByteArray := prog_13_method_41_code
def yX11_treeNow : MethodName := ⟨RX11, "treeNow", "(I)I"⟩
abbrev cX11_tree : ByteArray := prog_13_method_42_code
def yX11_tree : MethodName := ⟨RX11, "tree", "(I)I"⟩
abbrev cX11_isEven : ByteArray := prog_13_method_43_code
def yX11_isEven : MethodName := ⟨RX11, "isEven", "()Z"⟩
abbrev cX11_evenNow : ByteArray := prog_13_method_44_code
def yX11_evenNow : MethodName := ⟨RX11, "evenNow", "()I"⟩
abbrev cX11_even : ByteArray := prog_13_method_45_code
def yX11_even : MethodName := ⟨RX11, "even", "()I"⟩
abbrev cX11_partsFrom : ByteArray := prog_13_method_46_code
def yX11_partsFrom : MethodName := ⟨RX11, "partsFrom", "(II)J"⟩
abbrev cX11_likelyNow : ByteArray := prog_13_method_47_code
def yX11_likelyNow : MethodName := ⟨RX11, "likelyNow", "(I)I"⟩
abbrev cX11_likely : ByteArray := prog_13_method_48_code
def yX11_likely : MethodName := ⟨RX11, "likely", "(I)I"⟩
abbrev cX11_see : ByteArray := prog_13_method_49_code
def yX11_see : MethodName := ⟨RX11, "see", "(IIZ)I"⟩
abbrev cX11_forget : ByteArray := prog_13_method_50_code
def yX11_forget : MethodName := ⟨RX11, "forget", "()I"⟩
abbrev cX11_laySorts : ByteArray := prog_13_method_51_code
def yX11_laySorts : MethodName := ⟨RX11, "laySorts", "(I)V"⟩
abbrev cX11_sortsOf : ByteArray := prog_13_method_52_code
def yX11_sortsOf : MethodName := ⟨RX11, "sortsOf", "(I)I"⟩
abbrev cX11_worstBy : ByteArray := prog_13_method_53_code
def yX11_worstBy : MethodName := ⟨RX11, "worstBy", "(II)I"⟩
abbrev cX11_letOf : ByteArray := prog_13_method_54_code
def yX11_letOf : MethodName := ⟨RX11, "letOf", "(I)I"⟩
abbrev cX11_draw : ByteArray := prog_13_method_55_code
def yX11_draw : MethodName := ⟨RX11, "draw", "(I)I"⟩
abbrev cX11_ofSet : ByteArray := prog_13_method_56_code
def yX11_ofSet : MethodName := ⟨RX11, "ofSet", "(II)I"⟩
abbrev cX11_play : ByteArray := prog_13_method_57_code
def yX11_play : MethodName := ⟨RX11, "play", "(I)I"⟩
abbrev cX11_gamesNow : ByteArray := prog_13_method_58_code
def yX11_gamesNow : MethodName := ⟨RX11, "gamesNow", "(III)I"⟩
abbrev cX11_games : ByteArray := prog_13_method_59_code
def yX11_games : MethodName := ⟨RX11, "games", "(III)I"⟩
abbrev cX11_image : ByteArray := prog_13_method_60_code
def yX11_image : MethodName := ⟨RX11, "image", "()I"⟩
abbrev cX11_restore : ByteArray := prog_13_method_61_code
def yX11_restore : MethodName := ⟨RX11, "restore", "()I"⟩
abbrev cX11_onGround : ByteArray := prog_13_method_62_code
def yX11_onGround : MethodName := ⟨RX11, "onGround", "()I"⟩
abbrev cX11_howMany : ByteArray := prog_13_method_63_code
def yX11_howMany : MethodName := ⟨RX11, "howMany", "(I)I"⟩
abbrev cX11_count : ByteArray := prog_13_method_64_code
def yX11_count : MethodName := ⟨RX11, "count", "(I)I"⟩
abbrev cX11_mix : ByteArray := prog_13_method_65_code
def yX11_mix : MethodName := ⟨RX11, "mix", "(J)V"⟩
abbrev cX11_mixHedge : ByteArray := prog_13_method_66_code
def yX11_mixHedge : MethodName := ⟨RX11, "mixHedge", "()V"⟩
abbrev cX11_digest : ByteArray := prog_13_method_67_code
def yX11_digest : MethodName := ⟨RX11, "digest", "()J"⟩
def RJ11 : String := "java/lang/Character"
def TJ11 : u_T := fun k => match k with
  | _ => ("", "", "", false)
def tyJ11 : Nat → FieldType := fun k => match k with
  | _ => .int
abbrev wsJ110 : List Cond := u_ws RJ11 TJ11 0
theorem nmJ11 : ∀ a, a < 0 → ∀ b, b < 0 → a ≠ b → (TJ11 a).2.1 ≠ (TJ11 b).2.1 := by decide +kernel
theorem tyJ11_ok : ∀ k, k < 0 → parseFieldDescriptor (TJ11 k).2.2.1 = some (tyJ11 k) := by decide +kernel
abbrev cJ11_isValidCodePoint_9a6ad : ByteArray := prog_14_method_11_code
def yJ11_isValidCodePoint_9a6ad : MethodName := ⟨RJ11, "isValidCodePoint", "(I)Z"⟩
abbrev cJ11_highSurrogate_5068e : ByteArray := prog_14_method_28_code
def yJ11_highSurrogate_5068e : MethodName := ⟨RJ11, "highSurrogate", "(I)C"⟩
abbrev cJ11_lowSurrogate_5068e : ByteArray := prog_14_method_29_code
def yJ11_lowSurrogate_5068e : MethodName := ⟨RJ11, "lowSurrogate", "(I)C"⟩
def RJ6 : String := "java/lang/Integer"
def TJ6 : u_T := fun k => match k with
  | _ => ("", "", "", false)
def tyJ6 : Nat → FieldType := fun k => match k with
  | _ => .int
abbrev wsJ60 : List Cond := u_ws RJ6 TJ6 0
theorem nmJ6 : ∀ a, a < 0 → ∀ b, b < 0 → a ≠ b → (TJ6 a).2.1 ≠ (TJ6 b).2.1 := by decide +kernel
theorem tyJ6_ok : ∀ k, k < 0 → parseFieldDescriptor (TJ6 k).2.2.1 = some (tyJ6 k) := by decide +kernel
abbrev cJ6_bitCount_0f7a4 : ByteArray := prog_15_method_49_code
def yJ6_bitCount_0f7a4 : MethodName := ⟨RJ6, "bitCount", "(I)I"⟩
def RJ9 : String := "java/lang/Math"
def TJ9 : u_T := fun k => match k with
  | _ => ("", "", "", false)
def tyJ9 : Nat → FieldType := fun k => match k with
  | _ => .int
abbrev wsJ90 : List Cond := u_ws RJ9 TJ9 0
theorem nmJ9 : ∀ a, a < 0 → ∀ b, b < 0 → a ≠ b → (TJ9 a).2.1 ≠ (TJ9 b).2.1 := by decide +kernel
theorem tyJ9_ok : ∀ k, k < 0 → parseFieldDescriptor (TJ9 k).2.2.1 = some (tyJ9 k) := by decide +kernel
abbrev cJ9_max_7cf53 : ByteArray := prog_16_method_65_code
def yJ9_max_7cf53 : MethodName := ⟨RJ9, "max", "(II)I"⟩
abbrev cJ9_min_7cf53 : ByteArray := prog_16_method_69_code
def yJ9_min_7cf53 : MethodName := ⟨RJ9, "min", "(II)I"⟩
def RJ0 : String := "java/lang/String"
def TJ0 : u_T := fun k => match k with
  | _ => ("", "", "", false)
def tyJ0 : Nat → FieldType := fun k => match k with
  | _ => .int
abbrev wsJ00 : List Cond := u_ws RJ0 TJ0 0
theorem nmJ0 : ∀ a, a < 0 → ∀ b, b < 0 → a ≠ b → (TJ0 a).2.1 ≠ (TJ0 b).2.1 := by decide +kernel
theorem tyJ0_ok : ∀ k, k < 0 → parseFieldDescriptor (TJ0 k).2.2.1 = some (tyJ0 k) := by decide +kernel
abbrev cJ0_length_8abf5 : ByteArray := prog_17_method_54_code
def yJ0_length_8abf5 : MethodName := ⟨RJ0, "length", "()I"⟩
abbrev cJ0_indexOf_0f7a4 : ByteArray := prog_17_method_79_code
def yJ0_indexOf_0f7a4 : MethodName := ⟨RJ0, "indexOf", "(I)I"⟩
abbrev cJ0_indexOf_7cf53 : ByteArray := prog_17_method_80_code
def yJ0_indexOf_7cf53 : MethodName := ⟨RJ0, "indexOf", "(II)I"⟩
abbrev cJ0_coder_7d493 : ByteArray := prog_17_method_152_code
def yJ0_coder_7d493 : MethodName := ⟨RJ0, "coder", "()B"⟩
abbrev cJ0_isLatin1_aae02 : ByteArray := prog_17_method_154_code
def yJ0_isLatin1_aae02 : MethodName := ⟨RJ0, "isLatin1", "()Z"⟩
abbrev cJ0_checkBoundsBeginEnd_23922 : ByteArray := prog_17_method_158_code
def yJ0_checkBoundsBeginEnd_23922 : MethodName := ⟨RJ0, "checkBoundsBeginEnd", "(III)V"⟩
def RJ1 : String := "java/lang/StringLatin1"
def TJ1 : u_T := fun k => match k with
  | _ => ("", "", "", false)
def tyJ1 : Nat → FieldType := fun k => match k with
  | _ => .int
abbrev wsJ10 : List Cond := u_ws RJ1 TJ1 0
theorem nmJ1 : ∀ a, a < 0 → ∀ b, b < 0 → a ≠ b → (TJ1 a).2.1 ≠ (TJ1 b).2.1 := by decide +kernel
theorem tyJ1_ok : ∀ k, k < 0 → parseFieldDescriptor (TJ1 k).2.2.1 = some (tyJ1 k) := by decide +kernel
abbrev cJ1_canEncode_9a6ad : ByteArray := prog_18_method_4_code
def yJ1_canEncode_9a6ad : MethodName := ⟨RJ1, "canEncode", "(I)Z"⟩
abbrev cJ1_indexOf_4cfef : ByteArray := prog_18_method_22_code
def yJ1_indexOf_4cfef : MethodName := ⟨RJ1, "indexOf", "([BIII)I"⟩
abbrev cJ1_indexOfChar_4cfef : ByteArray := prog_18_method_23_code
def yJ1_indexOfChar_4cfef : MethodName := ⟨RJ1, "indexOfChar", "([BIII)I"⟩
def RJ2 : String := "java/lang/StringUTF16"
def TJ2 : u_T := fun k => match k with
  | _ => ("", "", "", false)
def tyJ2 : Nat → FieldType := fun k => match k with
  | _ => .int
abbrev wsJ20 : List Cond := u_ws RJ2 TJ2 0
theorem nmJ2 : ∀ a, a < 0 → ∀ b, b < 0 → a ≠ b → (TJ2 a).2.1 ≠ (TJ2 b).2.1 := by decide +kernel
theorem tyJ2_ok : ∀ k, k < 0 → parseFieldDescriptor (TJ2 k).2.2.1 = some (tyJ2 k) := by decide +kernel
abbrev cJ2_getChar_3b067 : ByteArray := prog_19_method_5_code
def yJ2_getChar_3b067 : MethodName := ⟨RJ2, "getChar", "([BI)C"⟩
abbrev cJ2_length_9d52b : ByteArray := prog_19_method_6_code
def yJ2_length_9d52b : MethodName := ⟨RJ2, "length", "([B)I"⟩
abbrev cJ2_indexOf_4cfef : ByteArray := prog_19_method_40_code
def yJ2_indexOf_4cfef : MethodName := ⟨RJ2, "indexOf", "([BIII)I"⟩
abbrev cJ2_indexOfChar_4cfef : ByteArray := prog_19_method_47_code
def yJ2_indexOfChar_4cfef : MethodName := ⟨RJ2, "indexOfChar", "([BIII)I"⟩
abbrev cJ2_indexOfCharUnsafe_4cfef : ByteArray := prog_19_method_48_code
def yJ2_indexOfCharUnsafe_4cfef : MethodName := ⟨RJ2, "indexOfCharUnsafe", "([BIII)I"⟩
abbrev cJ2_indexOfSupplementary_4cfef : ByteArray := prog_19_method_49_code
def yJ2_indexOfSupplementary_4cfef : MethodName := ⟨RJ2, "indexOfSupplementary", "([BIII)I"⟩
abbrev cJ2_checkBoundsBeginEnd_d044e : ByteArray := prog_19_method_93_code
def yJ2_checkBoundsBeginEnd_d044e : MethodName := ⟨RJ2, "checkBoundsBeginEnd", "(II[B)V"⟩
def RJ10 : String := "java/lang/System"
def TJ10 : u_T := fun k => match k with
  | _ => ("", "", "", false)
def tyJ10 : Nat → FieldType := fun k => match k with
  | _ => .int
abbrev wsJ100 : List Cond := u_ws RJ10 TJ10 0
theorem nmJ10 : ∀ a, a < 0 → ∀ b, b < 0 → a ≠ b → (TJ10 a).2.1 ≠ (TJ10 b).2.1 := by decide +kernel
theorem tyJ10_ok : ∀ k, k < 0 → parseFieldDescriptor (TJ10 k).2.2.1 = some (tyJ10 k) := by decide +kernel
def RJ3 : String := "jdk/internal/util/Preconditions"
def TJ3 : u_T := fun k => match k with
  | _ => ("", "", "", false)
def tyJ3 : Nat → FieldType := fun k => match k with
  | _ => .int
abbrev wsJ30 : List Cond := u_ws RJ3 TJ3 0
theorem nmJ3 : ∀ a, a < 0 → ∀ b, b < 0 → a ≠ b → (TJ3 a).2.1 ≠ (TJ3 b).2.1 := by decide +kernel
theorem tyJ3_ok : ∀ k, k < 0 → parseFieldDescriptor (TJ3 k).2.2.1 = some (tyJ3 k) := by decide +kernel
abbrev cJ3_checkFromToIndex_8c36e : ByteArray := prog_21_method_12_code
def yJ3_checkFromToIndex_8c36e : MethodName := ⟨RJ3, "checkFromToIndex", "(IIILjava/util/function/BiFunction;)I"⟩
def RL : String := "HedgeGameLaw"
abbrev cL_law : ByteArray := code
def yL_law : MethodName := ⟨RL, "law", "([I)Z"⟩
def wsX0_init : List Cond := .code yX0_init cX0_init 2 none :: ([.methodLink RX0 3 objectInit, .instanceMethod objectInit, .code objectInit ⟨#[0xb1]⟩ 1 none, .arrayClass .long, .fieldLink RX0 9 "HedgeGame$Chances" "chance" "[J", .fieldLink RX0 15 "HedgeGame$Chances" "rules" "LHedgeGame$Rules;"] ++ wsX00)
def wsX10_place : List Cond := .code yX10_place cX10_place 2 (some .int) :: ([])
def wsX0_millionths : List Cond := .code yX0_millionths cX0_millionths 3 (some .int) :: ([.fieldLink RX0 9 "HedgeGame$Chances" "chance" "[J", .constantLong RX0 23 (1000000), .constantLong RX0 25 (182891520000), .static yX10_place, .initialized RX10, .code yX10_place cX10_place 2 (some .int)] ++ wsX00)
def wsJ6_bitCount_0f7a4 : List Cond := .code yJ6_bitCount_0f7a4 cJ6_bitCount_0f7a4 1 (some .int) :: ([.constant RJ6 265 (1431655765), .constant RJ6 266 (858993459), .constant RJ6 267 (252645135)])
def wsX6_leftBy : List Cond := .code yX6_leftBy cX6_leftBy 3 (some .int) :: ([.fieldLink RX6 9 "HedgeGame$Rules" "shape" "LHedgeGame$Shape;"] ++ wsX60 ++ wsX80)
def wsX0_enter : List Cond := .code yX0_enter cX0_enter 8 none :: ([.fieldLink RX0 9 "HedgeGame$Chances" "chance" "[J", .constantLong RX0 25 (182891520000), .fieldLink RX0 15 "HedgeGame$Chances" "rules" "LHedgeGame$Rules;", .methodLink RX0 27 yJ6_bitCount_0f7a4, .static yJ6_bitCount_0f7a4, .initialized RJ6, .code yJ6_bitCount_0f7a4 cJ6_bitCount_0f7a4 1 (some .int), .constant RJ6 265 (1431655765), .constant RJ6 266 (858993459), .constant RJ6 267 (252645135), .static yX10_place, .initialized RX10, .code yX10_place cX10_place 2 (some .int), .methodLink RX0 45 yX6_leftBy, .instanceMethod yX6_leftBy, .selects RX6 yX6_leftBy yX6_leftBy, .initialized RX6, .code yX6_leftBy cX6_leftBy 3 (some .int), .fieldLink RX6 9 "HedgeGame$Rules" "shape" "LHedgeGame$Shape;"] ++ wsX00 ++ wsX60 ++ wsX80)
def wsX1_init : List Cond := .code yX1_init cX1_init 3 none :: ([.methodLink RX1 3 objectInit, .instanceMethod objectInit, .code objectInit ⟨#[0xb1]⟩ 1 none, .arrayClass .int, .fieldLink RX1 9 "HedgeGame$Lengths" "cuts" "[I", .fieldLink RX1 15 "HedgeGame$Lengths" "rules" "LHedgeGame$Rules;", .fieldLink RX1 19 "HedgeGame$Lengths" "outcomes" "LHedgeGame$Outcomes;"] ++ wsX10)
def wsX1_cutsFrom : List Cond := .code yX1_cutsFrom cX1_cutsFrom 3 (some .int) :: ([.fieldLink RX1 9 "HedgeGame$Lengths" "cuts" "[I", .static yX10_place, .initialized RX10, .code yX10_place cX10_place 2 (some .int)] ++ wsX10)
def wsX4_isWonBy : List Cond := .code yX4_isWonBy cX4_isWonBy 3 (some .boolean) :: ([.fieldLink RX4 11 "HedgeGame$Outcomes" "won" "[J", .constantLong RX4 23 (1099511627776), .static yX10_place, .initialized RX10, .code yX10_place cX10_place 2 (some .int)] ++ wsX40)
def wsX6_kindsCutBy : List Cond := .code yX6_kindsCutBy cX6_kindsCutBy 5 (some .int) :: ([.fieldLink RX6 9 "HedgeGame$Rules" "shape" "LHedgeGame$Shape;"] ++ wsX60 ++ wsX80)
def wsX6_choices : List Cond := .code yX6_choices cX6_choices 5 (some .int) :: ([.fieldLink RX6 9 "HedgeGame$Rules" "shape" "LHedgeGame$Shape;", .fieldLink RX6 15 "HedgeGame$Rules" "now" "LHedgeGame$Moment;", .methodLink RX6 29 yX6_kindsCutBy, .instanceMethod yX6_kindsCutBy, .selects RX6 yX6_kindsCutBy yX6_kindsCutBy, .initialized RX6, .code yX6_kindsCutBy cX6_kindsCutBy 5 (some .int)] ++ wsX60 ++ wsX80 ++ wsX30)
def wsX1_bestCut_r1 : List Cond := [Cond.fieldLink RX1 19 "HedgeGame$Lengths" "outcomes" "LHedgeGame$Outcomes;", Cond.fieldLink RX1 15 "HedgeGame$Lengths" "rules" "LHedgeGame$Rules;", Cond.fieldLink RX1 9 "HedgeGame$Lengths" "cuts" "[I", Cond.methodLink RX1 27 yX4_isWonBy, Cond.instanceMethod yX4_isWonBy, Cond.selects RX4 yX4_isWonBy yX4_isWonBy, Cond.initialized RX4, Cond.code yX4_isWonBy cX4_isWonBy 3 (some .boolean), Cond.fieldLink RX4 11 "HedgeGame$Outcomes" "won" "[J", Cond.constantLong RX4 23 (1099511627776), Cond.static yX10_place, Cond.initialized RX10, Cond.code yX10_place cX10_place 2 (some .int), Cond.methodLink RX1 33 yX6_choices, Cond.instanceMethod yX6_choices, Cond.selects RX6 yX6_choices yX6_choices, Cond.initialized RX6, Cond.code yX6_choices cX6_choices 5 (some .int), Cond.fieldLink RX6 9 "HedgeGame$Rules" "shape" "LHedgeGame$Shape;", Cond.fieldLink RX6 15 "HedgeGame$Rules" "now" "LHedgeGame$Moment;", Cond.methodLink RX6 29 yX6_kindsCutBy, Cond.instanceMethod yX6_kindsCutBy, Cond.selects RX6 yX6_kindsCutBy yX6_kindsCutBy, Cond.code yX6_kindsCutBy cX6_kindsCutBy 5 (some .int)]
def wsX1_bestCut_r2 : List Cond := [Cond.methodLink RX1 48 yX6_leftBy, Cond.instanceMethod yX6_leftBy, Cond.selects RX6 yX6_leftBy yX6_leftBy, Cond.code yX6_leftBy cX6_leftBy 3 (some .int)]
def wsX1_bestCut : List Cond := .code yX1_bestCut cX1_bestCut 9 (some .int) :: ((wsX1_bestCut_r1 ++ wsX1_bestCut_r2) ++ wsX10 ++ wsX60 ++ wsX80 ++ wsX40 ++ wsX30)
def wsX1_enter_r1 : List Cond := [Cond.fieldLink RX1 19 "HedgeGame$Lengths" "outcomes" "LHedgeGame$Outcomes;", Cond.fieldLink RX1 15 "HedgeGame$Lengths" "rules" "LHedgeGame$Rules;", Cond.fieldLink RX1 9 "HedgeGame$Lengths" "cuts" "[I", Cond.methodLink RX1 51 Lib.Math.max.name, Cond.static Lib.Math.max.name, Cond.initialized "java/lang/Math", Cond.code Lib.Math.max.name Lib.Math.max.code 2 (some .int), Cond.methodLink RX1 56 Lib.Math.min.name, Cond.static Lib.Math.min.name, Cond.code Lib.Math.min.name Lib.Math.min.code 2 (some .int), Cond.methodLink RX1 27 yX4_isWonBy, Cond.instanceMethod yX4_isWonBy, Cond.selects RX4 yX4_isWonBy yX4_isWonBy, Cond.initialized RX4, Cond.code yX4_isWonBy cX4_isWonBy 3 (some .boolean), Cond.fieldLink RX4 11 "HedgeGame$Outcomes" "won" "[J", Cond.constantLong RX4 23 (1099511627776), Cond.static yX10_place, Cond.initialized RX10, Cond.code yX10_place cX10_place 2 (some .int), Cond.methodLink RX1 48 yX6_leftBy, Cond.instanceMethod yX6_leftBy, Cond.selects RX6 yX6_leftBy yX6_leftBy, Cond.initialized RX6]
def wsX1_enter_r2 : List Cond := [Cond.code yX6_leftBy cX6_leftBy 3 (some .int), Cond.fieldLink RX6 9 "HedgeGame$Rules" "shape" "LHedgeGame$Shape;"]
def wsX1_enter : List Cond := .code yX1_enter cX1_enter 9 none :: ((wsX1_enter_r1 ++ wsX1_enter_r2) ++ wsX10 ++ wsX60 ++ wsX80 ++ wsX40)
def wsX2_init : List Cond := .code yX2_init cX2_init 2 none :: ([.methodLink RX2 3 objectInit, .instanceMethod objectInit, .code objectInit ⟨#[0xb1]⟩ 1 none, .fieldLink RX2 9 "HedgeGame$Lottery" "seed" "I", .fieldLink RX2 15 "HedgeGame$Lottery" "whiteWon" "I", .fieldLink RX2 18 "HedgeGame$Lottery" "cutsDone" "I", .fieldLink RX2 21 "HedgeGame$Lottery" "rules" "LHedgeGame$Rules;"] ++ wsX20)
def wsX2_draw : List Cond := .code yX2_draw cX2_draw 2 (some .int) :: ([.constantLong RX2 49 (1103515245), .fieldLink RX2 9 "HedgeGame$Lottery" "seed" "I", .constantLong RX2 51 (12345), .constantLong RX2 53 (2147483648), .constant RX2 55 (65536)] ++ wsX20)
def wsX2_drawFrom : List Cond := .code yX2_drawFrom cX2_drawFrom 4 (some .int) :: ([.methodLink RX2 41 yJ6_bitCount_0f7a4, .static yJ6_bitCount_0f7a4, .initialized RJ6, .code yJ6_bitCount_0f7a4 cJ6_bitCount_0f7a4 1 (some .int), .constant RJ6 265 (1431655765), .constant RJ6 266 (858993459), .constant RJ6 267 (252645135), .methodLink RX2 46 yX2_draw, .instanceMethod yX2_draw, .selects RX2 yX2_draw yX2_draw, .initialized RX2, .code yX2_draw cX2_draw 2 (some .int), .constantLong RX2 49 (1103515245), .fieldLink RX2 9 "HedgeGame$Lottery" "seed" "I", .constantLong RX2 51 (12345), .constantLong RX2 53 (2147483648), .constant RX2 55 (65536)] ++ wsX20)
def wsX2_winnerOf_r1 : List Cond := [Cond.fieldLink RX2 21 "HedgeGame$Lottery" "rules" "LHedgeGame$Rules;", Cond.fieldLink RX2 18 "HedgeGame$Lottery" "cutsDone" "I", Cond.methodLink RX2 29 yX6_choices, Cond.instanceMethod yX6_choices, Cond.selects RX6 yX6_choices yX6_choices, Cond.initialized RX6, Cond.code yX6_choices cX6_choices 5 (some .int), Cond.fieldLink RX6 9 "HedgeGame$Rules" "shape" "LHedgeGame$Shape;", Cond.fieldLink RX6 15 "HedgeGame$Rules" "now" "LHedgeGame$Moment;", Cond.methodLink RX6 29 yX6_kindsCutBy, Cond.instanceMethod yX6_kindsCutBy, Cond.selects RX6 yX6_kindsCutBy yX6_kindsCutBy, Cond.code yX6_kindsCutBy cX6_kindsCutBy 5 (some .int), Cond.methodLink RX2 34 yX2_drawFrom, Cond.instanceMethod yX2_drawFrom, Cond.selects RX2 yX2_drawFrom yX2_drawFrom, Cond.initialized RX2, Cond.code yX2_drawFrom cX2_drawFrom 4 (some .int), Cond.methodLink RX2 41 yJ6_bitCount_0f7a4, Cond.static yJ6_bitCount_0f7a4, Cond.initialized RJ6, Cond.code yJ6_bitCount_0f7a4 cJ6_bitCount_0f7a4 1 (some .int), Cond.constant RJ6 265 (1431655765), Cond.constant RJ6 266 (858993459)]
def wsX2_winnerOf_r2 : List Cond := [Cond.constant RJ6 267 (252645135), Cond.methodLink RX2 46 yX2_draw, Cond.instanceMethod yX2_draw, Cond.selects RX2 yX2_draw yX2_draw, Cond.code yX2_draw cX2_draw 2 (some .int), Cond.constantLong RX2 49 (1103515245), Cond.fieldLink RX2 9 "HedgeGame$Lottery" "seed" "I", Cond.constantLong RX2 51 (12345), Cond.constantLong RX2 53 (2147483648), Cond.constant RX2 55 (65536), Cond.methodLink RX2 38 yX6_leftBy, Cond.instanceMethod yX6_leftBy, Cond.selects RX6 yX6_leftBy yX6_leftBy, Cond.code yX6_leftBy cX6_leftBy 3 (some .int)]
def wsX2_winnerOf : List Cond := .code yX2_winnerOf cX2_winnerOf 7 (some .int) :: ((wsX2_winnerOf_r1 ++ wsX2_winnerOf_r2) ++ wsX20 ++ wsX60 ++ wsX80 ++ wsX30)
def wsX2_playAll_r1 : List Cond := [Cond.fieldLink RX2 9 "HedgeGame$Lottery" "seed" "I", Cond.fieldLink RX2 15 "HedgeGame$Lottery" "whiteWon" "I", Cond.fieldLink RX2 18 "HedgeGame$Lottery" "cutsDone" "I", Cond.methodLink RX2 25 yX2_winnerOf, Cond.instanceMethod yX2_winnerOf, Cond.selects RX2 yX2_winnerOf yX2_winnerOf, Cond.initialized RX2, Cond.code yX2_winnerOf cX2_winnerOf 7 (some .int), Cond.fieldLink RX2 21 "HedgeGame$Lottery" "rules" "LHedgeGame$Rules;", Cond.methodLink RX2 29 yX6_choices, Cond.instanceMethod yX6_choices, Cond.selects RX6 yX6_choices yX6_choices, Cond.initialized RX6, Cond.code yX6_choices cX6_choices 5 (some .int), Cond.fieldLink RX6 9 "HedgeGame$Rules" "shape" "LHedgeGame$Shape;", Cond.fieldLink RX6 15 "HedgeGame$Rules" "now" "LHedgeGame$Moment;", Cond.methodLink RX6 29 yX6_kindsCutBy, Cond.instanceMethod yX6_kindsCutBy, Cond.selects RX6 yX6_kindsCutBy yX6_kindsCutBy, Cond.code yX6_kindsCutBy cX6_kindsCutBy 5 (some .int), Cond.methodLink RX2 34 yX2_drawFrom, Cond.instanceMethod yX2_drawFrom, Cond.selects RX2 yX2_drawFrom yX2_drawFrom, Cond.code yX2_drawFrom cX2_drawFrom 4 (some .int)]
def wsX2_playAll_r2 : List Cond := [Cond.methodLink RX2 41 yJ6_bitCount_0f7a4, Cond.static yJ6_bitCount_0f7a4, Cond.initialized RJ6, Cond.code yJ6_bitCount_0f7a4 cJ6_bitCount_0f7a4 1 (some .int), Cond.constant RJ6 265 (1431655765), Cond.constant RJ6 266 (858993459), Cond.constant RJ6 267 (252645135), Cond.methodLink RX2 46 yX2_draw, Cond.instanceMethod yX2_draw, Cond.selects RX2 yX2_draw yX2_draw, Cond.code yX2_draw cX2_draw 2 (some .int), Cond.constantLong RX2 49 (1103515245), Cond.constantLong RX2 51 (12345), Cond.constantLong RX2 53 (2147483648), Cond.constant RX2 55 (65536), Cond.methodLink RX2 38 yX6_leftBy, Cond.instanceMethod yX6_leftBy, Cond.selects RX6 yX6_leftBy yX6_leftBy, Cond.code yX6_leftBy cX6_leftBy 3 (some .int)]
def wsX2_playAll : List Cond := .code yX2_playAll cX2_playAll 5 none :: ((wsX2_playAll_r1 ++ wsX2_playAll_r2) ++ wsX20 ++ wsX60 ++ wsX80 ++ wsX30)
def wsX7_init : List Cond := .code yX7_init cX7_init 1 none :: ([.methodLink RX7 3 objectInit, .instanceMethod objectInit, .code objectInit ⟨#[0xb1]⟩ 1 none, .fieldLink RX7 9 "HedgeGame$Seen" "size" "I", .arrayClass .int, .fieldLink RX7 15 "HedgeGame$Seen" "branches" "[I", .fieldLink RX7 19 "HedgeGame$Seen" "beginners" "[I", .arrayClass .boolean, .fieldLink RX7 22 "HedgeGame$Seen" "won" "[Z"] ++ wsX70)
def wsX3_init : List Cond := .code yX3_init cX3_init 1 none :: ([.methodLink RX3 3 objectInit, .instanceMethod objectInit, .code objectInit ⟨#[0xb1]⟩ 1 none, .arrayClass .int, .fieldLink RX3 9 "HedgeGame$Moment" "kinds" "[I", .fieldLink RX3 15 "HedgeGame$Moment" "standing" "I", .fieldLink RX3 19 "HedgeGame$Moment" "turn" "I", .fieldLink RX3 22 "HedgeGame$Moment" "cuts" "I", .classLink RX3 25 RX7, .instantiable RX7 4, .initialized RX7, .fieldLink RX3 28 "HedgeGame$Moment" "seen" "LHedgeGame$Seen;", .methodLink RX3 27 yX7_init, .instanceMethod yX7_init, .code yX7_init cX7_init 1 none, .methodLink RX7 3 objectInit, .fieldLink RX7 9 "HedgeGame$Seen" "size" "I", .fieldLink RX7 15 "HedgeGame$Seen" "branches" "[I", .fieldLink RX7 19 "HedgeGame$Seen" "beginners" "[I", .arrayClass .boolean, .fieldLink RX7 22 "HedgeGame$Seen" "won" "[Z"] ++ wsX30 ++ wsX70)
def wsX5_at : List Cond := .code yX5_at cX5_at 2 (some .char) :: ([.fieldLink RX5 15 "HedgeGame$Page" "length" "I", .fieldLink RX5 9 "HedgeGame$Page" "letters" "[C"] ++ wsX50)
def wsJ0_isLatin1_aae02 : List Cond := .code yJ0_isLatin1_aae02 cJ0_isLatin1_aae02 1 (some .boolean) :: ([.fieldLink RJ0 38 "java/lang/String" "COMPACT_STRINGS" "Z", .fieldLink RJ0 15 "java/lang/String" "coder" "B"])
def wsJ0_coder_7d493 : List Cond := .code yJ0_coder_7d493 cJ0_coder_7d493 1 (some .byte) :: ([.fieldLink RJ0 38 "java/lang/String" "COMPACT_STRINGS" "Z", .fieldLink RJ0 15 "java/lang/String" "coder" "B"])
def wsJ0_length_8abf5 : List Cond := .code yJ0_length_8abf5 cJ0_length_8abf5 1 (some .int) :: ([.fieldLink RJ0 9 "java/lang/String" "value" "[B", .methodLink RJ0 335 yJ0_coder_7d493, .instanceMethod yJ0_coder_7d493, .selects RJ0 yJ0_coder_7d493 yJ0_coder_7d493, .initialized RJ0, .code yJ0_coder_7d493 cJ0_coder_7d493 1 (some .byte), .fieldLink RJ0 38 "java/lang/String" "COMPACT_STRINGS" "Z", .fieldLink RJ0 15 "java/lang/String" "coder" "B"])
def wsJ1_canEncode_9a6ad : List Cond := .code yJ1_canEncode_9a6ad cJ1_canEncode_9a6ad 1 (some .boolean) :: ([])
def wsJ1_indexOfChar_4cfef : List Cond := .code yJ1_indexOfChar_4cfef cJ1_indexOfChar_4cfef 6 (some .int) :: ([])
def wsJ1_indexOf_4cfef : List Cond := .code yJ1_indexOf_4cfef cJ1_indexOf_4cfef 4 (some .int) :: ([.methodLink RJ1 92 Lib.Math.max.name, .static Lib.Math.max.name, .initialized "java/lang/Math", .code Lib.Math.max.name Lib.Math.max.code 2 (some .int), .methodLink RJ1 38 Lib.Math.min.name, .static Lib.Math.min.name, .code Lib.Math.min.name Lib.Math.min.code 2 (some .int), .methodLink RJ1 88 yJ1_canEncode_9a6ad, .static yJ1_canEncode_9a6ad, .initialized RJ1, .code yJ1_canEncode_9a6ad cJ1_canEncode_9a6ad 1 (some .boolean), .methodLink RJ1 95 yJ1_indexOfChar_4cfef, .static yJ1_indexOfChar_4cfef, .code yJ1_indexOfChar_4cfef cJ1_indexOfChar_4cfef 6 (some .int)])
def wsJ2_length_9d52b : List Cond := .code yJ2_length_9d52b cJ2_length_9d52b 1 (some .int) :: ([])
def wsJ3_checkFromToIndex_8c36e : List Cond := .code yJ3_checkFromToIndex_8c36e cJ3_checkFromToIndex_8c36e 4 (some .int) :: ([])
def wsJ0_checkBoundsBeginEnd_23922 : List Cond := .code yJ0_checkBoundsBeginEnd_23922 cJ0_checkBoundsBeginEnd_23922 3 none :: ([.fieldLink RJ0 1053 "jdk/internal/util/Preconditions" "SIOOBE_FORMATTER" "Ljava/util/function/BiFunction;", .methodLink RJ0 1062 yJ3_checkFromToIndex_8c36e, .static yJ3_checkFromToIndex_8c36e, .initialized RJ3, .code yJ3_checkFromToIndex_8c36e cJ3_checkFromToIndex_8c36e 4 (some .int)])
def wsJ2_checkBoundsBeginEnd_d044e : List Cond := .code yJ2_checkBoundsBeginEnd_d044e cJ2_checkBoundsBeginEnd_d044e 3 none :: ([.methodLink RJ2 48 yJ2_length_9d52b, .static yJ2_length_9d52b, .initialized RJ2, .code yJ2_length_9d52b cJ2_length_9d52b 1 (some .int), .methodLink RJ2 241 yJ0_checkBoundsBeginEnd_23922, .static yJ0_checkBoundsBeginEnd_23922, .initialized RJ0, .code yJ0_checkBoundsBeginEnd_23922 cJ0_checkBoundsBeginEnd_23922 3 none, .fieldLink RJ0 1053 "jdk/internal/util/Preconditions" "SIOOBE_FORMATTER" "Ljava/util/function/BiFunction;", .methodLink RJ0 1062 yJ3_checkFromToIndex_8c36e, .static yJ3_checkFromToIndex_8c36e, .initialized RJ3, .code yJ3_checkFromToIndex_8c36e cJ3_checkFromToIndex_8c36e 4 (some .int)])
def wsJ2_getChar_3b067 : List Cond := .code yJ2_getChar_3b067 cJ2_getChar_3b067 2 (some .char) :: ([.fieldLink RJ2 44 "java/lang/StringUTF16" "$assertionsDisabled" "Z", .fieldLink RJ2 59 "java/lang/StringUTF16" "HI_BYTE_SHIFT" "I", .fieldLink RJ2 63 "java/lang/StringUTF16" "LO_BYTE_SHIFT" "I", .methodLink RJ2 48 yJ2_length_9d52b, .static yJ2_length_9d52b, .initialized RJ2, .code yJ2_length_9d52b cJ2_length_9d52b 1 (some .int)])
def wsJ2_indexOfCharUnsafe_4cfef : List Cond := .code yJ2_indexOfCharUnsafe_4cfef cJ2_indexOfCharUnsafe_4cfef 5 (some .int) :: ([.methodLink RJ2 71 yJ2_getChar_3b067, .static yJ2_getChar_3b067, .initialized RJ2, .code yJ2_getChar_3b067 cJ2_getChar_3b067 2 (some .char), .fieldLink RJ2 44 "java/lang/StringUTF16" "$assertionsDisabled" "Z", .fieldLink RJ2 59 "java/lang/StringUTF16" "HI_BYTE_SHIFT" "I", .fieldLink RJ2 63 "java/lang/StringUTF16" "LO_BYTE_SHIFT" "I", .methodLink RJ2 48 yJ2_length_9d52b, .static yJ2_length_9d52b, .code yJ2_length_9d52b cJ2_length_9d52b 1 (some .int)])
def wsJ2_indexOfChar_4cfef_r1 : List Cond := [Cond.methodLink RJ2 96 yJ2_checkBoundsBeginEnd_d044e, Cond.static yJ2_checkBoundsBeginEnd_d044e, Cond.initialized RJ2, Cond.code yJ2_checkBoundsBeginEnd_d044e cJ2_checkBoundsBeginEnd_d044e 3 none, Cond.methodLink RJ2 48 yJ2_length_9d52b, Cond.static yJ2_length_9d52b, Cond.code yJ2_length_9d52b cJ2_length_9d52b 1 (some .int), Cond.methodLink RJ2 241 yJ0_checkBoundsBeginEnd_23922, Cond.static yJ0_checkBoundsBeginEnd_23922, Cond.initialized RJ0, Cond.code yJ0_checkBoundsBeginEnd_23922 cJ0_checkBoundsBeginEnd_23922 3 none, Cond.fieldLink RJ0 1053 "jdk/internal/util/Preconditions" "SIOOBE_FORMATTER" "Ljava/util/function/BiFunction;", Cond.methodLink RJ0 1062 yJ3_checkFromToIndex_8c36e, Cond.static yJ3_checkFromToIndex_8c36e, Cond.initialized RJ3, Cond.code yJ3_checkFromToIndex_8c36e cJ3_checkFromToIndex_8c36e 4 (some .int), Cond.methodLink RJ2 244 yJ2_indexOfCharUnsafe_4cfef, Cond.static yJ2_indexOfCharUnsafe_4cfef, Cond.code yJ2_indexOfCharUnsafe_4cfef cJ2_indexOfCharUnsafe_4cfef 5 (some .int), Cond.methodLink RJ2 71 yJ2_getChar_3b067, Cond.static yJ2_getChar_3b067, Cond.code yJ2_getChar_3b067 cJ2_getChar_3b067 2 (some .char), Cond.fieldLink RJ2 44 "java/lang/StringUTF16" "$assertionsDisabled" "Z", Cond.fieldLink RJ2 59 "java/lang/StringUTF16" "HI_BYTE_SHIFT" "I"]
def wsJ2_indexOfChar_4cfef_r2 : List Cond := [Cond.fieldLink RJ2 63 "java/lang/StringUTF16" "LO_BYTE_SHIFT" "I"]
def wsJ2_indexOfChar_4cfef : List Cond := .code yJ2_indexOfChar_4cfef cJ2_indexOfChar_4cfef 4 (some .int) :: ((wsJ2_indexOfChar_4cfef_r1 ++ wsJ2_indexOfChar_4cfef_r2))
def wsJ11_isValidCodePoint_9a6ad : List Cond := .code yJ11_isValidCodePoint_9a6ad cJ11_isValidCodePoint_9a6ad 2 (some .boolean) :: ([])
def wsJ11_highSurrogate_5068e : List Cond := .code yJ11_highSurrogate_5068e cJ11_highSurrogate_5068e 1 (some .char) :: ([.constant RJ11 110 (55232)])
def wsJ11_lowSurrogate_5068e : List Cond := .code yJ11_lowSurrogate_5068e cJ11_lowSurrogate_5068e 1 (some .char) :: ([.constant RJ11 76 (56320)])
def wsJ2_indexOfSupplementary_4cfef_r1 : List Cond := [Cond.methodLink RJ2 164 yJ11_isValidCodePoint_9a6ad, Cond.static yJ11_isValidCodePoint_9a6ad, Cond.initialized RJ11, Cond.code yJ11_isValidCodePoint_9a6ad cJ11_isValidCodePoint_9a6ad 2 (some .boolean), Cond.methodLink RJ2 157 yJ11_highSurrogate_5068e, Cond.static yJ11_highSurrogate_5068e, Cond.code yJ11_highSurrogate_5068e cJ11_highSurrogate_5068e 1 (some .char), Cond.constant RJ11 110 (55232), Cond.methodLink RJ2 161 yJ11_lowSurrogate_5068e, Cond.static yJ11_lowSurrogate_5068e, Cond.code yJ11_lowSurrogate_5068e cJ11_lowSurrogate_5068e 1 (some .char), Cond.constant RJ11 76 (56320), Cond.methodLink RJ2 96 yJ2_checkBoundsBeginEnd_d044e, Cond.static yJ2_checkBoundsBeginEnd_d044e, Cond.initialized RJ2, Cond.code yJ2_checkBoundsBeginEnd_d044e cJ2_checkBoundsBeginEnd_d044e 3 none, Cond.methodLink RJ2 48 yJ2_length_9d52b, Cond.static yJ2_length_9d52b, Cond.code yJ2_length_9d52b cJ2_length_9d52b 1 (some .int), Cond.methodLink RJ2 241 yJ0_checkBoundsBeginEnd_23922, Cond.static yJ0_checkBoundsBeginEnd_23922, Cond.initialized RJ0, Cond.code yJ0_checkBoundsBeginEnd_23922 cJ0_checkBoundsBeginEnd_23922 3 none, Cond.fieldLink RJ0 1053 "jdk/internal/util/Preconditions" "SIOOBE_FORMATTER" "Ljava/util/function/BiFunction;"]
def wsJ2_indexOfSupplementary_4cfef_r2 : List Cond := [Cond.methodLink RJ0 1062 yJ3_checkFromToIndex_8c36e, Cond.static yJ3_checkFromToIndex_8c36e, Cond.initialized RJ3, Cond.code yJ3_checkFromToIndex_8c36e cJ3_checkFromToIndex_8c36e 4 (some .int), Cond.methodLink RJ2 71 yJ2_getChar_3b067, Cond.static yJ2_getChar_3b067, Cond.code yJ2_getChar_3b067 cJ2_getChar_3b067 2 (some .char), Cond.fieldLink RJ2 44 "java/lang/StringUTF16" "$assertionsDisabled" "Z", Cond.fieldLink RJ2 59 "java/lang/StringUTF16" "HI_BYTE_SHIFT" "I", Cond.fieldLink RJ2 63 "java/lang/StringUTF16" "LO_BYTE_SHIFT" "I"]
def wsJ2_indexOfSupplementary_4cfef : List Cond := .code yJ2_indexOfSupplementary_4cfef cJ2_indexOfSupplementary_4cfef 7 (some .int) :: ((wsJ2_indexOfSupplementary_4cfef_r1 ++ wsJ2_indexOfSupplementary_4cfef_r2))
def wsJ2_indexOf_4cfef_r1 : List Cond := [Cond.methodLink RJ2 224 Lib.Math.max.name, Cond.static Lib.Math.max.name, Cond.initialized "java/lang/Math", Cond.code Lib.Math.max.name Lib.Math.max.code 2 (some .int), Cond.methodLink RJ2 183 Lib.Math.min.name, Cond.static Lib.Math.min.name, Cond.code Lib.Math.min.name Lib.Math.min.code 2 (some .int), Cond.constant RJ2 227 (65536), Cond.methodLink RJ2 228 yJ2_indexOfChar_4cfef, Cond.static yJ2_indexOfChar_4cfef, Cond.initialized RJ2, Cond.code yJ2_indexOfChar_4cfef cJ2_indexOfChar_4cfef 4 (some .int), Cond.methodLink RJ2 96 yJ2_checkBoundsBeginEnd_d044e, Cond.static yJ2_checkBoundsBeginEnd_d044e, Cond.code yJ2_checkBoundsBeginEnd_d044e cJ2_checkBoundsBeginEnd_d044e 3 none, Cond.methodLink RJ2 48 yJ2_length_9d52b, Cond.static yJ2_length_9d52b, Cond.code yJ2_length_9d52b cJ2_length_9d52b 1 (some .int), Cond.methodLink RJ2 241 yJ0_checkBoundsBeginEnd_23922, Cond.static yJ0_checkBoundsBeginEnd_23922, Cond.initialized RJ0, Cond.code yJ0_checkBoundsBeginEnd_23922 cJ0_checkBoundsBeginEnd_23922 3 none, Cond.fieldLink RJ0 1053 "jdk/internal/util/Preconditions" "SIOOBE_FORMATTER" "Ljava/util/function/BiFunction;", Cond.methodLink RJ0 1062 yJ3_checkFromToIndex_8c36e]
def wsJ2_indexOf_4cfef_r2 : List Cond := [Cond.static yJ3_checkFromToIndex_8c36e, Cond.initialized RJ3, Cond.code yJ3_checkFromToIndex_8c36e cJ3_checkFromToIndex_8c36e 4 (some .int), Cond.methodLink RJ2 244 yJ2_indexOfCharUnsafe_4cfef, Cond.static yJ2_indexOfCharUnsafe_4cfef, Cond.code yJ2_indexOfCharUnsafe_4cfef cJ2_indexOfCharUnsafe_4cfef 5 (some .int), Cond.methodLink RJ2 71 yJ2_getChar_3b067, Cond.static yJ2_getChar_3b067, Cond.code yJ2_getChar_3b067 cJ2_getChar_3b067 2 (some .char), Cond.fieldLink RJ2 44 "java/lang/StringUTF16" "$assertionsDisabled" "Z", Cond.fieldLink RJ2 59 "java/lang/StringUTF16" "HI_BYTE_SHIFT" "I", Cond.fieldLink RJ2 63 "java/lang/StringUTF16" "LO_BYTE_SHIFT" "I", Cond.methodLink RJ2 232 yJ2_indexOfSupplementary_4cfef, Cond.static yJ2_indexOfSupplementary_4cfef, Cond.code yJ2_indexOfSupplementary_4cfef cJ2_indexOfSupplementary_4cfef 7 (some .int), Cond.methodLink RJ2 164 yJ11_isValidCodePoint_9a6ad, Cond.static yJ11_isValidCodePoint_9a6ad, Cond.initialized RJ11, Cond.code yJ11_isValidCodePoint_9a6ad cJ11_isValidCodePoint_9a6ad 2 (some .boolean), Cond.methodLink RJ2 157 yJ11_highSurrogate_5068e, Cond.static yJ11_highSurrogate_5068e, Cond.code yJ11_highSurrogate_5068e cJ11_highSurrogate_5068e 1 (some .char), Cond.constant RJ11 110 (55232), Cond.methodLink RJ2 161 yJ11_lowSurrogate_5068e]
def wsJ2_indexOf_4cfef_r3 : List Cond := [Cond.static yJ11_lowSurrogate_5068e, Cond.code yJ11_lowSurrogate_5068e cJ11_lowSurrogate_5068e 1 (some .char), Cond.constant RJ11 76 (56320)]
def wsJ2_indexOf_4cfef : List Cond := .code yJ2_indexOf_4cfef cJ2_indexOf_4cfef 4 (some .int) :: ((wsJ2_indexOf_4cfef_r1 ++ (wsJ2_indexOf_4cfef_r2 ++ wsJ2_indexOf_4cfef_r3)))
def wsJ0_indexOf_7cf53_r1 : List Cond := [Cond.fieldLink RJ0 9 "java/lang/String" "value" "[B", Cond.methodLink RJ0 492 yJ0_isLatin1_aae02, Cond.instanceMethod yJ0_isLatin1_aae02, Cond.selects RJ0 yJ0_isLatin1_aae02 yJ0_isLatin1_aae02, Cond.initialized RJ0, Cond.code yJ0_isLatin1_aae02 cJ0_isLatin1_aae02 1 (some .boolean), Cond.fieldLink RJ0 38 "java/lang/String" "COMPACT_STRINGS" "Z", Cond.fieldLink RJ0 15 "java/lang/String" "coder" "B", Cond.methodLink RJ0 505 yJ0_length_8abf5, Cond.instanceMethod yJ0_length_8abf5, Cond.selects RJ0 yJ0_length_8abf5 yJ0_length_8abf5, Cond.code yJ0_length_8abf5 cJ0_length_8abf5 1 (some .int), Cond.methodLink RJ0 335 yJ0_coder_7d493, Cond.instanceMethod yJ0_coder_7d493, Cond.selects RJ0 yJ0_coder_7d493 yJ0_coder_7d493, Cond.code yJ0_coder_7d493 cJ0_coder_7d493 1 (some .byte), Cond.methodLink RJ0 637 yJ1_indexOf_4cfef, Cond.static yJ1_indexOf_4cfef, Cond.initialized RJ1, Cond.code yJ1_indexOf_4cfef cJ1_indexOf_4cfef 4 (some .int), Cond.methodLink RJ1 92 Lib.Math.max.name, Cond.static Lib.Math.max.name, Cond.initialized "java/lang/Math", Cond.code Lib.Math.max.name Lib.Math.max.code 2 (some .int)]
def wsJ0_indexOf_7cf53_r2 : List Cond := [Cond.methodLink RJ1 38 Lib.Math.min.name, Cond.static Lib.Math.min.name, Cond.code Lib.Math.min.name Lib.Math.min.code 2 (some .int), Cond.methodLink RJ1 88 yJ1_canEncode_9a6ad, Cond.static yJ1_canEncode_9a6ad, Cond.code yJ1_canEncode_9a6ad cJ1_canEncode_9a6ad 1 (some .boolean), Cond.methodLink RJ1 95 yJ1_indexOfChar_4cfef, Cond.static yJ1_indexOfChar_4cfef, Cond.code yJ1_indexOfChar_4cfef cJ1_indexOfChar_4cfef 6 (some .int), Cond.methodLink RJ0 640 yJ2_indexOf_4cfef, Cond.static yJ2_indexOf_4cfef, Cond.initialized RJ2, Cond.code yJ2_indexOf_4cfef cJ2_indexOf_4cfef 4 (some .int), Cond.methodLink RJ2 224 Lib.Math.max.name, Cond.methodLink RJ2 183 Lib.Math.min.name, Cond.constant RJ2 227 (65536), Cond.methodLink RJ2 228 yJ2_indexOfChar_4cfef, Cond.static yJ2_indexOfChar_4cfef, Cond.code yJ2_indexOfChar_4cfef cJ2_indexOfChar_4cfef 4 (some .int), Cond.methodLink RJ2 96 yJ2_checkBoundsBeginEnd_d044e, Cond.static yJ2_checkBoundsBeginEnd_d044e, Cond.code yJ2_checkBoundsBeginEnd_d044e cJ2_checkBoundsBeginEnd_d044e 3 none, Cond.methodLink RJ2 48 yJ2_length_9d52b, Cond.static yJ2_length_9d52b]
def wsJ0_indexOf_7cf53_r3 : List Cond := [Cond.code yJ2_length_9d52b cJ2_length_9d52b 1 (some .int), Cond.methodLink RJ2 241 yJ0_checkBoundsBeginEnd_23922, Cond.static yJ0_checkBoundsBeginEnd_23922, Cond.code yJ0_checkBoundsBeginEnd_23922 cJ0_checkBoundsBeginEnd_23922 3 none, Cond.fieldLink RJ0 1053 "jdk/internal/util/Preconditions" "SIOOBE_FORMATTER" "Ljava/util/function/BiFunction;", Cond.methodLink RJ0 1062 yJ3_checkFromToIndex_8c36e, Cond.static yJ3_checkFromToIndex_8c36e, Cond.initialized RJ3, Cond.code yJ3_checkFromToIndex_8c36e cJ3_checkFromToIndex_8c36e 4 (some .int), Cond.methodLink RJ2 244 yJ2_indexOfCharUnsafe_4cfef, Cond.static yJ2_indexOfCharUnsafe_4cfef, Cond.code yJ2_indexOfCharUnsafe_4cfef cJ2_indexOfCharUnsafe_4cfef 5 (some .int), Cond.methodLink RJ2 71 yJ2_getChar_3b067, Cond.static yJ2_getChar_3b067, Cond.code yJ2_getChar_3b067 cJ2_getChar_3b067 2 (some .char), Cond.fieldLink RJ2 44 "java/lang/StringUTF16" "$assertionsDisabled" "Z", Cond.fieldLink RJ2 59 "java/lang/StringUTF16" "HI_BYTE_SHIFT" "I", Cond.fieldLink RJ2 63 "java/lang/StringUTF16" "LO_BYTE_SHIFT" "I", Cond.methodLink RJ2 232 yJ2_indexOfSupplementary_4cfef, Cond.static yJ2_indexOfSupplementary_4cfef, Cond.code yJ2_indexOfSupplementary_4cfef cJ2_indexOfSupplementary_4cfef 7 (some .int), Cond.methodLink RJ2 164 yJ11_isValidCodePoint_9a6ad, Cond.static yJ11_isValidCodePoint_9a6ad, Cond.initialized RJ11]
def wsJ0_indexOf_7cf53_r4 : List Cond := [Cond.code yJ11_isValidCodePoint_9a6ad cJ11_isValidCodePoint_9a6ad 2 (some .boolean), Cond.methodLink RJ2 157 yJ11_highSurrogate_5068e, Cond.static yJ11_highSurrogate_5068e, Cond.code yJ11_highSurrogate_5068e cJ11_highSurrogate_5068e 1 (some .char), Cond.constant RJ11 110 (55232), Cond.methodLink RJ2 161 yJ11_lowSurrogate_5068e, Cond.static yJ11_lowSurrogate_5068e, Cond.code yJ11_lowSurrogate_5068e cJ11_lowSurrogate_5068e 1 (some .char), Cond.constant RJ11 76 (56320)]
def wsJ0_indexOf_7cf53 : List Cond := .code yJ0_indexOf_7cf53 cJ0_indexOf_7cf53 3 (some .int) :: ((wsJ0_indexOf_7cf53_r1 ++ (wsJ0_indexOf_7cf53_r2 ++ (wsJ0_indexOf_7cf53_r3 ++ wsJ0_indexOf_7cf53_r4))))
def wsJ0_indexOf_0f7a4_r1 : List Cond := [Cond.methodLink RJ0 633 yJ0_indexOf_7cf53, Cond.instanceMethod yJ0_indexOf_7cf53, Cond.selects RJ0 yJ0_indexOf_7cf53 yJ0_indexOf_7cf53, Cond.initialized RJ0, Cond.code yJ0_indexOf_7cf53 cJ0_indexOf_7cf53 3 (some .int), Cond.fieldLink RJ0 9 "java/lang/String" "value" "[B", Cond.methodLink RJ0 492 yJ0_isLatin1_aae02, Cond.instanceMethod yJ0_isLatin1_aae02, Cond.selects RJ0 yJ0_isLatin1_aae02 yJ0_isLatin1_aae02, Cond.code yJ0_isLatin1_aae02 cJ0_isLatin1_aae02 1 (some .boolean), Cond.fieldLink RJ0 38 "java/lang/String" "COMPACT_STRINGS" "Z", Cond.fieldLink RJ0 15 "java/lang/String" "coder" "B", Cond.methodLink RJ0 505 yJ0_length_8abf5, Cond.instanceMethod yJ0_length_8abf5, Cond.selects RJ0 yJ0_length_8abf5 yJ0_length_8abf5, Cond.code yJ0_length_8abf5 cJ0_length_8abf5 1 (some .int), Cond.methodLink RJ0 335 yJ0_coder_7d493, Cond.instanceMethod yJ0_coder_7d493, Cond.selects RJ0 yJ0_coder_7d493 yJ0_coder_7d493, Cond.code yJ0_coder_7d493 cJ0_coder_7d493 1 (some .byte), Cond.methodLink RJ0 637 yJ1_indexOf_4cfef, Cond.static yJ1_indexOf_4cfef, Cond.initialized RJ1, Cond.code yJ1_indexOf_4cfef cJ1_indexOf_4cfef 4 (some .int)]
def wsJ0_indexOf_0f7a4_r2 : List Cond := [Cond.methodLink RJ1 92 Lib.Math.max.name, Cond.static Lib.Math.max.name, Cond.initialized "java/lang/Math", Cond.code Lib.Math.max.name Lib.Math.max.code 2 (some .int), Cond.methodLink RJ1 38 Lib.Math.min.name, Cond.static Lib.Math.min.name, Cond.code Lib.Math.min.name Lib.Math.min.code 2 (some .int), Cond.methodLink RJ1 88 yJ1_canEncode_9a6ad, Cond.static yJ1_canEncode_9a6ad, Cond.code yJ1_canEncode_9a6ad cJ1_canEncode_9a6ad 1 (some .boolean), Cond.methodLink RJ1 95 yJ1_indexOfChar_4cfef, Cond.static yJ1_indexOfChar_4cfef, Cond.code yJ1_indexOfChar_4cfef cJ1_indexOfChar_4cfef 6 (some .int), Cond.methodLink RJ0 640 yJ2_indexOf_4cfef, Cond.static yJ2_indexOf_4cfef, Cond.initialized RJ2, Cond.code yJ2_indexOf_4cfef cJ2_indexOf_4cfef 4 (some .int), Cond.methodLink RJ2 224 Lib.Math.max.name, Cond.methodLink RJ2 183 Lib.Math.min.name, Cond.constant RJ2 227 (65536), Cond.methodLink RJ2 228 yJ2_indexOfChar_4cfef, Cond.static yJ2_indexOfChar_4cfef, Cond.code yJ2_indexOfChar_4cfef cJ2_indexOfChar_4cfef 4 (some .int), Cond.methodLink RJ2 96 yJ2_checkBoundsBeginEnd_d044e]
def wsJ0_indexOf_0f7a4_r3 : List Cond := [Cond.static yJ2_checkBoundsBeginEnd_d044e, Cond.code yJ2_checkBoundsBeginEnd_d044e cJ2_checkBoundsBeginEnd_d044e 3 none, Cond.methodLink RJ2 48 yJ2_length_9d52b, Cond.static yJ2_length_9d52b, Cond.code yJ2_length_9d52b cJ2_length_9d52b 1 (some .int), Cond.methodLink RJ2 241 yJ0_checkBoundsBeginEnd_23922, Cond.static yJ0_checkBoundsBeginEnd_23922, Cond.code yJ0_checkBoundsBeginEnd_23922 cJ0_checkBoundsBeginEnd_23922 3 none, Cond.fieldLink RJ0 1053 "jdk/internal/util/Preconditions" "SIOOBE_FORMATTER" "Ljava/util/function/BiFunction;", Cond.methodLink RJ0 1062 yJ3_checkFromToIndex_8c36e, Cond.static yJ3_checkFromToIndex_8c36e, Cond.initialized RJ3, Cond.code yJ3_checkFromToIndex_8c36e cJ3_checkFromToIndex_8c36e 4 (some .int), Cond.methodLink RJ2 244 yJ2_indexOfCharUnsafe_4cfef, Cond.static yJ2_indexOfCharUnsafe_4cfef, Cond.code yJ2_indexOfCharUnsafe_4cfef cJ2_indexOfCharUnsafe_4cfef 5 (some .int), Cond.methodLink RJ2 71 yJ2_getChar_3b067, Cond.static yJ2_getChar_3b067, Cond.code yJ2_getChar_3b067 cJ2_getChar_3b067 2 (some .char), Cond.fieldLink RJ2 44 "java/lang/StringUTF16" "$assertionsDisabled" "Z", Cond.fieldLink RJ2 59 "java/lang/StringUTF16" "HI_BYTE_SHIFT" "I", Cond.fieldLink RJ2 63 "java/lang/StringUTF16" "LO_BYTE_SHIFT" "I", Cond.methodLink RJ2 232 yJ2_indexOfSupplementary_4cfef, Cond.static yJ2_indexOfSupplementary_4cfef]
def wsJ0_indexOf_0f7a4_r4 : List Cond := [Cond.code yJ2_indexOfSupplementary_4cfef cJ2_indexOfSupplementary_4cfef 7 (some .int), Cond.methodLink RJ2 164 yJ11_isValidCodePoint_9a6ad, Cond.static yJ11_isValidCodePoint_9a6ad, Cond.initialized RJ11, Cond.code yJ11_isValidCodePoint_9a6ad cJ11_isValidCodePoint_9a6ad 2 (some .boolean), Cond.methodLink RJ2 157 yJ11_highSurrogate_5068e, Cond.static yJ11_highSurrogate_5068e, Cond.code yJ11_highSurrogate_5068e cJ11_highSurrogate_5068e 1 (some .char), Cond.constant RJ11 110 (55232), Cond.methodLink RJ2 161 yJ11_lowSurrogate_5068e, Cond.static yJ11_lowSurrogate_5068e, Cond.code yJ11_lowSurrogate_5068e cJ11_lowSurrogate_5068e 1 (some .char), Cond.constant RJ11 76 (56320)]
def wsJ0_indexOf_0f7a4 : List Cond := .code yJ0_indexOf_0f7a4 cJ0_indexOf_0f7a4 2 (some .int) :: ((wsJ0_indexOf_0f7a4_r1 ++ (wsJ0_indexOf_0f7a4_r2 ++ (wsJ0_indexOf_0f7a4_r3 ++ wsJ0_indexOf_0f7a4_r4))))
def wsX5_kindAt_r1 : List Cond := [Cond.methodLink RX5 39 Lib.Math.max.name, Cond.static Lib.Math.max.name, Cond.initialized "java/lang/Math", Cond.code Lib.Math.max.name Lib.Math.max.code 2 (some .int), Cond.methodLink RX5 29 yX5_at, Cond.instanceMethod yX5_at, Cond.selects RX5 yX5_at yX5_at, Cond.initialized RX5, Cond.code yX5_at cX5_at 2 (some .char), Cond.fieldLink RX5 15 "HedgeGame$Page" "length" "I", Cond.fieldLink RX5 9 "HedgeGame$Page" "letters" "[C", Cond.methodLink RX5 33 yJ0_indexOf_0f7a4, Cond.instanceMethod yJ0_indexOf_0f7a4, Cond.selects RJ0 yJ0_indexOf_0f7a4 yJ0_indexOf_0f7a4, Cond.initialized RJ0, Cond.code yJ0_indexOf_0f7a4 cJ0_indexOf_0f7a4 2 (some .int), Cond.methodLink RJ0 633 yJ0_indexOf_7cf53, Cond.instanceMethod yJ0_indexOf_7cf53, Cond.selects RJ0 yJ0_indexOf_7cf53 yJ0_indexOf_7cf53, Cond.code yJ0_indexOf_7cf53 cJ0_indexOf_7cf53 3 (some .int), Cond.fieldLink RJ0 9 "java/lang/String" "value" "[B", Cond.methodLink RJ0 492 yJ0_isLatin1_aae02, Cond.instanceMethod yJ0_isLatin1_aae02, Cond.selects RJ0 yJ0_isLatin1_aae02 yJ0_isLatin1_aae02]
def wsX5_kindAt_r2 : List Cond := [Cond.code yJ0_isLatin1_aae02 cJ0_isLatin1_aae02 1 (some .boolean), Cond.fieldLink RJ0 38 "java/lang/String" "COMPACT_STRINGS" "Z", Cond.fieldLink RJ0 15 "java/lang/String" "coder" "B", Cond.methodLink RJ0 505 yJ0_length_8abf5, Cond.instanceMethod yJ0_length_8abf5, Cond.selects RJ0 yJ0_length_8abf5 yJ0_length_8abf5, Cond.code yJ0_length_8abf5 cJ0_length_8abf5 1 (some .int), Cond.methodLink RJ0 335 yJ0_coder_7d493, Cond.instanceMethod yJ0_coder_7d493, Cond.selects RJ0 yJ0_coder_7d493 yJ0_coder_7d493, Cond.code yJ0_coder_7d493 cJ0_coder_7d493 1 (some .byte), Cond.methodLink RJ0 637 yJ1_indexOf_4cfef, Cond.static yJ1_indexOf_4cfef, Cond.initialized RJ1, Cond.code yJ1_indexOf_4cfef cJ1_indexOf_4cfef 4 (some .int), Cond.methodLink RJ1 92 Lib.Math.max.name, Cond.methodLink RJ1 38 Lib.Math.min.name, Cond.static Lib.Math.min.name, Cond.code Lib.Math.min.name Lib.Math.min.code 2 (some .int), Cond.methodLink RJ1 88 yJ1_canEncode_9a6ad, Cond.static yJ1_canEncode_9a6ad, Cond.code yJ1_canEncode_9a6ad cJ1_canEncode_9a6ad 1 (some .boolean), Cond.methodLink RJ1 95 yJ1_indexOfChar_4cfef, Cond.static yJ1_indexOfChar_4cfef]
def wsX5_kindAt_r3 : List Cond := [Cond.code yJ1_indexOfChar_4cfef cJ1_indexOfChar_4cfef 6 (some .int), Cond.methodLink RJ0 640 yJ2_indexOf_4cfef, Cond.static yJ2_indexOf_4cfef, Cond.initialized RJ2, Cond.code yJ2_indexOf_4cfef cJ2_indexOf_4cfef 4 (some .int), Cond.methodLink RJ2 224 Lib.Math.max.name, Cond.methodLink RJ2 183 Lib.Math.min.name, Cond.constant RJ2 227 (65536), Cond.methodLink RJ2 228 yJ2_indexOfChar_4cfef, Cond.static yJ2_indexOfChar_4cfef, Cond.code yJ2_indexOfChar_4cfef cJ2_indexOfChar_4cfef 4 (some .int), Cond.methodLink RJ2 96 yJ2_checkBoundsBeginEnd_d044e, Cond.static yJ2_checkBoundsBeginEnd_d044e, Cond.code yJ2_checkBoundsBeginEnd_d044e cJ2_checkBoundsBeginEnd_d044e 3 none, Cond.methodLink RJ2 48 yJ2_length_9d52b, Cond.static yJ2_length_9d52b, Cond.code yJ2_length_9d52b cJ2_length_9d52b 1 (some .int), Cond.methodLink RJ2 241 yJ0_checkBoundsBeginEnd_23922, Cond.static yJ0_checkBoundsBeginEnd_23922, Cond.code yJ0_checkBoundsBeginEnd_23922 cJ0_checkBoundsBeginEnd_23922 3 none, Cond.fieldLink RJ0 1053 "jdk/internal/util/Preconditions" "SIOOBE_FORMATTER" "Ljava/util/function/BiFunction;", Cond.methodLink RJ0 1062 yJ3_checkFromToIndex_8c36e, Cond.static yJ3_checkFromToIndex_8c36e, Cond.initialized RJ3]
def wsX5_kindAt_r4 : List Cond := [Cond.code yJ3_checkFromToIndex_8c36e cJ3_checkFromToIndex_8c36e 4 (some .int), Cond.methodLink RJ2 244 yJ2_indexOfCharUnsafe_4cfef, Cond.static yJ2_indexOfCharUnsafe_4cfef, Cond.code yJ2_indexOfCharUnsafe_4cfef cJ2_indexOfCharUnsafe_4cfef 5 (some .int), Cond.methodLink RJ2 71 yJ2_getChar_3b067, Cond.static yJ2_getChar_3b067, Cond.code yJ2_getChar_3b067 cJ2_getChar_3b067 2 (some .char), Cond.fieldLink RJ2 44 "java/lang/StringUTF16" "$assertionsDisabled" "Z", Cond.fieldLink RJ2 59 "java/lang/StringUTF16" "HI_BYTE_SHIFT" "I", Cond.fieldLink RJ2 63 "java/lang/StringUTF16" "LO_BYTE_SHIFT" "I", Cond.methodLink RJ2 232 yJ2_indexOfSupplementary_4cfef, Cond.static yJ2_indexOfSupplementary_4cfef, Cond.code yJ2_indexOfSupplementary_4cfef cJ2_indexOfSupplementary_4cfef 7 (some .int), Cond.methodLink RJ2 164 yJ11_isValidCodePoint_9a6ad, Cond.static yJ11_isValidCodePoint_9a6ad, Cond.initialized RJ11, Cond.code yJ11_isValidCodePoint_9a6ad cJ11_isValidCodePoint_9a6ad 2 (some .boolean), Cond.methodLink RJ2 157 yJ11_highSurrogate_5068e, Cond.static yJ11_highSurrogate_5068e, Cond.code yJ11_highSurrogate_5068e cJ11_highSurrogate_5068e 1 (some .char), Cond.constant RJ11 110 (55232), Cond.methodLink RJ2 161 yJ11_lowSurrogate_5068e, Cond.static yJ11_lowSurrogate_5068e, Cond.code yJ11_lowSurrogate_5068e cJ11_lowSurrogate_5068e 1 (some .char)]
def wsX5_kindAt_r5 : List Cond := [Cond.constant RJ11 76 (56320)]
def wsX5_kindAt : List Cond := .code yX5_kindAt cX5_kindAt 2 (some .int) :: ((wsX5_kindAt_r1 ++ (wsX5_kindAt_r2 ++ (wsX5_kindAt_r3 ++ (wsX5_kindAt_r4 ++ wsX5_kindAt_r5)))) ++ wsX50)
def wsX3_beginWith_r1 : List Cond := [Cond.fieldLink RX3 9 "HedgeGame$Moment" "kinds" "[I", Cond.fieldLink RX3 15 "HedgeGame$Moment" "standing" "I", Cond.fieldLink RX3 19 "HedgeGame$Moment" "turn" "I", Cond.fieldLink RX3 22 "HedgeGame$Moment" "cuts" "I", Cond.fieldLink RX3 28 "HedgeGame$Moment" "seen" "LHedgeGame$Seen;", Cond.methodLink RX3 32 yX5_kindAt, Cond.instanceMethod yX5_kindAt, Cond.selects RX5 yX5_kindAt yX5_kindAt, Cond.initialized RX5, Cond.code yX5_kindAt cX5_kindAt 2 (some .int), Cond.methodLink RX5 39 Lib.Math.max.name, Cond.static Lib.Math.max.name, Cond.initialized "java/lang/Math", Cond.code Lib.Math.max.name Lib.Math.max.code 2 (some .int), Cond.methodLink RX5 29 yX5_at, Cond.instanceMethod yX5_at, Cond.selects RX5 yX5_at yX5_at, Cond.code yX5_at cX5_at 2 (some .char), Cond.fieldLink RX5 15 "HedgeGame$Page" "length" "I", Cond.fieldLink RX5 9 "HedgeGame$Page" "letters" "[C", Cond.methodLink RX5 33 yJ0_indexOf_0f7a4, Cond.instanceMethod yJ0_indexOf_0f7a4, Cond.selects RJ0 yJ0_indexOf_0f7a4 yJ0_indexOf_0f7a4, Cond.initialized RJ0]
def wsX3_beginWith_r2 : List Cond := [Cond.code yJ0_indexOf_0f7a4 cJ0_indexOf_0f7a4 2 (some .int), Cond.methodLink RJ0 633 yJ0_indexOf_7cf53, Cond.instanceMethod yJ0_indexOf_7cf53, Cond.selects RJ0 yJ0_indexOf_7cf53 yJ0_indexOf_7cf53, Cond.code yJ0_indexOf_7cf53 cJ0_indexOf_7cf53 3 (some .int), Cond.fieldLink RJ0 9 "java/lang/String" "value" "[B", Cond.methodLink RJ0 492 yJ0_isLatin1_aae02, Cond.instanceMethod yJ0_isLatin1_aae02, Cond.selects RJ0 yJ0_isLatin1_aae02 yJ0_isLatin1_aae02, Cond.code yJ0_isLatin1_aae02 cJ0_isLatin1_aae02 1 (some .boolean), Cond.fieldLink RJ0 38 "java/lang/String" "COMPACT_STRINGS" "Z", Cond.fieldLink RJ0 15 "java/lang/String" "coder" "B", Cond.methodLink RJ0 505 yJ0_length_8abf5, Cond.instanceMethod yJ0_length_8abf5, Cond.selects RJ0 yJ0_length_8abf5 yJ0_length_8abf5, Cond.code yJ0_length_8abf5 cJ0_length_8abf5 1 (some .int), Cond.methodLink RJ0 335 yJ0_coder_7d493, Cond.instanceMethod yJ0_coder_7d493, Cond.selects RJ0 yJ0_coder_7d493 yJ0_coder_7d493, Cond.code yJ0_coder_7d493 cJ0_coder_7d493 1 (some .byte), Cond.methodLink RJ0 637 yJ1_indexOf_4cfef, Cond.static yJ1_indexOf_4cfef, Cond.initialized RJ1, Cond.code yJ1_indexOf_4cfef cJ1_indexOf_4cfef 4 (some .int)]
def wsX3_beginWith_r3 : List Cond := [Cond.methodLink RJ1 92 Lib.Math.max.name, Cond.methodLink RJ1 38 Lib.Math.min.name, Cond.static Lib.Math.min.name, Cond.code Lib.Math.min.name Lib.Math.min.code 2 (some .int), Cond.methodLink RJ1 88 yJ1_canEncode_9a6ad, Cond.static yJ1_canEncode_9a6ad, Cond.code yJ1_canEncode_9a6ad cJ1_canEncode_9a6ad 1 (some .boolean), Cond.methodLink RJ1 95 yJ1_indexOfChar_4cfef, Cond.static yJ1_indexOfChar_4cfef, Cond.code yJ1_indexOfChar_4cfef cJ1_indexOfChar_4cfef 6 (some .int), Cond.methodLink RJ0 640 yJ2_indexOf_4cfef, Cond.static yJ2_indexOf_4cfef, Cond.initialized RJ2, Cond.code yJ2_indexOf_4cfef cJ2_indexOf_4cfef 4 (some .int), Cond.methodLink RJ2 224 Lib.Math.max.name, Cond.methodLink RJ2 183 Lib.Math.min.name, Cond.constant RJ2 227 (65536), Cond.methodLink RJ2 228 yJ2_indexOfChar_4cfef, Cond.static yJ2_indexOfChar_4cfef, Cond.code yJ2_indexOfChar_4cfef cJ2_indexOfChar_4cfef 4 (some .int), Cond.methodLink RJ2 96 yJ2_checkBoundsBeginEnd_d044e, Cond.static yJ2_checkBoundsBeginEnd_d044e, Cond.code yJ2_checkBoundsBeginEnd_d044e cJ2_checkBoundsBeginEnd_d044e 3 none, Cond.methodLink RJ2 48 yJ2_length_9d52b]
def wsX3_beginWith_r4 : List Cond := [Cond.static yJ2_length_9d52b, Cond.code yJ2_length_9d52b cJ2_length_9d52b 1 (some .int), Cond.methodLink RJ2 241 yJ0_checkBoundsBeginEnd_23922, Cond.static yJ0_checkBoundsBeginEnd_23922, Cond.code yJ0_checkBoundsBeginEnd_23922 cJ0_checkBoundsBeginEnd_23922 3 none, Cond.fieldLink RJ0 1053 "jdk/internal/util/Preconditions" "SIOOBE_FORMATTER" "Ljava/util/function/BiFunction;", Cond.methodLink RJ0 1062 yJ3_checkFromToIndex_8c36e, Cond.static yJ3_checkFromToIndex_8c36e, Cond.initialized RJ3, Cond.code yJ3_checkFromToIndex_8c36e cJ3_checkFromToIndex_8c36e 4 (some .int), Cond.methodLink RJ2 244 yJ2_indexOfCharUnsafe_4cfef, Cond.static yJ2_indexOfCharUnsafe_4cfef, Cond.code yJ2_indexOfCharUnsafe_4cfef cJ2_indexOfCharUnsafe_4cfef 5 (some .int), Cond.methodLink RJ2 71 yJ2_getChar_3b067, Cond.static yJ2_getChar_3b067, Cond.code yJ2_getChar_3b067 cJ2_getChar_3b067 2 (some .char), Cond.fieldLink RJ2 44 "java/lang/StringUTF16" "$assertionsDisabled" "Z", Cond.fieldLink RJ2 59 "java/lang/StringUTF16" "HI_BYTE_SHIFT" "I", Cond.fieldLink RJ2 63 "java/lang/StringUTF16" "LO_BYTE_SHIFT" "I", Cond.methodLink RJ2 232 yJ2_indexOfSupplementary_4cfef, Cond.static yJ2_indexOfSupplementary_4cfef, Cond.code yJ2_indexOfSupplementary_4cfef cJ2_indexOfSupplementary_4cfef 7 (some .int), Cond.methodLink RJ2 164 yJ11_isValidCodePoint_9a6ad, Cond.static yJ11_isValidCodePoint_9a6ad]
def wsX3_beginWith_r5 : List Cond := [Cond.initialized RJ11, Cond.code yJ11_isValidCodePoint_9a6ad cJ11_isValidCodePoint_9a6ad 2 (some .boolean), Cond.methodLink RJ2 157 yJ11_highSurrogate_5068e, Cond.static yJ11_highSurrogate_5068e, Cond.code yJ11_highSurrogate_5068e cJ11_highSurrogate_5068e 1 (some .char), Cond.constant RJ11 110 (55232), Cond.methodLink RJ2 161 yJ11_lowSurrogate_5068e, Cond.static yJ11_lowSurrogate_5068e, Cond.code yJ11_lowSurrogate_5068e cJ11_lowSurrogate_5068e 1 (some .char), Cond.constant RJ11 76 (56320)]
def wsX3_beginWith : List Cond := .code yX3_beginWith cX3_beginWith 4 none :: ((wsX3_beginWith_r1 ++ (wsX3_beginWith_r2 ++ (wsX3_beginWith_r3 ++ (wsX3_beginWith_r4 ++ wsX3_beginWith_r5)))) ++ wsX30 ++ wsX70 ++ wsX50)
def wsX7_copyFrom : List Cond := .code yX7_copyFrom cX7_copyFrom 3 none :: ([.fieldLink RX7 9 "HedgeGame$Seen" "size" "I", .fieldLink RX7 15 "HedgeGame$Seen" "branches" "[I", .fieldLink RX7 19 "HedgeGame$Seen" "beginners" "[I", .fieldLink RX7 22 "HedgeGame$Seen" "won" "[Z"] ++ wsX70)
def wsX3_copyFrom : List Cond := .code yX3_copyFrom cX3_copyFrom 2 none :: ([.fieldLink RX3 9 "HedgeGame$Moment" "kinds" "[I", .methodLink RX3 41 arraycopyName, .native arraycopyName, .static arraycopyName, .initialized "java/lang/System", .fieldLink RX3 15 "HedgeGame$Moment" "standing" "I", .fieldLink RX3 19 "HedgeGame$Moment" "turn" "I", .fieldLink RX3 22 "HedgeGame$Moment" "cuts" "I", .fieldLink RX3 28 "HedgeGame$Moment" "seen" "LHedgeGame$Seen;", .methodLink RX3 47 yX7_copyFrom, .instanceMethod yX7_copyFrom, .selects RX7 yX7_copyFrom yX7_copyFrom, .initialized RX7, .code yX7_copyFrom cX7_copyFrom 3 none, .fieldLink RX7 9 "HedgeGame$Seen" "size" "I", .fieldLink RX7 15 "HedgeGame$Seen" "branches" "[I", .fieldLink RX7 19 "HedgeGame$Seen" "beginners" "[I", .fieldLink RX7 22 "HedgeGame$Seen" "won" "[Z"] ++ wsX30 ++ wsX70)
def wsX4_init : List Cond := .code yX4_init cX4_init 2 none :: ([.methodLink RX4 5 objectInit, .instanceMethod objectInit, .code objectInit ⟨#[0xb1]⟩ 1 none, .arrayClass .long, .fieldLink RX4 11 "HedgeGame$Outcomes" "won" "[J", .fieldLink RX4 15 "HedgeGame$Outcomes" "rules" "LHedgeGame$Rules;"] ++ wsX40)
def wsX4_winningKinds : List Cond := .code yX4_winningKinds cX4_winningKinds 4 (some .int) :: ([.fieldLink RX4 11 "HedgeGame$Outcomes" "won" "[J", .static yX10_place, .initialized RX10, .code yX10_place cX10_place 2 (some .int)] ++ wsX40)
def wsX4_hedgesWithCut : List Cond := .code yX4_hedgesWithCut cX4_hedgesWithCut 9 (some .long) :: ([.fieldLink RX4 15 "HedgeGame$Outcomes" "rules" "LHedgeGame$Rules;", .constantLong RX4 50 (31), .constantLong RX4 62 (2199023255551), .constantLong RX4 40 (-1), .methodLink RX4 46 yX6_kindsCutBy, .instanceMethod yX6_kindsCutBy, .selects RX6 yX6_kindsCutBy yX6_kindsCutBy, .initialized RX6, .code yX6_kindsCutBy cX6_kindsCutBy 5 (some .int), .fieldLink RX6 9 "HedgeGame$Rules" "shape" "LHedgeGame$Shape;"] ++ wsX40 ++ wsX60 ++ wsX30 ++ wsX80)
def wsX4_enter : List Cond := .code yX4_enter cX4_enter 8 none :: ([.fieldLink RX4 15 "HedgeGame$Outcomes" "rules" "LHedgeGame$Rules;", .fieldLink RX4 11 "HedgeGame$Outcomes" "won" "[J", .constantLong RX4 40 (-1), .methodLink RX4 37 yX6_leftBy, .instanceMethod yX6_leftBy, .selects RX6 yX6_leftBy yX6_leftBy, .initialized RX6, .code yX6_leftBy cX6_leftBy 3 (some .int), .fieldLink RX6 9 "HedgeGame$Rules" "shape" "LHedgeGame$Shape;", .static yX10_place, .initialized RX10, .code yX10_place cX10_place 2 (some .int), .methodLink RX4 42 yX4_hedgesWithCut, .instanceMethod yX4_hedgesWithCut, .selects RX4 yX4_hedgesWithCut yX4_hedgesWithCut, .initialized RX4, .code yX4_hedgesWithCut cX4_hedgesWithCut 9 (some .long), .constantLong RX4 50 (31), .constantLong RX4 62 (2199023255551), .methodLink RX4 46 yX6_kindsCutBy, .instanceMethod yX6_kindsCutBy, .selects RX6 yX6_kindsCutBy yX6_kindsCutBy, .code yX6_kindsCutBy cX6_kindsCutBy 5 (some .int)] ++ wsX40 ++ wsX60 ++ wsX80 ++ wsX30)
def wsX5_init : List Cond := .code yX5_init cX5_init 1 none :: ([.methodLink RX5 3 objectInit, .instanceMethod objectInit, .code objectInit ⟨#[0xb1]⟩ 1 none, .arrayClass .char, .fieldLink RX5 9 "HedgeGame$Page" "letters" "[C", .fieldLink RX5 15 "HedgeGame$Page" "length" "I"] ++ wsX50)
def wsX5_size : List Cond := .code yX5_size cX5_size 1 (some .int) :: ([.fieldLink RX5 15 "HedgeGame$Page" "length" "I"] ++ wsX50)
def wsX5_add : List Cond := .code yX5_add cX5_add 2 none :: ([.fieldLink RX5 15 "HedgeGame$Page" "length" "I", .fieldLink RX5 9 "HedgeGame$Page" "letters" "[C"] ++ wsX50)
def wsX5_wipe : List Cond := .code yX5_wipe cX5_wipe 1 none :: ([.fieldLink RX5 15 "HedgeGame$Page" "length" "I"] ++ wsX50)
def wsX5_fits_r1 : List Cond := [Cond.methodLink RX5 29 yX5_at, Cond.instanceMethod yX5_at, Cond.selects RX5 yX5_at yX5_at, Cond.initialized RX5, Cond.code yX5_at cX5_at 2 (some .char), Cond.fieldLink RX5 15 "HedgeGame$Page" "length" "I", Cond.fieldLink RX5 9 "HedgeGame$Page" "letters" "[C", Cond.methodLink RX5 33 yJ0_indexOf_0f7a4, Cond.instanceMethod yJ0_indexOf_0f7a4, Cond.selects RJ0 yJ0_indexOf_0f7a4 yJ0_indexOf_0f7a4, Cond.initialized RJ0, Cond.code yJ0_indexOf_0f7a4 cJ0_indexOf_0f7a4 2 (some .int), Cond.methodLink RJ0 633 yJ0_indexOf_7cf53, Cond.instanceMethod yJ0_indexOf_7cf53, Cond.selects RJ0 yJ0_indexOf_7cf53 yJ0_indexOf_7cf53, Cond.code yJ0_indexOf_7cf53 cJ0_indexOf_7cf53 3 (some .int), Cond.fieldLink RJ0 9 "java/lang/String" "value" "[B", Cond.methodLink RJ0 492 yJ0_isLatin1_aae02, Cond.instanceMethod yJ0_isLatin1_aae02, Cond.selects RJ0 yJ0_isLatin1_aae02 yJ0_isLatin1_aae02, Cond.code yJ0_isLatin1_aae02 cJ0_isLatin1_aae02 1 (some .boolean), Cond.fieldLink RJ0 38 "java/lang/String" "COMPACT_STRINGS" "Z", Cond.fieldLink RJ0 15 "java/lang/String" "coder" "B", Cond.methodLink RJ0 505 yJ0_length_8abf5]
def wsX5_fits_r2 : List Cond := [Cond.instanceMethod yJ0_length_8abf5, Cond.selects RJ0 yJ0_length_8abf5 yJ0_length_8abf5, Cond.code yJ0_length_8abf5 cJ0_length_8abf5 1 (some .int), Cond.methodLink RJ0 335 yJ0_coder_7d493, Cond.instanceMethod yJ0_coder_7d493, Cond.selects RJ0 yJ0_coder_7d493 yJ0_coder_7d493, Cond.code yJ0_coder_7d493 cJ0_coder_7d493 1 (some .byte), Cond.methodLink RJ0 637 yJ1_indexOf_4cfef, Cond.static yJ1_indexOf_4cfef, Cond.initialized RJ1, Cond.code yJ1_indexOf_4cfef cJ1_indexOf_4cfef 4 (some .int), Cond.methodLink RJ1 92 Lib.Math.max.name, Cond.static Lib.Math.max.name, Cond.initialized "java/lang/Math", Cond.code Lib.Math.max.name Lib.Math.max.code 2 (some .int), Cond.methodLink RJ1 38 Lib.Math.min.name, Cond.static Lib.Math.min.name, Cond.code Lib.Math.min.name Lib.Math.min.code 2 (some .int), Cond.methodLink RJ1 88 yJ1_canEncode_9a6ad, Cond.static yJ1_canEncode_9a6ad, Cond.code yJ1_canEncode_9a6ad cJ1_canEncode_9a6ad 1 (some .boolean), Cond.methodLink RJ1 95 yJ1_indexOfChar_4cfef, Cond.static yJ1_indexOfChar_4cfef, Cond.code yJ1_indexOfChar_4cfef cJ1_indexOfChar_4cfef 6 (some .int)]
def wsX5_fits_r3 : List Cond := [Cond.methodLink RJ0 640 yJ2_indexOf_4cfef, Cond.static yJ2_indexOf_4cfef, Cond.initialized RJ2, Cond.code yJ2_indexOf_4cfef cJ2_indexOf_4cfef 4 (some .int), Cond.methodLink RJ2 224 Lib.Math.max.name, Cond.methodLink RJ2 183 Lib.Math.min.name, Cond.constant RJ2 227 (65536), Cond.methodLink RJ2 228 yJ2_indexOfChar_4cfef, Cond.static yJ2_indexOfChar_4cfef, Cond.code yJ2_indexOfChar_4cfef cJ2_indexOfChar_4cfef 4 (some .int), Cond.methodLink RJ2 96 yJ2_checkBoundsBeginEnd_d044e, Cond.static yJ2_checkBoundsBeginEnd_d044e, Cond.code yJ2_checkBoundsBeginEnd_d044e cJ2_checkBoundsBeginEnd_d044e 3 none, Cond.methodLink RJ2 48 yJ2_length_9d52b, Cond.static yJ2_length_9d52b, Cond.code yJ2_length_9d52b cJ2_length_9d52b 1 (some .int), Cond.methodLink RJ2 241 yJ0_checkBoundsBeginEnd_23922, Cond.static yJ0_checkBoundsBeginEnd_23922, Cond.code yJ0_checkBoundsBeginEnd_23922 cJ0_checkBoundsBeginEnd_23922 3 none, Cond.fieldLink RJ0 1053 "jdk/internal/util/Preconditions" "SIOOBE_FORMATTER" "Ljava/util/function/BiFunction;", Cond.methodLink RJ0 1062 yJ3_checkFromToIndex_8c36e, Cond.static yJ3_checkFromToIndex_8c36e, Cond.initialized RJ3, Cond.code yJ3_checkFromToIndex_8c36e cJ3_checkFromToIndex_8c36e 4 (some .int)]
def wsX5_fits_r4 : List Cond := [Cond.methodLink RJ2 244 yJ2_indexOfCharUnsafe_4cfef, Cond.static yJ2_indexOfCharUnsafe_4cfef, Cond.code yJ2_indexOfCharUnsafe_4cfef cJ2_indexOfCharUnsafe_4cfef 5 (some .int), Cond.methodLink RJ2 71 yJ2_getChar_3b067, Cond.static yJ2_getChar_3b067, Cond.code yJ2_getChar_3b067 cJ2_getChar_3b067 2 (some .char), Cond.fieldLink RJ2 44 "java/lang/StringUTF16" "$assertionsDisabled" "Z", Cond.fieldLink RJ2 59 "java/lang/StringUTF16" "HI_BYTE_SHIFT" "I", Cond.fieldLink RJ2 63 "java/lang/StringUTF16" "LO_BYTE_SHIFT" "I", Cond.methodLink RJ2 232 yJ2_indexOfSupplementary_4cfef, Cond.static yJ2_indexOfSupplementary_4cfef, Cond.code yJ2_indexOfSupplementary_4cfef cJ2_indexOfSupplementary_4cfef 7 (some .int), Cond.methodLink RJ2 164 yJ11_isValidCodePoint_9a6ad, Cond.static yJ11_isValidCodePoint_9a6ad, Cond.initialized RJ11, Cond.code yJ11_isValidCodePoint_9a6ad cJ11_isValidCodePoint_9a6ad 2 (some .boolean), Cond.methodLink RJ2 157 yJ11_highSurrogate_5068e, Cond.static yJ11_highSurrogate_5068e, Cond.code yJ11_highSurrogate_5068e cJ11_highSurrogate_5068e 1 (some .char), Cond.constant RJ11 110 (55232), Cond.methodLink RJ2 161 yJ11_lowSurrogate_5068e, Cond.static yJ11_lowSurrogate_5068e, Cond.code yJ11_lowSurrogate_5068e cJ11_lowSurrogate_5068e 1 (some .char), Cond.constant RJ11 76 (56320)]
def wsX5_fits : List Cond := .code yX5_fits cX5_fits 3 (some .boolean) :: ((wsX5_fits_r1 ++ (wsX5_fits_r2 ++ (wsX5_fits_r3 ++ wsX5_fits_r4))) ++ wsX50)
def wsX5_firstWrong_r1 : List Cond := [Cond.fieldLink RX5 15 "HedgeGame$Page" "length" "I", Cond.methodLink RX5 19 yX5_fits, Cond.instanceMethod yX5_fits, Cond.selects RX5 yX5_fits yX5_fits, Cond.initialized RX5, Cond.code yX5_fits cX5_fits 3 (some .boolean), Cond.methodLink RX5 29 yX5_at, Cond.instanceMethod yX5_at, Cond.selects RX5 yX5_at yX5_at, Cond.code yX5_at cX5_at 2 (some .char), Cond.fieldLink RX5 9 "HedgeGame$Page" "letters" "[C", Cond.methodLink RX5 33 yJ0_indexOf_0f7a4, Cond.instanceMethod yJ0_indexOf_0f7a4, Cond.selects RJ0 yJ0_indexOf_0f7a4 yJ0_indexOf_0f7a4, Cond.initialized RJ0, Cond.code yJ0_indexOf_0f7a4 cJ0_indexOf_0f7a4 2 (some .int), Cond.methodLink RJ0 633 yJ0_indexOf_7cf53, Cond.instanceMethod yJ0_indexOf_7cf53, Cond.selects RJ0 yJ0_indexOf_7cf53 yJ0_indexOf_7cf53, Cond.code yJ0_indexOf_7cf53 cJ0_indexOf_7cf53 3 (some .int), Cond.fieldLink RJ0 9 "java/lang/String" "value" "[B", Cond.methodLink RJ0 492 yJ0_isLatin1_aae02, Cond.instanceMethod yJ0_isLatin1_aae02, Cond.selects RJ0 yJ0_isLatin1_aae02 yJ0_isLatin1_aae02]
def wsX5_firstWrong_r2 : List Cond := [Cond.code yJ0_isLatin1_aae02 cJ0_isLatin1_aae02 1 (some .boolean), Cond.fieldLink RJ0 38 "java/lang/String" "COMPACT_STRINGS" "Z", Cond.fieldLink RJ0 15 "java/lang/String" "coder" "B", Cond.methodLink RJ0 505 yJ0_length_8abf5, Cond.instanceMethod yJ0_length_8abf5, Cond.selects RJ0 yJ0_length_8abf5 yJ0_length_8abf5, Cond.code yJ0_length_8abf5 cJ0_length_8abf5 1 (some .int), Cond.methodLink RJ0 335 yJ0_coder_7d493, Cond.instanceMethod yJ0_coder_7d493, Cond.selects RJ0 yJ0_coder_7d493 yJ0_coder_7d493, Cond.code yJ0_coder_7d493 cJ0_coder_7d493 1 (some .byte), Cond.methodLink RJ0 637 yJ1_indexOf_4cfef, Cond.static yJ1_indexOf_4cfef, Cond.initialized RJ1, Cond.code yJ1_indexOf_4cfef cJ1_indexOf_4cfef 4 (some .int), Cond.methodLink RJ1 92 Lib.Math.max.name, Cond.static Lib.Math.max.name, Cond.initialized "java/lang/Math", Cond.code Lib.Math.max.name Lib.Math.max.code 2 (some .int), Cond.methodLink RJ1 38 Lib.Math.min.name, Cond.static Lib.Math.min.name, Cond.code Lib.Math.min.name Lib.Math.min.code 2 (some .int), Cond.methodLink RJ1 88 yJ1_canEncode_9a6ad, Cond.static yJ1_canEncode_9a6ad]
def wsX5_firstWrong_r3 : List Cond := [Cond.code yJ1_canEncode_9a6ad cJ1_canEncode_9a6ad 1 (some .boolean), Cond.methodLink RJ1 95 yJ1_indexOfChar_4cfef, Cond.static yJ1_indexOfChar_4cfef, Cond.code yJ1_indexOfChar_4cfef cJ1_indexOfChar_4cfef 6 (some .int), Cond.methodLink RJ0 640 yJ2_indexOf_4cfef, Cond.static yJ2_indexOf_4cfef, Cond.initialized RJ2, Cond.code yJ2_indexOf_4cfef cJ2_indexOf_4cfef 4 (some .int), Cond.methodLink RJ2 224 Lib.Math.max.name, Cond.methodLink RJ2 183 Lib.Math.min.name, Cond.constant RJ2 227 (65536), Cond.methodLink RJ2 228 yJ2_indexOfChar_4cfef, Cond.static yJ2_indexOfChar_4cfef, Cond.code yJ2_indexOfChar_4cfef cJ2_indexOfChar_4cfef 4 (some .int), Cond.methodLink RJ2 96 yJ2_checkBoundsBeginEnd_d044e, Cond.static yJ2_checkBoundsBeginEnd_d044e, Cond.code yJ2_checkBoundsBeginEnd_d044e cJ2_checkBoundsBeginEnd_d044e 3 none, Cond.methodLink RJ2 48 yJ2_length_9d52b, Cond.static yJ2_length_9d52b, Cond.code yJ2_length_9d52b cJ2_length_9d52b 1 (some .int), Cond.methodLink RJ2 241 yJ0_checkBoundsBeginEnd_23922, Cond.static yJ0_checkBoundsBeginEnd_23922, Cond.code yJ0_checkBoundsBeginEnd_23922 cJ0_checkBoundsBeginEnd_23922 3 none, Cond.fieldLink RJ0 1053 "jdk/internal/util/Preconditions" "SIOOBE_FORMATTER" "Ljava/util/function/BiFunction;"]
def wsX5_firstWrong_r4 : List Cond := [Cond.methodLink RJ0 1062 yJ3_checkFromToIndex_8c36e, Cond.static yJ3_checkFromToIndex_8c36e, Cond.initialized RJ3, Cond.code yJ3_checkFromToIndex_8c36e cJ3_checkFromToIndex_8c36e 4 (some .int), Cond.methodLink RJ2 244 yJ2_indexOfCharUnsafe_4cfef, Cond.static yJ2_indexOfCharUnsafe_4cfef, Cond.code yJ2_indexOfCharUnsafe_4cfef cJ2_indexOfCharUnsafe_4cfef 5 (some .int), Cond.methodLink RJ2 71 yJ2_getChar_3b067, Cond.static yJ2_getChar_3b067, Cond.code yJ2_getChar_3b067 cJ2_getChar_3b067 2 (some .char), Cond.fieldLink RJ2 44 "java/lang/StringUTF16" "$assertionsDisabled" "Z", Cond.fieldLink RJ2 59 "java/lang/StringUTF16" "HI_BYTE_SHIFT" "I", Cond.fieldLink RJ2 63 "java/lang/StringUTF16" "LO_BYTE_SHIFT" "I", Cond.methodLink RJ2 232 yJ2_indexOfSupplementary_4cfef, Cond.static yJ2_indexOfSupplementary_4cfef, Cond.code yJ2_indexOfSupplementary_4cfef cJ2_indexOfSupplementary_4cfef 7 (some .int), Cond.methodLink RJ2 164 yJ11_isValidCodePoint_9a6ad, Cond.static yJ11_isValidCodePoint_9a6ad, Cond.initialized RJ11, Cond.code yJ11_isValidCodePoint_9a6ad cJ11_isValidCodePoint_9a6ad 2 (some .boolean), Cond.methodLink RJ2 157 yJ11_highSurrogate_5068e, Cond.static yJ11_highSurrogate_5068e, Cond.code yJ11_highSurrogate_5068e cJ11_highSurrogate_5068e 1 (some .char), Cond.constant RJ11 110 (55232)]
def wsX5_firstWrong_r5 : List Cond := [Cond.methodLink RJ2 161 yJ11_lowSurrogate_5068e, Cond.static yJ11_lowSurrogate_5068e, Cond.code yJ11_lowSurrogate_5068e cJ11_lowSurrogate_5068e 1 (some .char), Cond.constant RJ11 76 (56320)]
def wsX5_firstWrong : List Cond := .code yX5_firstWrong cX5_firstWrong 2 (some .int) :: ((wsX5_firstWrong_r1 ++ (wsX5_firstWrong_r2 ++ (wsX5_firstWrong_r3 ++ (wsX5_firstWrong_r4 ++ wsX5_firstWrong_r5)))) ++ wsX50)
def wsX5_isWhole_r1 : List Cond := [Cond.fieldLink RX5 15 "HedgeGame$Page" "length" "I", Cond.methodLink RX5 23 yX5_firstWrong, Cond.instanceMethod yX5_firstWrong, Cond.selects RX5 yX5_firstWrong yX5_firstWrong, Cond.initialized RX5, Cond.code yX5_firstWrong cX5_firstWrong 2 (some .int), Cond.methodLink RX5 19 yX5_fits, Cond.instanceMethod yX5_fits, Cond.selects RX5 yX5_fits yX5_fits, Cond.code yX5_fits cX5_fits 3 (some .boolean), Cond.methodLink RX5 29 yX5_at, Cond.instanceMethod yX5_at, Cond.selects RX5 yX5_at yX5_at, Cond.code yX5_at cX5_at 2 (some .char), Cond.fieldLink RX5 9 "HedgeGame$Page" "letters" "[C", Cond.methodLink RX5 33 yJ0_indexOf_0f7a4, Cond.instanceMethod yJ0_indexOf_0f7a4, Cond.selects RJ0 yJ0_indexOf_0f7a4 yJ0_indexOf_0f7a4, Cond.initialized RJ0, Cond.code yJ0_indexOf_0f7a4 cJ0_indexOf_0f7a4 2 (some .int), Cond.methodLink RJ0 633 yJ0_indexOf_7cf53, Cond.instanceMethod yJ0_indexOf_7cf53, Cond.selects RJ0 yJ0_indexOf_7cf53 yJ0_indexOf_7cf53, Cond.code yJ0_indexOf_7cf53 cJ0_indexOf_7cf53 3 (some .int)]
def wsX5_isWhole_r2 : List Cond := [Cond.fieldLink RJ0 9 "java/lang/String" "value" "[B", Cond.methodLink RJ0 492 yJ0_isLatin1_aae02, Cond.instanceMethod yJ0_isLatin1_aae02, Cond.selects RJ0 yJ0_isLatin1_aae02 yJ0_isLatin1_aae02, Cond.code yJ0_isLatin1_aae02 cJ0_isLatin1_aae02 1 (some .boolean), Cond.fieldLink RJ0 38 "java/lang/String" "COMPACT_STRINGS" "Z", Cond.fieldLink RJ0 15 "java/lang/String" "coder" "B", Cond.methodLink RJ0 505 yJ0_length_8abf5, Cond.instanceMethod yJ0_length_8abf5, Cond.selects RJ0 yJ0_length_8abf5 yJ0_length_8abf5, Cond.code yJ0_length_8abf5 cJ0_length_8abf5 1 (some .int), Cond.methodLink RJ0 335 yJ0_coder_7d493, Cond.instanceMethod yJ0_coder_7d493, Cond.selects RJ0 yJ0_coder_7d493 yJ0_coder_7d493, Cond.code yJ0_coder_7d493 cJ0_coder_7d493 1 (some .byte), Cond.methodLink RJ0 637 yJ1_indexOf_4cfef, Cond.static yJ1_indexOf_4cfef, Cond.initialized RJ1, Cond.code yJ1_indexOf_4cfef cJ1_indexOf_4cfef 4 (some .int), Cond.methodLink RJ1 92 Lib.Math.max.name, Cond.static Lib.Math.max.name, Cond.initialized "java/lang/Math", Cond.code Lib.Math.max.name Lib.Math.max.code 2 (some .int), Cond.methodLink RJ1 38 Lib.Math.min.name]
def wsX5_isWhole_r3 : List Cond := [Cond.static Lib.Math.min.name, Cond.code Lib.Math.min.name Lib.Math.min.code 2 (some .int), Cond.methodLink RJ1 88 yJ1_canEncode_9a6ad, Cond.static yJ1_canEncode_9a6ad, Cond.code yJ1_canEncode_9a6ad cJ1_canEncode_9a6ad 1 (some .boolean), Cond.methodLink RJ1 95 yJ1_indexOfChar_4cfef, Cond.static yJ1_indexOfChar_4cfef, Cond.code yJ1_indexOfChar_4cfef cJ1_indexOfChar_4cfef 6 (some .int), Cond.methodLink RJ0 640 yJ2_indexOf_4cfef, Cond.static yJ2_indexOf_4cfef, Cond.initialized RJ2, Cond.code yJ2_indexOf_4cfef cJ2_indexOf_4cfef 4 (some .int), Cond.methodLink RJ2 224 Lib.Math.max.name, Cond.methodLink RJ2 183 Lib.Math.min.name, Cond.constant RJ2 227 (65536), Cond.methodLink RJ2 228 yJ2_indexOfChar_4cfef, Cond.static yJ2_indexOfChar_4cfef, Cond.code yJ2_indexOfChar_4cfef cJ2_indexOfChar_4cfef 4 (some .int), Cond.methodLink RJ2 96 yJ2_checkBoundsBeginEnd_d044e, Cond.static yJ2_checkBoundsBeginEnd_d044e, Cond.code yJ2_checkBoundsBeginEnd_d044e cJ2_checkBoundsBeginEnd_d044e 3 none, Cond.methodLink RJ2 48 yJ2_length_9d52b, Cond.static yJ2_length_9d52b, Cond.code yJ2_length_9d52b cJ2_length_9d52b 1 (some .int)]
def wsX5_isWhole_r4 : List Cond := [Cond.methodLink RJ2 241 yJ0_checkBoundsBeginEnd_23922, Cond.static yJ0_checkBoundsBeginEnd_23922, Cond.code yJ0_checkBoundsBeginEnd_23922 cJ0_checkBoundsBeginEnd_23922 3 none, Cond.fieldLink RJ0 1053 "jdk/internal/util/Preconditions" "SIOOBE_FORMATTER" "Ljava/util/function/BiFunction;", Cond.methodLink RJ0 1062 yJ3_checkFromToIndex_8c36e, Cond.static yJ3_checkFromToIndex_8c36e, Cond.initialized RJ3, Cond.code yJ3_checkFromToIndex_8c36e cJ3_checkFromToIndex_8c36e 4 (some .int), Cond.methodLink RJ2 244 yJ2_indexOfCharUnsafe_4cfef, Cond.static yJ2_indexOfCharUnsafe_4cfef, Cond.code yJ2_indexOfCharUnsafe_4cfef cJ2_indexOfCharUnsafe_4cfef 5 (some .int), Cond.methodLink RJ2 71 yJ2_getChar_3b067, Cond.static yJ2_getChar_3b067, Cond.code yJ2_getChar_3b067 cJ2_getChar_3b067 2 (some .char), Cond.fieldLink RJ2 44 "java/lang/StringUTF16" "$assertionsDisabled" "Z", Cond.fieldLink RJ2 59 "java/lang/StringUTF16" "HI_BYTE_SHIFT" "I", Cond.fieldLink RJ2 63 "java/lang/StringUTF16" "LO_BYTE_SHIFT" "I", Cond.methodLink RJ2 232 yJ2_indexOfSupplementary_4cfef, Cond.static yJ2_indexOfSupplementary_4cfef, Cond.code yJ2_indexOfSupplementary_4cfef cJ2_indexOfSupplementary_4cfef 7 (some .int), Cond.methodLink RJ2 164 yJ11_isValidCodePoint_9a6ad, Cond.static yJ11_isValidCodePoint_9a6ad, Cond.initialized RJ11, Cond.code yJ11_isValidCodePoint_9a6ad cJ11_isValidCodePoint_9a6ad 2 (some .boolean)]
def wsX5_isWhole_r5 : List Cond := [Cond.methodLink RJ2 157 yJ11_highSurrogate_5068e, Cond.static yJ11_highSurrogate_5068e, Cond.code yJ11_highSurrogate_5068e cJ11_highSurrogate_5068e 1 (some .char), Cond.constant RJ11 110 (55232), Cond.methodLink RJ2 161 yJ11_lowSurrogate_5068e, Cond.static yJ11_lowSurrogate_5068e, Cond.code yJ11_lowSurrogate_5068e cJ11_lowSurrogate_5068e 1 (some .char), Cond.constant RJ11 76 (56320)]
def wsX5_isWhole : List Cond := .code yX5_isWhole cX5_isWhole 1 (some .boolean) :: ((wsX5_isWhole_r1 ++ (wsX5_isWhole_r2 ++ (wsX5_isWhole_r3 ++ (wsX5_isWhole_r4 ++ wsX5_isWhole_r5)))) ++ wsX50)
def wsX5_branches : List Cond := .code yX5_branches cX5_branches 1 (some .int) :: ([.fieldLink RX5 15 "HedgeGame$Page" "length" "I"] ++ wsX50)
def wsX5_groundAt : List Cond := .code yX5_groundAt cX5_groundAt 3 (some .int) :: ([.methodLink RX5 29 yX5_at, .instanceMethod yX5_at, .selects RX5 yX5_at yX5_at, .initialized RX5, .code yX5_at cX5_at 2 (some .char), .fieldLink RX5 15 "HedgeGame$Page" "length" "I", .fieldLink RX5 9 "HedgeGame$Page" "letters" "[C"] ++ wsX50)
def wsX6_init : List Cond := .code yX6_init cX6_init 3 none :: ([.methodLink RX6 3 objectInit, .instanceMethod objectInit, .code objectInit ⟨#[0xb1]⟩ 1 none, .fieldLink RX6 9 "HedgeGame$Rules" "shape" "LHedgeGame$Shape;", .fieldLink RX6 15 "HedgeGame$Rules" "now" "LHedgeGame$Moment;"] ++ wsX60)
def wsX7_add : List Cond := .code yX7_add cX7_add 4 none :: ([.fieldLink RX7 9 "HedgeGame$Seen" "size" "I", .fieldLink RX7 15 "HedgeGame$Seen" "branches" "[I", .fieldLink RX7 19 "HedgeGame$Seen" "beginners" "[I", .fieldLink RX7 22 "HedgeGame$Seen" "won" "[Z"] ++ wsX70)
def wsX8_init : List Cond := .code yX8_init cX8_init 1 none :: ([.methodLink RX8 3 objectInit, .instanceMethod objectInit, .code objectInit ⟨#[0xb1]⟩ 1 none, .fieldLink RX8 9 "HedgeGame$Shape" "number" "I", .arrayClass .int, .fieldLink RX8 15 "HedgeGame$Shape" "on" "[I", .fieldLink RX8 19 "HedgeGame$Shape" "above" "[I", .fieldLink RX8 22 "HedgeGame$Shape" "sets" "[I", .fieldLink RX8 25 "HedgeGame$Shape" "setCount" "I"] ++ wsX80)
def wsX8_withAllOn : List Cond := .code yX8_withAllOn cX8_withAllOn 2 (some .int) :: ([.fieldLink RX8 19 "HedgeGame$Shape" "above" "[I"] ++ wsX80)
def wsX8_hasFooting : List Cond := .code yX8_hasFooting cX8_hasFooting 3 (some .boolean) :: ([.fieldLink RX8 15 "HedgeGame$Shape" "on" "[I"] ++ wsX80)
def wsX8_canStand : List Cond := .code yX8_canStand cX8_canStand 3 (some .boolean) :: ([.fieldLink RX8 9 "HedgeGame$Shape" "number" "I", .methodLink RX8 54 yX8_hasFooting, .instanceMethod yX8_hasFooting, .selects RX8 yX8_hasFooting yX8_hasFooting, .initialized RX8, .code yX8_hasFooting cX8_hasFooting 3 (some .boolean), .fieldLink RX8 15 "HedgeGame$Shape" "on" "[I"] ++ wsX80)
def wsX8_findSets : List Cond := .code yX8_findSets cX8_findSets 2 none :: ([.fieldLink RX8 25 "HedgeGame$Shape" "setCount" "I", .fieldLink RX8 9 "HedgeGame$Shape" "number" "I", .fieldLink RX8 22 "HedgeGame$Shape" "sets" "[I", .methodLink RX8 50 yX8_canStand, .instanceMethod yX8_canStand, .selects RX8 yX8_canStand yX8_canStand, .initialized RX8, .code yX8_canStand cX8_canStand 3 (some .boolean), .methodLink RX8 54 yX8_hasFooting, .instanceMethod yX8_hasFooting, .selects RX8 yX8_hasFooting yX8_hasFooting, .code yX8_hasFooting cX8_hasFooting 3 (some .boolean), .fieldLink RX8 15 "HedgeGame$Shape" "on" "[I"] ++ wsX80)
def wsX8_readFrom_r1 : List Cond := [Cond.methodLink RX8 34 Lib.Math.min.name, Cond.static Lib.Math.min.name, Cond.initialized "java/lang/Math", Cond.code Lib.Math.min.name Lib.Math.min.code 2 (some .int), Cond.fieldLink RX8 9 "HedgeGame$Shape" "number" "I", Cond.fieldLink RX8 15 "HedgeGame$Shape" "on" "[I", Cond.fieldLink RX8 19 "HedgeGame$Shape" "above" "[I", Cond.methodLink RX8 28 yX5_branches, Cond.instanceMethod yX5_branches, Cond.selects RX5 yX5_branches yX5_branches, Cond.initialized RX5, Cond.code yX5_branches cX5_branches 1 (some .int), Cond.fieldLink RX5 15 "HedgeGame$Page" "length" "I", Cond.methodLink RX8 40 yX5_groundAt, Cond.instanceMethod yX5_groundAt, Cond.selects RX5 yX5_groundAt yX5_groundAt, Cond.code yX5_groundAt cX5_groundAt 3 (some .int), Cond.methodLink RX5 29 yX5_at, Cond.instanceMethod yX5_at, Cond.selects RX5 yX5_at yX5_at, Cond.code yX5_at cX5_at 2 (some .char), Cond.fieldLink RX5 9 "HedgeGame$Page" "letters" "[C", Cond.methodLink RX8 44 yX8_withAllOn, Cond.instanceMethod yX8_withAllOn]
def wsX8_readFrom_r2 : List Cond := [Cond.selects RX8 yX8_withAllOn yX8_withAllOn, Cond.initialized RX8, Cond.code yX8_withAllOn cX8_withAllOn 2 (some .int), Cond.methodLink RX8 47 yX8_findSets, Cond.instanceMethod yX8_findSets, Cond.selects RX8 yX8_findSets yX8_findSets, Cond.code yX8_findSets cX8_findSets 2 none, Cond.fieldLink RX8 25 "HedgeGame$Shape" "setCount" "I", Cond.fieldLink RX8 22 "HedgeGame$Shape" "sets" "[I", Cond.methodLink RX8 50 yX8_canStand, Cond.instanceMethod yX8_canStand, Cond.selects RX8 yX8_canStand yX8_canStand, Cond.code yX8_canStand cX8_canStand 3 (some .boolean), Cond.methodLink RX8 54 yX8_hasFooting, Cond.instanceMethod yX8_hasFooting, Cond.selects RX8 yX8_hasFooting yX8_hasFooting, Cond.code yX8_hasFooting cX8_hasFooting 3 (some .boolean)]
def wsX8_readFrom : List Cond := .code yX8_readFrom cX8_readFrom 4 none :: ((wsX8_readFrom_r1 ++ wsX8_readFrom_r2) ++ wsX80 ++ wsX50)
def wsX8_onTheGround : List Cond := .code yX8_onTheGround cX8_onTheGround 3 (some .int) :: ([.fieldLink RX8 9 "HedgeGame$Shape" "number" "I", .fieldLink RX8 15 "HedgeGame$Shape" "on" "[I"] ++ wsX80)
def wsX9_init : List Cond := .code yX9_init cX9_init 2 none :: ([.methodLink RX9 3 objectInit, .instanceMethod objectInit, .code objectInit ⟨#[0xb1]⟩ 1 none, .arrayClass .int, .fieldLink RX9 9 "HedgeGame$Values" "value" "[I", .fieldLink RX9 15 "HedgeGame$Values" "rules" "LHedgeGame$Rules;"] ++ wsX90)
def wsX9_valueOf : List Cond := .code yX9_valueOf cX9_valueOf 2 (some .int) :: ([.fieldLink RX9 9 "HedgeGame$Values" "value" "[I"] ++ wsX90)
def wsX9_simplestBetween : List Cond := .code yX9_simplestBetween cX9_simplestBetween 7 (some .int) :: ([])
def wsX9_simplestOf : List Cond := .code yX9_simplestOf cX9_simplestOf 8 (some .int) :: ([.constant RX9 23 (-1048576), .constant RX9 24 (1048576), .fieldLink RX9 15 "HedgeGame$Values" "rules" "LHedgeGame$Rules;", .fieldLink RX9 9 "HedgeGame$Values" "value" "[I", .methodLink RX9 41 Lib.Math.max.name, .static Lib.Math.max.name, .initialized "java/lang/Math", .code Lib.Math.max.name Lib.Math.max.code 2 (some .int), .methodLink RX9 46 Lib.Math.min.name, .static Lib.Math.min.name, .code Lib.Math.min.name Lib.Math.min.code 2 (some .int), .methodLink RX9 37 yX6_leftBy, .instanceMethod yX6_leftBy, .selects RX6 yX6_leftBy yX6_leftBy, .initialized RX6, .code yX6_leftBy cX6_leftBy 3 (some .int), .fieldLink RX6 9 "HedgeGame$Rules" "shape" "LHedgeGame$Shape;", .methodLink RX9 49 yX9_simplestBetween, .static yX9_simplestBetween, .initialized RX9, .code yX9_simplestBetween cX9_simplestBetween 7 (some .int)] ++ wsX90 ++ wsX60 ++ wsX80)
def wsX9_enter_r1 : List Cond := [Cond.fieldLink RX9 9 "HedgeGame$Values" "value" "[I", Cond.methodLink RX9 19 yX9_simplestOf, Cond.instanceMethod yX9_simplestOf, Cond.selects RX9 yX9_simplestOf yX9_simplestOf, Cond.initialized RX9, Cond.code yX9_simplestOf cX9_simplestOf 8 (some .int), Cond.constant RX9 23 (-1048576), Cond.constant RX9 24 (1048576), Cond.fieldLink RX9 15 "HedgeGame$Values" "rules" "LHedgeGame$Rules;", Cond.methodLink RX9 41 Lib.Math.max.name, Cond.static Lib.Math.max.name, Cond.initialized "java/lang/Math", Cond.code Lib.Math.max.name Lib.Math.max.code 2 (some .int), Cond.methodLink RX9 46 Lib.Math.min.name, Cond.static Lib.Math.min.name, Cond.code Lib.Math.min.name Lib.Math.min.code 2 (some .int), Cond.methodLink RX9 37 yX6_leftBy, Cond.instanceMethod yX6_leftBy, Cond.selects RX6 yX6_leftBy yX6_leftBy, Cond.initialized RX6, Cond.code yX6_leftBy cX6_leftBy 3 (some .int), Cond.fieldLink RX6 9 "HedgeGame$Rules" "shape" "LHedgeGame$Shape;", Cond.methodLink RX9 49 yX9_simplestBetween, Cond.static yX9_simplestBetween]
def wsX9_enter_r2 : List Cond := [Cond.code yX9_simplestBetween cX9_simplestBetween 7 (some .int)]
def wsX9_enter : List Cond := .code yX9_enter cX9_enter 4 none :: ((wsX9_enter_r1 ++ wsX9_enter_r2) ++ wsX90 ++ wsX60 ++ wsX80)
def wsX10_init_r1 : List Cond := [Cond.methodLink RX10 1 objectInit, Cond.instanceMethod objectInit, Cond.code objectInit ⟨#[0xb1]⟩ 1 none, Cond.classLink RX10 7 RX5, Cond.instantiable RX5 2, Cond.initialized RX5, Cond.fieldLink RX10 10 "HedgeGame" "page" "LHedgeGame$Page;", Cond.classLink RX10 16 RX8, Cond.instantiable RX8 5, Cond.initialized RX8, Cond.fieldLink RX10 19 "HedgeGame" "shape" "LHedgeGame$Shape;", Cond.classLink RX10 23 RX3, Cond.instantiable RX3 5, Cond.initialized RX3, Cond.fieldLink RX10 26 "HedgeGame" "now" "LHedgeGame$Moment;", Cond.fieldLink RX10 30 "HedgeGame" "kept" "LHedgeGame$Moment;", Cond.classLink RX10 33 RX6, Cond.instantiable RX6 2, Cond.initialized RX6, Cond.fieldLink RX10 38 "HedgeGame" "rules" "LHedgeGame$Rules;", Cond.classLink RX10 42 RX4, Cond.instantiable RX4 2, Cond.initialized RX4, Cond.fieldLink RX10 47 "HedgeGame" "outcomes" "LHedgeGame$Outcomes;"]
def wsX10_init_r2 : List Cond := [Cond.classLink RX10 51 RX1, Cond.instantiable RX1 3, Cond.initialized RX1, Cond.fieldLink RX10 56 "HedgeGame" "lengths" "LHedgeGame$Lengths;", Cond.classLink RX10 60 RX9, Cond.instantiable RX9 2, Cond.initialized RX9, Cond.fieldLink RX10 63 "HedgeGame" "values" "LHedgeGame$Values;", Cond.classLink RX10 67 RX0, Cond.instantiable RX0 2, Cond.initialized RX0, Cond.fieldLink RX10 70 "HedgeGame" "chances" "LHedgeGame$Chances;", Cond.classLink RX10 74 RX2, Cond.instantiable RX2 4, Cond.initialized RX2, Cond.fieldLink RX10 77 "HedgeGame" "lottery" "LHedgeGame$Lottery;", Cond.fieldLink RX10 81 "HedgeGame" "isCharted" "Z", Cond.fieldLink RX10 85 "HedgeGame" "isKept" "Z", Cond.fieldLink RX10 88 "HedgeGame" "hedgesRead" "I", Cond.fieldLink RX10 92 "HedgeGame" "evensDone" "I", Cond.methodLink RX10 9 yX5_init, Cond.instanceMethod yX5_init, Cond.code yX5_init cX5_init 1 none, Cond.methodLink RX5 3 objectInit]
def wsX10_init_r3 : List Cond := [Cond.arrayClass .char, Cond.fieldLink RX5 9 "HedgeGame$Page" "letters" "[C", Cond.fieldLink RX5 15 "HedgeGame$Page" "length" "I", Cond.methodLink RX10 18 yX8_init, Cond.instanceMethod yX8_init, Cond.code yX8_init cX8_init 1 none, Cond.methodLink RX8 3 objectInit, Cond.fieldLink RX8 9 "HedgeGame$Shape" "number" "I", Cond.arrayClass .int, Cond.fieldLink RX8 15 "HedgeGame$Shape" "on" "[I", Cond.fieldLink RX8 19 "HedgeGame$Shape" "above" "[I", Cond.fieldLink RX8 22 "HedgeGame$Shape" "sets" "[I", Cond.fieldLink RX8 25 "HedgeGame$Shape" "setCount" "I", Cond.methodLink RX10 25 yX3_init, Cond.instanceMethod yX3_init, Cond.code yX3_init cX3_init 1 none, Cond.methodLink RX3 3 objectInit, Cond.fieldLink RX3 9 "HedgeGame$Moment" "kinds" "[I", Cond.fieldLink RX3 15 "HedgeGame$Moment" "standing" "I", Cond.fieldLink RX3 19 "HedgeGame$Moment" "turn" "I", Cond.fieldLink RX3 22 "HedgeGame$Moment" "cuts" "I", Cond.classLink RX3 25 RX7, Cond.instantiable RX7 4, Cond.initialized RX7]
def wsX10_init_r4 : List Cond := [Cond.fieldLink RX3 28 "HedgeGame$Moment" "seen" "LHedgeGame$Seen;", Cond.methodLink RX3 27 yX7_init, Cond.instanceMethod yX7_init, Cond.code yX7_init cX7_init 1 none, Cond.methodLink RX7 3 objectInit, Cond.fieldLink RX7 9 "HedgeGame$Seen" "size" "I", Cond.fieldLink RX7 15 "HedgeGame$Seen" "branches" "[I", Cond.fieldLink RX7 19 "HedgeGame$Seen" "beginners" "[I", Cond.arrayClass .boolean, Cond.fieldLink RX7 22 "HedgeGame$Seen" "won" "[Z", Cond.methodLink RX10 35 yX6_init, Cond.instanceMethod yX6_init, Cond.code yX6_init cX6_init 3 none, Cond.methodLink RX6 3 objectInit, Cond.fieldLink RX6 9 "HedgeGame$Rules" "shape" "LHedgeGame$Shape;", Cond.fieldLink RX6 15 "HedgeGame$Rules" "now" "LHedgeGame$Moment;", Cond.methodLink RX10 44 yX4_init, Cond.instanceMethod yX4_init, Cond.code yX4_init cX4_init 2 none, Cond.methodLink RX4 5 objectInit, Cond.arrayClass .long, Cond.fieldLink RX4 11 "HedgeGame$Outcomes" "won" "[J", Cond.fieldLink RX4 15 "HedgeGame$Outcomes" "rules" "LHedgeGame$Rules;", Cond.methodLink RX10 53 yX1_init]
def wsX10_init_r5 : List Cond := [Cond.instanceMethod yX1_init, Cond.code yX1_init cX1_init 3 none, Cond.methodLink RX1 3 objectInit, Cond.fieldLink RX1 9 "HedgeGame$Lengths" "cuts" "[I", Cond.fieldLink RX1 15 "HedgeGame$Lengths" "rules" "LHedgeGame$Rules;", Cond.fieldLink RX1 19 "HedgeGame$Lengths" "outcomes" "LHedgeGame$Outcomes;", Cond.methodLink RX10 62 yX9_init, Cond.instanceMethod yX9_init, Cond.code yX9_init cX9_init 2 none, Cond.methodLink RX9 3 objectInit, Cond.fieldLink RX9 9 "HedgeGame$Values" "value" "[I", Cond.fieldLink RX9 15 "HedgeGame$Values" "rules" "LHedgeGame$Rules;", Cond.methodLink RX10 69 yX0_init, Cond.instanceMethod yX0_init, Cond.code yX0_init cX0_init 2 none, Cond.methodLink RX0 3 objectInit, Cond.fieldLink RX0 9 "HedgeGame$Chances" "chance" "[J", Cond.fieldLink RX0 15 "HedgeGame$Chances" "rules" "LHedgeGame$Rules;", Cond.methodLink RX10 76 yX2_init, Cond.instanceMethod yX2_init, Cond.code yX2_init cX2_init 2 none, Cond.methodLink RX2 3 objectInit, Cond.fieldLink RX2 9 "HedgeGame$Lottery" "seed" "I", Cond.fieldLink RX2 15 "HedgeGame$Lottery" "whiteWon" "I"]
def wsX10_init_r6 : List Cond := [Cond.fieldLink RX2 18 "HedgeGame$Lottery" "cutsDone" "I", Cond.fieldLink RX2 21 "HedgeGame$Lottery" "rules" "LHedgeGame$Rules;"]
def wsX10_init : List Cond := .code yX10_init cX10_init 1 none :: ((wsX10_init_r1 ++ (wsX10_init_r2 ++ (wsX10_init_r3 ++ (wsX10_init_r4 ++ (wsX10_init_r5 ++ wsX10_init_r6))))) ++ wsX50 ++ wsX100 ++ wsX80 ++ wsX30 ++ wsX60 ++ wsX40 ++ wsX10 ++ wsX90 ++ wsX00 ++ wsX20 ++ wsX70)
def wsX10_letter : List Cond := .code yX10_letter cX10_letter 2 (some .int) :: ([.fieldLink RX10 10 "HedgeGame" "page" "LHedgeGame$Page;", .methodLink RX10 95 yX5_size, .instanceMethod yX5_size, .selects RX5 yX5_size yX5_size, .initialized RX5, .code yX5_size cX5_size 1 (some .int), .fieldLink RX5 15 "HedgeGame$Page" "length" "I", .methodLink RX10 99 yX5_add, .instanceMethod yX5_add, .selects RX5 yX5_add yX5_add, .code yX5_add cX5_add 2 none, .fieldLink RX5 9 "HedgeGame$Page" "letters" "[C"] ++ wsX100 ++ wsX50)
def wsX10_blank : List Cond := .code yX10_blank cX10_blank 2 (some .int) :: ([.fieldLink RX10 10 "HedgeGame" "page" "LHedgeGame$Page;", .methodLink RX10 95 yX5_size, .instanceMethod yX5_size, .selects RX5 yX5_size yX5_size, .initialized RX5, .code yX5_size cX5_size 1 (some .int), .fieldLink RX5 15 "HedgeGame$Page" "length" "I", .methodLink RX10 103 yX5_wipe, .instanceMethod yX5_wipe, .selects RX5 yX5_wipe yX5_wipe, .code yX5_wipe cX5_wipe 1 none] ++ wsX100 ++ wsX50)
def wsX10_fault_r1 : List Cond := [Cond.fieldLink RX10 10 "HedgeGame" "page" "LHedgeGame$Page;", Cond.methodLink RX10 106 yX5_firstWrong, Cond.instanceMethod yX5_firstWrong, Cond.selects RX5 yX5_firstWrong yX5_firstWrong, Cond.initialized RX5, Cond.code yX5_firstWrong cX5_firstWrong 2 (some .int), Cond.fieldLink RX5 15 "HedgeGame$Page" "length" "I", Cond.methodLink RX5 19 yX5_fits, Cond.instanceMethod yX5_fits, Cond.selects RX5 yX5_fits yX5_fits, Cond.code yX5_fits cX5_fits 3 (some .boolean), Cond.methodLink RX5 29 yX5_at, Cond.instanceMethod yX5_at, Cond.selects RX5 yX5_at yX5_at, Cond.code yX5_at cX5_at 2 (some .char), Cond.fieldLink RX5 9 "HedgeGame$Page" "letters" "[C", Cond.methodLink RX5 33 yJ0_indexOf_0f7a4, Cond.instanceMethod yJ0_indexOf_0f7a4, Cond.selects RJ0 yJ0_indexOf_0f7a4 yJ0_indexOf_0f7a4, Cond.initialized RJ0, Cond.code yJ0_indexOf_0f7a4 cJ0_indexOf_0f7a4 2 (some .int), Cond.methodLink RJ0 633 yJ0_indexOf_7cf53, Cond.instanceMethod yJ0_indexOf_7cf53, Cond.selects RJ0 yJ0_indexOf_7cf53 yJ0_indexOf_7cf53]
def wsX10_fault_r2 : List Cond := [Cond.code yJ0_indexOf_7cf53 cJ0_indexOf_7cf53 3 (some .int), Cond.fieldLink RJ0 9 "java/lang/String" "value" "[B", Cond.methodLink RJ0 492 yJ0_isLatin1_aae02, Cond.instanceMethod yJ0_isLatin1_aae02, Cond.selects RJ0 yJ0_isLatin1_aae02 yJ0_isLatin1_aae02, Cond.code yJ0_isLatin1_aae02 cJ0_isLatin1_aae02 1 (some .boolean), Cond.fieldLink RJ0 38 "java/lang/String" "COMPACT_STRINGS" "Z", Cond.fieldLink RJ0 15 "java/lang/String" "coder" "B", Cond.methodLink RJ0 505 yJ0_length_8abf5, Cond.instanceMethod yJ0_length_8abf5, Cond.selects RJ0 yJ0_length_8abf5 yJ0_length_8abf5, Cond.code yJ0_length_8abf5 cJ0_length_8abf5 1 (some .int), Cond.methodLink RJ0 335 yJ0_coder_7d493, Cond.instanceMethod yJ0_coder_7d493, Cond.selects RJ0 yJ0_coder_7d493 yJ0_coder_7d493, Cond.code yJ0_coder_7d493 cJ0_coder_7d493 1 (some .byte), Cond.methodLink RJ0 637 yJ1_indexOf_4cfef, Cond.static yJ1_indexOf_4cfef, Cond.initialized RJ1, Cond.code yJ1_indexOf_4cfef cJ1_indexOf_4cfef 4 (some .int), Cond.methodLink RJ1 92 Lib.Math.max.name, Cond.static Lib.Math.max.name, Cond.initialized "java/lang/Math", Cond.code Lib.Math.max.name Lib.Math.max.code 2 (some .int)]
def wsX10_fault_r3 : List Cond := [Cond.methodLink RJ1 38 Lib.Math.min.name, Cond.static Lib.Math.min.name, Cond.code Lib.Math.min.name Lib.Math.min.code 2 (some .int), Cond.methodLink RJ1 88 yJ1_canEncode_9a6ad, Cond.static yJ1_canEncode_9a6ad, Cond.code yJ1_canEncode_9a6ad cJ1_canEncode_9a6ad 1 (some .boolean), Cond.methodLink RJ1 95 yJ1_indexOfChar_4cfef, Cond.static yJ1_indexOfChar_4cfef, Cond.code yJ1_indexOfChar_4cfef cJ1_indexOfChar_4cfef 6 (some .int), Cond.methodLink RJ0 640 yJ2_indexOf_4cfef, Cond.static yJ2_indexOf_4cfef, Cond.initialized RJ2, Cond.code yJ2_indexOf_4cfef cJ2_indexOf_4cfef 4 (some .int), Cond.methodLink RJ2 224 Lib.Math.max.name, Cond.methodLink RJ2 183 Lib.Math.min.name, Cond.constant RJ2 227 (65536), Cond.methodLink RJ2 228 yJ2_indexOfChar_4cfef, Cond.static yJ2_indexOfChar_4cfef, Cond.code yJ2_indexOfChar_4cfef cJ2_indexOfChar_4cfef 4 (some .int), Cond.methodLink RJ2 96 yJ2_checkBoundsBeginEnd_d044e, Cond.static yJ2_checkBoundsBeginEnd_d044e, Cond.code yJ2_checkBoundsBeginEnd_d044e cJ2_checkBoundsBeginEnd_d044e 3 none, Cond.methodLink RJ2 48 yJ2_length_9d52b, Cond.static yJ2_length_9d52b]
def wsX10_fault_r4 : List Cond := [Cond.code yJ2_length_9d52b cJ2_length_9d52b 1 (some .int), Cond.methodLink RJ2 241 yJ0_checkBoundsBeginEnd_23922, Cond.static yJ0_checkBoundsBeginEnd_23922, Cond.code yJ0_checkBoundsBeginEnd_23922 cJ0_checkBoundsBeginEnd_23922 3 none, Cond.fieldLink RJ0 1053 "jdk/internal/util/Preconditions" "SIOOBE_FORMATTER" "Ljava/util/function/BiFunction;", Cond.methodLink RJ0 1062 yJ3_checkFromToIndex_8c36e, Cond.static yJ3_checkFromToIndex_8c36e, Cond.initialized RJ3, Cond.code yJ3_checkFromToIndex_8c36e cJ3_checkFromToIndex_8c36e 4 (some .int), Cond.methodLink RJ2 244 yJ2_indexOfCharUnsafe_4cfef, Cond.static yJ2_indexOfCharUnsafe_4cfef, Cond.code yJ2_indexOfCharUnsafe_4cfef cJ2_indexOfCharUnsafe_4cfef 5 (some .int), Cond.methodLink RJ2 71 yJ2_getChar_3b067, Cond.static yJ2_getChar_3b067, Cond.code yJ2_getChar_3b067 cJ2_getChar_3b067 2 (some .char), Cond.fieldLink RJ2 44 "java/lang/StringUTF16" "$assertionsDisabled" "Z", Cond.fieldLink RJ2 59 "java/lang/StringUTF16" "HI_BYTE_SHIFT" "I", Cond.fieldLink RJ2 63 "java/lang/StringUTF16" "LO_BYTE_SHIFT" "I", Cond.methodLink RJ2 232 yJ2_indexOfSupplementary_4cfef, Cond.static yJ2_indexOfSupplementary_4cfef, Cond.code yJ2_indexOfSupplementary_4cfef cJ2_indexOfSupplementary_4cfef 7 (some .int), Cond.methodLink RJ2 164 yJ11_isValidCodePoint_9a6ad, Cond.static yJ11_isValidCodePoint_9a6ad, Cond.initialized RJ11]
def wsX10_fault_r5 : List Cond := [Cond.code yJ11_isValidCodePoint_9a6ad cJ11_isValidCodePoint_9a6ad 2 (some .boolean), Cond.methodLink RJ2 157 yJ11_highSurrogate_5068e, Cond.static yJ11_highSurrogate_5068e, Cond.code yJ11_highSurrogate_5068e cJ11_highSurrogate_5068e 1 (some .char), Cond.constant RJ11 110 (55232), Cond.methodLink RJ2 161 yJ11_lowSurrogate_5068e, Cond.static yJ11_lowSurrogate_5068e, Cond.code yJ11_lowSurrogate_5068e cJ11_lowSurrogate_5068e 1 (some .char), Cond.constant RJ11 76 (56320)]
def wsX10_fault : List Cond := .code yX10_fault cX10_fault 1 (some .int) :: ((wsX10_fault_r1 ++ (wsX10_fault_r2 ++ (wsX10_fault_r3 ++ (wsX10_fault_r4 ++ wsX10_fault_r5)))) ++ wsX100 ++ wsX50)
def wsX10_hedge_r1 : List Cond := [Cond.fieldLink RX10 10 "HedgeGame" "page" "LHedgeGame$Page;", Cond.fieldLink RX10 19 "HedgeGame" "shape" "LHedgeGame$Shape;", Cond.fieldLink RX10 26 "HedgeGame" "now" "LHedgeGame$Moment;", Cond.fieldLink RX10 81 "HedgeGame" "isCharted" "Z", Cond.fieldLink RX10 85 "HedgeGame" "isKept" "Z", Cond.fieldLink RX10 88 "HedgeGame" "hedgesRead" "I", Cond.methodLink RX10 109 yX5_isWhole, Cond.instanceMethod yX5_isWhole, Cond.selects RX5 yX5_isWhole yX5_isWhole, Cond.initialized RX5, Cond.code yX5_isWhole cX5_isWhole 1 (some .boolean), Cond.fieldLink RX5 15 "HedgeGame$Page" "length" "I", Cond.methodLink RX5 23 yX5_firstWrong, Cond.instanceMethod yX5_firstWrong, Cond.selects RX5 yX5_firstWrong yX5_firstWrong, Cond.code yX5_firstWrong cX5_firstWrong 2 (some .int), Cond.methodLink RX5 19 yX5_fits, Cond.instanceMethod yX5_fits, Cond.selects RX5 yX5_fits yX5_fits, Cond.code yX5_fits cX5_fits 3 (some .boolean), Cond.methodLink RX5 29 yX5_at, Cond.instanceMethod yX5_at, Cond.selects RX5 yX5_at yX5_at, Cond.code yX5_at cX5_at 2 (some .char)]
def wsX10_hedge_r2 : List Cond := [Cond.fieldLink RX5 9 "HedgeGame$Page" "letters" "[C", Cond.methodLink RX5 33 yJ0_indexOf_0f7a4, Cond.instanceMethod yJ0_indexOf_0f7a4, Cond.selects RJ0 yJ0_indexOf_0f7a4 yJ0_indexOf_0f7a4, Cond.initialized RJ0, Cond.code yJ0_indexOf_0f7a4 cJ0_indexOf_0f7a4 2 (some .int), Cond.methodLink RJ0 633 yJ0_indexOf_7cf53, Cond.instanceMethod yJ0_indexOf_7cf53, Cond.selects RJ0 yJ0_indexOf_7cf53 yJ0_indexOf_7cf53, Cond.code yJ0_indexOf_7cf53 cJ0_indexOf_7cf53 3 (some .int), Cond.fieldLink RJ0 9 "java/lang/String" "value" "[B", Cond.methodLink RJ0 492 yJ0_isLatin1_aae02, Cond.instanceMethod yJ0_isLatin1_aae02, Cond.selects RJ0 yJ0_isLatin1_aae02 yJ0_isLatin1_aae02, Cond.code yJ0_isLatin1_aae02 cJ0_isLatin1_aae02 1 (some .boolean), Cond.fieldLink RJ0 38 "java/lang/String" "COMPACT_STRINGS" "Z", Cond.fieldLink RJ0 15 "java/lang/String" "coder" "B", Cond.methodLink RJ0 505 yJ0_length_8abf5, Cond.instanceMethod yJ0_length_8abf5, Cond.selects RJ0 yJ0_length_8abf5 yJ0_length_8abf5, Cond.code yJ0_length_8abf5 cJ0_length_8abf5 1 (some .int), Cond.methodLink RJ0 335 yJ0_coder_7d493, Cond.instanceMethod yJ0_coder_7d493, Cond.selects RJ0 yJ0_coder_7d493 yJ0_coder_7d493]
def wsX10_hedge_r3 : List Cond := [Cond.code yJ0_coder_7d493 cJ0_coder_7d493 1 (some .byte), Cond.methodLink RJ0 637 yJ1_indexOf_4cfef, Cond.static yJ1_indexOf_4cfef, Cond.initialized RJ1, Cond.code yJ1_indexOf_4cfef cJ1_indexOf_4cfef 4 (some .int), Cond.methodLink RJ1 92 Lib.Math.max.name, Cond.static Lib.Math.max.name, Cond.initialized "java/lang/Math", Cond.code Lib.Math.max.name Lib.Math.max.code 2 (some .int), Cond.methodLink RJ1 38 Lib.Math.min.name, Cond.static Lib.Math.min.name, Cond.code Lib.Math.min.name Lib.Math.min.code 2 (some .int), Cond.methodLink RJ1 88 yJ1_canEncode_9a6ad, Cond.static yJ1_canEncode_9a6ad, Cond.code yJ1_canEncode_9a6ad cJ1_canEncode_9a6ad 1 (some .boolean), Cond.methodLink RJ1 95 yJ1_indexOfChar_4cfef, Cond.static yJ1_indexOfChar_4cfef, Cond.code yJ1_indexOfChar_4cfef cJ1_indexOfChar_4cfef 6 (some .int), Cond.methodLink RJ0 640 yJ2_indexOf_4cfef, Cond.static yJ2_indexOf_4cfef, Cond.initialized RJ2, Cond.code yJ2_indexOf_4cfef cJ2_indexOf_4cfef 4 (some .int), Cond.methodLink RJ2 224 Lib.Math.max.name, Cond.methodLink RJ2 183 Lib.Math.min.name]
def wsX10_hedge_r4 : List Cond := [Cond.constant RJ2 227 (65536), Cond.methodLink RJ2 228 yJ2_indexOfChar_4cfef, Cond.static yJ2_indexOfChar_4cfef, Cond.code yJ2_indexOfChar_4cfef cJ2_indexOfChar_4cfef 4 (some .int), Cond.methodLink RJ2 96 yJ2_checkBoundsBeginEnd_d044e, Cond.static yJ2_checkBoundsBeginEnd_d044e, Cond.code yJ2_checkBoundsBeginEnd_d044e cJ2_checkBoundsBeginEnd_d044e 3 none, Cond.methodLink RJ2 48 yJ2_length_9d52b, Cond.static yJ2_length_9d52b, Cond.code yJ2_length_9d52b cJ2_length_9d52b 1 (some .int), Cond.methodLink RJ2 241 yJ0_checkBoundsBeginEnd_23922, Cond.static yJ0_checkBoundsBeginEnd_23922, Cond.code yJ0_checkBoundsBeginEnd_23922 cJ0_checkBoundsBeginEnd_23922 3 none, Cond.fieldLink RJ0 1053 "jdk/internal/util/Preconditions" "SIOOBE_FORMATTER" "Ljava/util/function/BiFunction;", Cond.methodLink RJ0 1062 yJ3_checkFromToIndex_8c36e, Cond.static yJ3_checkFromToIndex_8c36e, Cond.initialized RJ3, Cond.code yJ3_checkFromToIndex_8c36e cJ3_checkFromToIndex_8c36e 4 (some .int), Cond.methodLink RJ2 244 yJ2_indexOfCharUnsafe_4cfef, Cond.static yJ2_indexOfCharUnsafe_4cfef, Cond.code yJ2_indexOfCharUnsafe_4cfef cJ2_indexOfCharUnsafe_4cfef 5 (some .int), Cond.methodLink RJ2 71 yJ2_getChar_3b067, Cond.static yJ2_getChar_3b067, Cond.code yJ2_getChar_3b067 cJ2_getChar_3b067 2 (some .char)]
def wsX10_hedge_r5 : List Cond := [Cond.fieldLink RJ2 44 "java/lang/StringUTF16" "$assertionsDisabled" "Z", Cond.fieldLink RJ2 59 "java/lang/StringUTF16" "HI_BYTE_SHIFT" "I", Cond.fieldLink RJ2 63 "java/lang/StringUTF16" "LO_BYTE_SHIFT" "I", Cond.methodLink RJ2 232 yJ2_indexOfSupplementary_4cfef, Cond.static yJ2_indexOfSupplementary_4cfef, Cond.code yJ2_indexOfSupplementary_4cfef cJ2_indexOfSupplementary_4cfef 7 (some .int), Cond.methodLink RJ2 164 yJ11_isValidCodePoint_9a6ad, Cond.static yJ11_isValidCodePoint_9a6ad, Cond.initialized RJ11, Cond.code yJ11_isValidCodePoint_9a6ad cJ11_isValidCodePoint_9a6ad 2 (some .boolean), Cond.methodLink RJ2 157 yJ11_highSurrogate_5068e, Cond.static yJ11_highSurrogate_5068e, Cond.code yJ11_highSurrogate_5068e cJ11_highSurrogate_5068e 1 (some .char), Cond.constant RJ11 110 (55232), Cond.methodLink RJ2 161 yJ11_lowSurrogate_5068e, Cond.static yJ11_lowSurrogate_5068e, Cond.code yJ11_lowSurrogate_5068e cJ11_lowSurrogate_5068e 1 (some .char), Cond.constant RJ11 76 (56320), Cond.methodLink RX10 113 yX8_readFrom, Cond.instanceMethod yX8_readFrom, Cond.selects RX8 yX8_readFrom yX8_readFrom, Cond.initialized RX8, Cond.code yX8_readFrom cX8_readFrom 4 none, Cond.methodLink RX8 34 Lib.Math.min.name]
def wsX10_hedge_r6 : List Cond := [Cond.fieldLink RX8 9 "HedgeGame$Shape" "number" "I", Cond.fieldLink RX8 15 "HedgeGame$Shape" "on" "[I", Cond.fieldLink RX8 19 "HedgeGame$Shape" "above" "[I", Cond.methodLink RX8 28 yX5_branches, Cond.instanceMethod yX5_branches, Cond.selects RX5 yX5_branches yX5_branches, Cond.code yX5_branches cX5_branches 1 (some .int), Cond.methodLink RX8 40 yX5_groundAt, Cond.instanceMethod yX5_groundAt, Cond.selects RX5 yX5_groundAt yX5_groundAt, Cond.code yX5_groundAt cX5_groundAt 3 (some .int), Cond.methodLink RX8 44 yX8_withAllOn, Cond.instanceMethod yX8_withAllOn, Cond.selects RX8 yX8_withAllOn yX8_withAllOn, Cond.code yX8_withAllOn cX8_withAllOn 2 (some .int), Cond.methodLink RX8 47 yX8_findSets, Cond.instanceMethod yX8_findSets, Cond.selects RX8 yX8_findSets yX8_findSets, Cond.code yX8_findSets cX8_findSets 2 none, Cond.fieldLink RX8 25 "HedgeGame$Shape" "setCount" "I", Cond.fieldLink RX8 22 "HedgeGame$Shape" "sets" "[I", Cond.methodLink RX8 50 yX8_canStand, Cond.instanceMethod yX8_canStand, Cond.selects RX8 yX8_canStand yX8_canStand]
def wsX10_hedge_r7 : List Cond := [Cond.code yX8_canStand cX8_canStand 3 (some .boolean), Cond.methodLink RX8 54 yX8_hasFooting, Cond.instanceMethod yX8_hasFooting, Cond.selects RX8 yX8_hasFooting yX8_hasFooting, Cond.code yX8_hasFooting cX8_hasFooting 3 (some .boolean), Cond.methodLink RX10 120 yX3_beginWith, Cond.instanceMethod yX3_beginWith, Cond.selects RX3 yX3_beginWith yX3_beginWith, Cond.initialized RX3, Cond.code yX3_beginWith cX3_beginWith 4 none, Cond.fieldLink RX3 9 "HedgeGame$Moment" "kinds" "[I", Cond.fieldLink RX3 15 "HedgeGame$Moment" "standing" "I", Cond.fieldLink RX3 19 "HedgeGame$Moment" "turn" "I", Cond.fieldLink RX3 22 "HedgeGame$Moment" "cuts" "I", Cond.fieldLink RX3 28 "HedgeGame$Moment" "seen" "LHedgeGame$Seen;", Cond.methodLink RX3 32 yX5_kindAt, Cond.instanceMethod yX5_kindAt, Cond.selects RX5 yX5_kindAt yX5_kindAt, Cond.code yX5_kindAt cX5_kindAt 2 (some .int), Cond.methodLink RX5 39 Lib.Math.max.name, Cond.methodLink RX10 103 yX5_wipe, Cond.instanceMethod yX5_wipe, Cond.selects RX5 yX5_wipe yX5_wipe, Cond.code yX5_wipe cX5_wipe 1 none]
def wsX10_hedge : List Cond := .code yX10_hedge cX10_hedge 1 (some .int) :: ((wsX10_hedge_r1 ++ (wsX10_hedge_r2 ++ (wsX10_hedge_r3 ++ (wsX10_hedge_r4 ++ (wsX10_hedge_r5 ++ (wsX10_hedge_r6 ++ wsX10_hedge_r7)))))) ++ wsX100 ++ wsX80 ++ wsX50 ++ wsX30 ++ wsX70)
def wsX10_isUnknown : List Cond := .code yX10_isUnknown cX10_isUnknown 2 (some .boolean) :: ([.fieldLink RX10 19 "HedgeGame" "shape" "LHedgeGame$Shape;"] ++ wsX100 ++ wsX80)
def wsX10_chart_r1 : List Cond := [Cond.fieldLink RX10 81 "HedgeGame" "isCharted" "Z", Cond.fieldLink RX10 19 "HedgeGame" "shape" "LHedgeGame$Shape;", Cond.fieldLink RX10 38 "HedgeGame" "rules" "LHedgeGame$Rules;", Cond.fieldLink RX10 47 "HedgeGame" "outcomes" "LHedgeGame$Outcomes;", Cond.fieldLink RX10 56 "HedgeGame" "lengths" "LHedgeGame$Lengths;", Cond.fieldLink RX10 63 "HedgeGame" "values" "LHedgeGame$Values;", Cond.fieldLink RX10 70 "HedgeGame" "chances" "LHedgeGame$Chances;", Cond.methodLink RX10 138 yX6_choices, Cond.instanceMethod yX6_choices, Cond.selects RX6 yX6_choices yX6_choices, Cond.initialized RX6, Cond.code yX6_choices cX6_choices 5 (some .int), Cond.fieldLink RX6 9 "HedgeGame$Rules" "shape" "LHedgeGame$Shape;", Cond.fieldLink RX6 15 "HedgeGame$Rules" "now" "LHedgeGame$Moment;", Cond.methodLink RX6 29 yX6_kindsCutBy, Cond.instanceMethod yX6_kindsCutBy, Cond.selects RX6 yX6_kindsCutBy yX6_kindsCutBy, Cond.code yX6_kindsCutBy cX6_kindsCutBy 5 (some .int), Cond.methodLink RX10 276 yX4_enter, Cond.instanceMethod yX4_enter, Cond.selects RX4 yX4_enter yX4_enter, Cond.initialized RX4, Cond.code yX4_enter cX4_enter 8 none, Cond.fieldLink RX4 15 "HedgeGame$Outcomes" "rules" "LHedgeGame$Rules;"]
def wsX10_chart_r2 : List Cond := [Cond.fieldLink RX4 11 "HedgeGame$Outcomes" "won" "[J", Cond.constantLong RX4 40 (-1), Cond.methodLink RX4 37 yX6_leftBy, Cond.instanceMethod yX6_leftBy, Cond.selects RX6 yX6_leftBy yX6_leftBy, Cond.code yX6_leftBy cX6_leftBy 3 (some .int), Cond.static yX10_place, Cond.initialized RX10, Cond.code yX10_place cX10_place 2 (some .int), Cond.methodLink RX4 42 yX4_hedgesWithCut, Cond.instanceMethod yX4_hedgesWithCut, Cond.selects RX4 yX4_hedgesWithCut yX4_hedgesWithCut, Cond.code yX4_hedgesWithCut cX4_hedgesWithCut 9 (some .long), Cond.constantLong RX4 50 (31), Cond.constantLong RX4 62 (2199023255551), Cond.methodLink RX4 46 yX6_kindsCutBy, Cond.methodLink RX10 280 yX1_enter, Cond.instanceMethod yX1_enter, Cond.selects RX1 yX1_enter yX1_enter, Cond.initialized RX1, Cond.code yX1_enter cX1_enter 9 none, Cond.fieldLink RX1 19 "HedgeGame$Lengths" "outcomes" "LHedgeGame$Outcomes;", Cond.fieldLink RX1 15 "HedgeGame$Lengths" "rules" "LHedgeGame$Rules;", Cond.fieldLink RX1 9 "HedgeGame$Lengths" "cuts" "[I"]
def wsX10_chart_r3 : List Cond := [Cond.methodLink RX1 51 Lib.Math.max.name, Cond.static Lib.Math.max.name, Cond.initialized "java/lang/Math", Cond.code Lib.Math.max.name Lib.Math.max.code 2 (some .int), Cond.methodLink RX1 56 Lib.Math.min.name, Cond.static Lib.Math.min.name, Cond.code Lib.Math.min.name Lib.Math.min.code 2 (some .int), Cond.methodLink RX1 27 yX4_isWonBy, Cond.instanceMethod yX4_isWonBy, Cond.selects RX4 yX4_isWonBy yX4_isWonBy, Cond.code yX4_isWonBy cX4_isWonBy 3 (some .boolean), Cond.constantLong RX4 23 (1099511627776), Cond.methodLink RX1 48 yX6_leftBy, Cond.methodLink RX10 282 yX9_enter, Cond.instanceMethod yX9_enter, Cond.selects RX9 yX9_enter yX9_enter, Cond.initialized RX9, Cond.code yX9_enter cX9_enter 4 none, Cond.fieldLink RX9 9 "HedgeGame$Values" "value" "[I", Cond.methodLink RX9 19 yX9_simplestOf, Cond.instanceMethod yX9_simplestOf, Cond.selects RX9 yX9_simplestOf yX9_simplestOf, Cond.code yX9_simplestOf cX9_simplestOf 8 (some .int), Cond.constant RX9 23 (-1048576)]
def wsX10_chart_r4 : List Cond := [Cond.constant RX9 24 (1048576), Cond.fieldLink RX9 15 "HedgeGame$Values" "rules" "LHedgeGame$Rules;", Cond.methodLink RX9 41 Lib.Math.max.name, Cond.methodLink RX9 46 Lib.Math.min.name, Cond.methodLink RX9 37 yX6_leftBy, Cond.methodLink RX9 49 yX9_simplestBetween, Cond.static yX9_simplestBetween, Cond.code yX9_simplestBetween cX9_simplestBetween 7 (some .int), Cond.methodLink RX10 283 yX0_enter, Cond.instanceMethod yX0_enter, Cond.selects RX0 yX0_enter yX0_enter, Cond.initialized RX0, Cond.code yX0_enter cX0_enter 8 none, Cond.fieldLink RX0 9 "HedgeGame$Chances" "chance" "[J", Cond.constantLong RX0 25 (182891520000), Cond.fieldLink RX0 15 "HedgeGame$Chances" "rules" "LHedgeGame$Rules;", Cond.methodLink RX0 27 yJ6_bitCount_0f7a4, Cond.static yJ6_bitCount_0f7a4, Cond.initialized RJ6, Cond.code yJ6_bitCount_0f7a4 cJ6_bitCount_0f7a4 1 (some .int), Cond.constant RJ6 265 (1431655765), Cond.constant RJ6 266 (858993459), Cond.constant RJ6 267 (252645135), Cond.methodLink RX0 45 yX6_leftBy]
def wsX10_chart : List Cond := .code yX10_chart cX10_chart 5 none :: ((wsX10_chart_r1 ++ (wsX10_chart_r2 ++ (wsX10_chart_r3 ++ wsX10_chart_r4))) ++ wsX100 ++ wsX80 ++ wsX60 ++ wsX30 ++ wsX40 ++ wsX10 ++ wsX90 ++ wsX00)
def wsX10_sortsOf : List Cond := .code yX10_sortsOf cX10_sortsOf 5 (some .int) :: ([.fieldLink RX10 26 "HedgeGame" "now" "LHedgeGame$Moment;", .fieldLink RX10 47 "HedgeGame" "outcomes" "LHedgeGame$Outcomes;", .methodLink RX10 284 yX4_winningKinds, .instanceMethod yX4_winningKinds, .selects RX4 yX4_winningKinds yX4_winningKinds, .initialized RX4, .code yX4_winningKinds cX4_winningKinds 4 (some .int), .fieldLink RX4 11 "HedgeGame$Outcomes" "won" "[J", .static yX10_place, .initialized RX10, .code yX10_place cX10_place 2 (some .int)] ++ wsX100 ++ wsX30 ++ wsX70 ++ wsX40)
def wsX10_mostLeft : List Cond := .code yX10_mostLeft cX10_mostLeft 2 (some .int) :: ([.methodLink RX10 301 Lib.Math.max.name, .static Lib.Math.max.name, .initialized "java/lang/Math", .code Lib.Math.max.name Lib.Math.max.code 2 (some .int), .methodLink RX10 164 yJ6_bitCount_0f7a4, .static yJ6_bitCount_0f7a4, .initialized RJ6, .code yJ6_bitCount_0f7a4 cJ6_bitCount_0f7a4 1 (some .int), .constant RJ6 265 (1431655765), .constant RJ6 266 (858993459), .constant RJ6 267 (252645135)])
def wsX10_whomToLetBegin_r1 : List Cond := [Cond.fieldLink RX10 47 "HedgeGame" "outcomes" "LHedgeGame$Outcomes;", Cond.fieldLink RX10 26 "HedgeGame" "now" "LHedgeGame$Moment;", Cond.methodLink RX10 148 yX10_sortsOf, Cond.instanceMethod yX10_sortsOf, Cond.selects RX10 yX10_sortsOf yX10_sortsOf, Cond.initialized RX10, Cond.code yX10_sortsOf cX10_sortsOf 5 (some .int), Cond.methodLink RX10 284 yX4_winningKinds, Cond.instanceMethod yX4_winningKinds, Cond.selects RX4 yX4_winningKinds yX4_winningKinds, Cond.initialized RX4, Cond.code yX4_winningKinds cX4_winningKinds 4 (some .int), Cond.fieldLink RX4 11 "HedgeGame$Outcomes" "won" "[J", Cond.static yX10_place, Cond.code yX10_place cX10_place 2 (some .int), Cond.methodLink RX10 298 yX10_mostLeft, Cond.static yX10_mostLeft, Cond.code yX10_mostLeft cX10_mostLeft 2 (some .int), Cond.methodLink RX10 301 Lib.Math.max.name, Cond.static Lib.Math.max.name, Cond.initialized "java/lang/Math", Cond.code Lib.Math.max.name Lib.Math.max.code 2 (some .int), Cond.methodLink RX10 164 yJ6_bitCount_0f7a4, Cond.static yJ6_bitCount_0f7a4]
def wsX10_whomToLetBegin_r2 : List Cond := [Cond.initialized RJ6, Cond.code yJ6_bitCount_0f7a4 cJ6_bitCount_0f7a4 1 (some .int), Cond.constant RJ6 265 (1431655765), Cond.constant RJ6 266 (858993459), Cond.constant RJ6 267 (252645135)]
def wsX10_whomToLetBegin : List Cond := .code yX10_whomToLetBegin cX10_whomToLetBegin 5 (some .int) :: ((wsX10_whomToLetBegin_r1 ++ wsX10_whomToLetBegin_r2) ++ wsX100 ++ wsX30 ++ wsX70 ++ wsX40)
def wsX10_branch_r1 : List Cond := [Cond.fieldLink RX10 26 "HedgeGame" "now" "LHedgeGame$Moment;", Cond.fieldLink RX10 19 "HedgeGame" "shape" "LHedgeGame$Shape;", Cond.fieldLink RX10 38 "HedgeGame" "rules" "LHedgeGame$Rules;", Cond.methodLink RX10 124 yX10_isUnknown, Cond.instanceMethod yX10_isUnknown, Cond.selects RX10 yX10_isUnknown yX10_isUnknown, Cond.initialized RX10, Cond.code yX10_isUnknown cX10_isUnknown 2 (some .boolean), Cond.methodLink RX10 138 yX6_choices, Cond.instanceMethod yX6_choices, Cond.selects RX6 yX6_choices yX6_choices, Cond.initialized RX6, Cond.code yX6_choices cX6_choices 5 (some .int), Cond.fieldLink RX6 9 "HedgeGame$Rules" "shape" "LHedgeGame$Shape;", Cond.fieldLink RX6 15 "HedgeGame$Rules" "now" "LHedgeGame$Moment;", Cond.methodLink RX6 29 yX6_kindsCutBy, Cond.instanceMethod yX6_kindsCutBy, Cond.selects RX6 yX6_kindsCutBy yX6_kindsCutBy, Cond.code yX6_kindsCutBy cX6_kindsCutBy 5 (some .int), Cond.methodLink RX10 145 yX10_chart, Cond.instanceMethod yX10_chart, Cond.selects RX10 yX10_chart yX10_chart, Cond.code yX10_chart cX10_chart 5 none, Cond.fieldLink RX10 81 "HedgeGame" "isCharted" "Z"]
def wsX10_branch_r2 : List Cond := [Cond.fieldLink RX10 47 "HedgeGame" "outcomes" "LHedgeGame$Outcomes;", Cond.fieldLink RX10 56 "HedgeGame" "lengths" "LHedgeGame$Lengths;", Cond.fieldLink RX10 63 "HedgeGame" "values" "LHedgeGame$Values;", Cond.fieldLink RX10 70 "HedgeGame" "chances" "LHedgeGame$Chances;", Cond.methodLink RX10 276 yX4_enter, Cond.instanceMethod yX4_enter, Cond.selects RX4 yX4_enter yX4_enter, Cond.initialized RX4, Cond.code yX4_enter cX4_enter 8 none, Cond.fieldLink RX4 15 "HedgeGame$Outcomes" "rules" "LHedgeGame$Rules;", Cond.fieldLink RX4 11 "HedgeGame$Outcomes" "won" "[J", Cond.constantLong RX4 40 (-1), Cond.methodLink RX4 37 yX6_leftBy, Cond.instanceMethod yX6_leftBy, Cond.selects RX6 yX6_leftBy yX6_leftBy, Cond.code yX6_leftBy cX6_leftBy 3 (some .int), Cond.static yX10_place, Cond.code yX10_place cX10_place 2 (some .int), Cond.methodLink RX4 42 yX4_hedgesWithCut, Cond.instanceMethod yX4_hedgesWithCut, Cond.selects RX4 yX4_hedgesWithCut yX4_hedgesWithCut, Cond.code yX4_hedgesWithCut cX4_hedgesWithCut 9 (some .long), Cond.constantLong RX4 50 (31), Cond.constantLong RX4 62 (2199023255551)]
def wsX10_branch_r3 : List Cond := [Cond.methodLink RX4 46 yX6_kindsCutBy, Cond.methodLink RX10 280 yX1_enter, Cond.instanceMethod yX1_enter, Cond.selects RX1 yX1_enter yX1_enter, Cond.initialized RX1, Cond.code yX1_enter cX1_enter 9 none, Cond.fieldLink RX1 19 "HedgeGame$Lengths" "outcomes" "LHedgeGame$Outcomes;", Cond.fieldLink RX1 15 "HedgeGame$Lengths" "rules" "LHedgeGame$Rules;", Cond.fieldLink RX1 9 "HedgeGame$Lengths" "cuts" "[I", Cond.methodLink RX1 51 Lib.Math.max.name, Cond.static Lib.Math.max.name, Cond.initialized "java/lang/Math", Cond.code Lib.Math.max.name Lib.Math.max.code 2 (some .int), Cond.methodLink RX1 56 Lib.Math.min.name, Cond.static Lib.Math.min.name, Cond.code Lib.Math.min.name Lib.Math.min.code 2 (some .int), Cond.methodLink RX1 27 yX4_isWonBy, Cond.instanceMethod yX4_isWonBy, Cond.selects RX4 yX4_isWonBy yX4_isWonBy, Cond.code yX4_isWonBy cX4_isWonBy 3 (some .boolean), Cond.constantLong RX4 23 (1099511627776), Cond.methodLink RX1 48 yX6_leftBy, Cond.methodLink RX10 282 yX9_enter, Cond.instanceMethod yX9_enter]
def wsX10_branch_r4 : List Cond := [Cond.selects RX9 yX9_enter yX9_enter, Cond.initialized RX9, Cond.code yX9_enter cX9_enter 4 none, Cond.fieldLink RX9 9 "HedgeGame$Values" "value" "[I", Cond.methodLink RX9 19 yX9_simplestOf, Cond.instanceMethod yX9_simplestOf, Cond.selects RX9 yX9_simplestOf yX9_simplestOf, Cond.code yX9_simplestOf cX9_simplestOf 8 (some .int), Cond.constant RX9 23 (-1048576), Cond.constant RX9 24 (1048576), Cond.fieldLink RX9 15 "HedgeGame$Values" "rules" "LHedgeGame$Rules;", Cond.methodLink RX9 41 Lib.Math.max.name, Cond.methodLink RX9 46 Lib.Math.min.name, Cond.methodLink RX9 37 yX6_leftBy, Cond.methodLink RX9 49 yX9_simplestBetween, Cond.static yX9_simplestBetween, Cond.code yX9_simplestBetween cX9_simplestBetween 7 (some .int), Cond.methodLink RX10 283 yX0_enter, Cond.instanceMethod yX0_enter, Cond.selects RX0 yX0_enter yX0_enter, Cond.initialized RX0, Cond.code yX0_enter cX0_enter 8 none, Cond.fieldLink RX0 9 "HedgeGame$Chances" "chance" "[J", Cond.constantLong RX0 25 (182891520000)]
def wsX10_branch_r5 : List Cond := [Cond.fieldLink RX0 15 "HedgeGame$Chances" "rules" "LHedgeGame$Rules;", Cond.methodLink RX0 27 yJ6_bitCount_0f7a4, Cond.static yJ6_bitCount_0f7a4, Cond.initialized RJ6, Cond.code yJ6_bitCount_0f7a4 cJ6_bitCount_0f7a4 1 (some .int), Cond.constant RJ6 265 (1431655765), Cond.constant RJ6 266 (858993459), Cond.constant RJ6 267 (252645135), Cond.methodLink RX0 45 yX6_leftBy, Cond.methodLink RX10 148 yX10_sortsOf, Cond.instanceMethod yX10_sortsOf, Cond.selects RX10 yX10_sortsOf yX10_sortsOf, Cond.code yX10_sortsOf cX10_sortsOf 5 (some .int), Cond.methodLink RX10 284 yX4_winningKinds, Cond.instanceMethod yX4_winningKinds, Cond.selects RX4 yX4_winningKinds yX4_winningKinds, Cond.code yX4_winningKinds cX4_winningKinds 4 (some .int), Cond.methodLink RX10 152 yX10_whomToLetBegin, Cond.instanceMethod yX10_whomToLetBegin, Cond.selects RX10 yX10_whomToLetBegin yX10_whomToLetBegin, Cond.code yX10_whomToLetBegin cX10_whomToLetBegin 5 (some .int), Cond.methodLink RX10 298 yX10_mostLeft, Cond.static yX10_mostLeft, Cond.code yX10_mostLeft cX10_mostLeft 2 (some .int)]
def wsX10_branch_r6 : List Cond := [Cond.methodLink RX10 301 Lib.Math.max.name, Cond.methodLink RX10 164 yJ6_bitCount_0f7a4]
def wsX10_branch : List Cond := .code yX10_branch cX10_branch 3 (some .int) :: ((wsX10_branch_r1 ++ (wsX10_branch_r2 ++ (wsX10_branch_r3 ++ (wsX10_branch_r4 ++ (wsX10_branch_r5 ++ wsX10_branch_r6))))) ++ wsX100 ++ wsX30 ++ wsX80 ++ wsX60 ++ wsX40 ++ wsX10 ++ wsX90 ++ wsX00 ++ wsX70)
def wsX10_as : List Cond := .code yX10_as cX10_as 3 (some .int) :: ([.fieldLink RX10 155 "HedgeGame" "SUCH_KINDS" "[I", .fieldLink RX10 26 "HedgeGame" "now" "LHedgeGame$Moment;", .methodLink RX10 124 yX10_isUnknown, .instanceMethod yX10_isUnknown, .selects RX10 yX10_isUnknown yX10_isUnknown, .initialized RX10, .code yX10_isUnknown cX10_isUnknown 2 (some .boolean), .fieldLink RX10 19 "HedgeGame" "shape" "LHedgeGame$Shape;"] ++ wsX100 ++ wsX30 ++ wsX80)
def wsX10_cut_r1 : List Cond := [Cond.fieldLink RX10 38 "HedgeGame" "rules" "LHedgeGame$Rules;", Cond.fieldLink RX10 26 "HedgeGame" "now" "LHedgeGame$Moment;", Cond.methodLink RX10 124 yX10_isUnknown, Cond.instanceMethod yX10_isUnknown, Cond.selects RX10 yX10_isUnknown yX10_isUnknown, Cond.initialized RX10, Cond.code yX10_isUnknown cX10_isUnknown 2 (some .boolean), Cond.fieldLink RX10 19 "HedgeGame" "shape" "LHedgeGame$Shape;", Cond.methodLink RX10 138 yX6_choices, Cond.instanceMethod yX6_choices, Cond.selects RX6 yX6_choices yX6_choices, Cond.initialized RX6, Cond.code yX6_choices cX6_choices 5 (some .int), Cond.fieldLink RX6 9 "HedgeGame$Rules" "shape" "LHedgeGame$Shape;", Cond.fieldLink RX6 15 "HedgeGame$Rules" "now" "LHedgeGame$Moment;", Cond.methodLink RX6 29 yX6_kindsCutBy, Cond.instanceMethod yX6_kindsCutBy, Cond.selects RX6 yX6_kindsCutBy yX6_kindsCutBy, Cond.code yX6_kindsCutBy cX6_kindsCutBy 5 (some .int), Cond.methodLink RX10 164 yJ6_bitCount_0f7a4, Cond.static yJ6_bitCount_0f7a4, Cond.initialized RJ6, Cond.code yJ6_bitCount_0f7a4 cJ6_bitCount_0f7a4 1 (some .int), Cond.constant RJ6 265 (1431655765)]
def wsX10_cut_r2 : List Cond := [Cond.constant RJ6 266 (858993459), Cond.constant RJ6 267 (252645135), Cond.methodLink RX10 169 yX6_leftBy, Cond.instanceMethod yX6_leftBy, Cond.selects RX6 yX6_leftBy yX6_leftBy, Cond.code yX6_leftBy cX6_leftBy 3 (some .int)]
def wsX10_cut : List Cond := .code yX10_cut cX10_cut 3 (some .int) :: ((wsX10_cut_r1 ++ wsX10_cut_r2) ++ wsX100 ++ wsX30 ++ wsX80 ++ wsX60)
def wsX10_grow : List Cond := .code yX10_grow cX10_grow 2 (some .int) :: ([.fieldLink RX10 26 "HedgeGame" "now" "LHedgeGame$Moment;", .fieldLink RX10 19 "HedgeGame" "shape" "LHedgeGame$Shape;", .methodLink RX10 124 yX10_isUnknown, .instanceMethod yX10_isUnknown, .selects RX10 yX10_isUnknown yX10_isUnknown, .initialized RX10, .code yX10_isUnknown cX10_isUnknown 2 (some .boolean), .methodLink RX10 172 yX8_hasFooting, .instanceMethod yX8_hasFooting, .selects RX8 yX8_hasFooting yX8_hasFooting, .initialized RX8, .code yX8_hasFooting cX8_hasFooting 3 (some .boolean), .fieldLink RX8 15 "HedgeGame$Shape" "on" "[I", .methodLink RX10 164 yJ6_bitCount_0f7a4, .static yJ6_bitCount_0f7a4, .initialized RJ6, .code yJ6_bitCount_0f7a4 cJ6_bitCount_0f7a4 1 (some .int), .constant RJ6 265 (1431655765), .constant RJ6 266 (858993459), .constant RJ6 267 (252645135)] ++ wsX100 ++ wsX30 ++ wsX80)
def wsX10_hasNoHedge : List Cond := .code yX10_hasNoHedge cX10_hasNoHedge 1 (some .boolean) :: ([.fieldLink RX10 19 "HedgeGame" "shape" "LHedgeGame$Shape;"] ++ wsX100 ++ wsX80)
def wsX10_pass : List Cond := .code yX10_pass cX10_pass 2 (some .int) :: ([.fieldLink RX10 26 "HedgeGame" "now" "LHedgeGame$Moment;", .methodLink RX10 176 yX10_hasNoHedge, .instanceMethod yX10_hasNoHedge, .selects RX10 yX10_hasNoHedge yX10_hasNoHedge, .initialized RX10, .code yX10_hasNoHedge cX10_hasNoHedge 1 (some .boolean), .fieldLink RX10 19 "HedgeGame" "shape" "LHedgeGame$Shape;"] ++ wsX100 ++ wsX30 ++ wsX80)
def wsX10_graft : List Cond := .code yX10_graft cX10_graft 4 (some .int) :: ([.fieldLink RX10 26 "HedgeGame" "now" "LHedgeGame$Moment;", .fieldLink RX10 81 "HedgeGame" "isCharted" "Z", .methodLink RX10 124 yX10_isUnknown, .instanceMethod yX10_isUnknown, .selects RX10 yX10_isUnknown yX10_isUnknown, .initialized RX10, .code yX10_isUnknown cX10_isUnknown 2 (some .boolean), .fieldLink RX10 19 "HedgeGame" "shape" "LHedgeGame$Shape;"] ++ wsX100 ++ wsX30 ++ wsX80)
def wsX10_isNoSide : List Cond := .code yX10_isNoSide cX10_isNoSide 1 (some .boolean) :: ([])
def wsX10_wins_r1 : List Cond := [Cond.fieldLink RX10 47 "HedgeGame" "outcomes" "LHedgeGame$Outcomes;", Cond.fieldLink RX10 26 "HedgeGame" "now" "LHedgeGame$Moment;", Cond.methodLink RX10 179 yX10_isNoSide, Cond.static yX10_isNoSide, Cond.initialized RX10, Cond.code yX10_isNoSide cX10_isNoSide 1 (some .boolean), Cond.methodLink RX10 176 yX10_hasNoHedge, Cond.instanceMethod yX10_hasNoHedge, Cond.selects RX10 yX10_hasNoHedge yX10_hasNoHedge, Cond.code yX10_hasNoHedge cX10_hasNoHedge 1 (some .boolean), Cond.fieldLink RX10 19 "HedgeGame" "shape" "LHedgeGame$Shape;", Cond.methodLink RX10 145 yX10_chart, Cond.instanceMethod yX10_chart, Cond.selects RX10 yX10_chart yX10_chart, Cond.code yX10_chart cX10_chart 5 none, Cond.fieldLink RX10 81 "HedgeGame" "isCharted" "Z", Cond.fieldLink RX10 38 "HedgeGame" "rules" "LHedgeGame$Rules;", Cond.fieldLink RX10 56 "HedgeGame" "lengths" "LHedgeGame$Lengths;", Cond.fieldLink RX10 63 "HedgeGame" "values" "LHedgeGame$Values;", Cond.fieldLink RX10 70 "HedgeGame" "chances" "LHedgeGame$Chances;", Cond.methodLink RX10 138 yX6_choices, Cond.instanceMethod yX6_choices, Cond.selects RX6 yX6_choices yX6_choices, Cond.initialized RX6]
def wsX10_wins_r2 : List Cond := [Cond.code yX6_choices cX6_choices 5 (some .int), Cond.fieldLink RX6 9 "HedgeGame$Rules" "shape" "LHedgeGame$Shape;", Cond.fieldLink RX6 15 "HedgeGame$Rules" "now" "LHedgeGame$Moment;", Cond.methodLink RX6 29 yX6_kindsCutBy, Cond.instanceMethod yX6_kindsCutBy, Cond.selects RX6 yX6_kindsCutBy yX6_kindsCutBy, Cond.code yX6_kindsCutBy cX6_kindsCutBy 5 (some .int), Cond.methodLink RX10 276 yX4_enter, Cond.instanceMethod yX4_enter, Cond.selects RX4 yX4_enter yX4_enter, Cond.initialized RX4, Cond.code yX4_enter cX4_enter 8 none, Cond.fieldLink RX4 15 "HedgeGame$Outcomes" "rules" "LHedgeGame$Rules;", Cond.fieldLink RX4 11 "HedgeGame$Outcomes" "won" "[J", Cond.constantLong RX4 40 (-1), Cond.methodLink RX4 37 yX6_leftBy, Cond.instanceMethod yX6_leftBy, Cond.selects RX6 yX6_leftBy yX6_leftBy, Cond.code yX6_leftBy cX6_leftBy 3 (some .int), Cond.static yX10_place, Cond.code yX10_place cX10_place 2 (some .int), Cond.methodLink RX4 42 yX4_hedgesWithCut, Cond.instanceMethod yX4_hedgesWithCut, Cond.selects RX4 yX4_hedgesWithCut yX4_hedgesWithCut]
def wsX10_wins_r3 : List Cond := [Cond.code yX4_hedgesWithCut cX4_hedgesWithCut 9 (some .long), Cond.constantLong RX4 50 (31), Cond.constantLong RX4 62 (2199023255551), Cond.methodLink RX4 46 yX6_kindsCutBy, Cond.methodLink RX10 280 yX1_enter, Cond.instanceMethod yX1_enter, Cond.selects RX1 yX1_enter yX1_enter, Cond.initialized RX1, Cond.code yX1_enter cX1_enter 9 none, Cond.fieldLink RX1 19 "HedgeGame$Lengths" "outcomes" "LHedgeGame$Outcomes;", Cond.fieldLink RX1 15 "HedgeGame$Lengths" "rules" "LHedgeGame$Rules;", Cond.fieldLink RX1 9 "HedgeGame$Lengths" "cuts" "[I", Cond.methodLink RX1 51 Lib.Math.max.name, Cond.static Lib.Math.max.name, Cond.initialized "java/lang/Math", Cond.code Lib.Math.max.name Lib.Math.max.code 2 (some .int), Cond.methodLink RX1 56 Lib.Math.min.name, Cond.static Lib.Math.min.name, Cond.code Lib.Math.min.name Lib.Math.min.code 2 (some .int), Cond.methodLink RX1 27 yX4_isWonBy, Cond.instanceMethod yX4_isWonBy, Cond.selects RX4 yX4_isWonBy yX4_isWonBy, Cond.code yX4_isWonBy cX4_isWonBy 3 (some .boolean), Cond.constantLong RX4 23 (1099511627776)]
def wsX10_wins_r4 : List Cond := [Cond.methodLink RX1 48 yX6_leftBy, Cond.methodLink RX10 282 yX9_enter, Cond.instanceMethod yX9_enter, Cond.selects RX9 yX9_enter yX9_enter, Cond.initialized RX9, Cond.code yX9_enter cX9_enter 4 none, Cond.fieldLink RX9 9 "HedgeGame$Values" "value" "[I", Cond.methodLink RX9 19 yX9_simplestOf, Cond.instanceMethod yX9_simplestOf, Cond.selects RX9 yX9_simplestOf yX9_simplestOf, Cond.code yX9_simplestOf cX9_simplestOf 8 (some .int), Cond.constant RX9 23 (-1048576), Cond.constant RX9 24 (1048576), Cond.fieldLink RX9 15 "HedgeGame$Values" "rules" "LHedgeGame$Rules;", Cond.methodLink RX9 41 Lib.Math.max.name, Cond.methodLink RX9 46 Lib.Math.min.name, Cond.methodLink RX9 37 yX6_leftBy, Cond.methodLink RX9 49 yX9_simplestBetween, Cond.static yX9_simplestBetween, Cond.code yX9_simplestBetween cX9_simplestBetween 7 (some .int), Cond.methodLink RX10 283 yX0_enter, Cond.instanceMethod yX0_enter, Cond.selects RX0 yX0_enter yX0_enter, Cond.initialized RX0]
def wsX10_wins_r5 : List Cond := [Cond.code yX0_enter cX0_enter 8 none, Cond.fieldLink RX0 9 "HedgeGame$Chances" "chance" "[J", Cond.constantLong RX0 25 (182891520000), Cond.fieldLink RX0 15 "HedgeGame$Chances" "rules" "LHedgeGame$Rules;", Cond.methodLink RX0 27 yJ6_bitCount_0f7a4, Cond.static yJ6_bitCount_0f7a4, Cond.initialized RJ6, Cond.code yJ6_bitCount_0f7a4 cJ6_bitCount_0f7a4 1 (some .int), Cond.constant RJ6 265 (1431655765), Cond.constant RJ6 266 (858993459), Cond.constant RJ6 267 (252645135), Cond.methodLink RX0 45 yX6_leftBy, Cond.methodLink RX10 182 yX4_isWonBy]
def wsX10_wins : List Cond := .code yX10_wins cX10_wins 2 (some .int) :: ((wsX10_wins_r1 ++ (wsX10_wins_r2 ++ (wsX10_wins_r3 ++ (wsX10_wins_r4 ++ wsX10_wins_r5)))) ++ wsX100 ++ wsX30 ++ wsX80 ++ wsX60 ++ wsX40 ++ wsX10 ++ wsX90 ++ wsX00)
def wsX10_best_r1 : List Cond := [Cond.fieldLink RX10 56 "HedgeGame" "lengths" "LHedgeGame$Lengths;", Cond.fieldLink RX10 26 "HedgeGame" "now" "LHedgeGame$Moment;", Cond.methodLink RX10 179 yX10_isNoSide, Cond.static yX10_isNoSide, Cond.initialized RX10, Cond.code yX10_isNoSide cX10_isNoSide 1 (some .boolean), Cond.methodLink RX10 176 yX10_hasNoHedge, Cond.instanceMethod yX10_hasNoHedge, Cond.selects RX10 yX10_hasNoHedge yX10_hasNoHedge, Cond.code yX10_hasNoHedge cX10_hasNoHedge 1 (some .boolean), Cond.fieldLink RX10 19 "HedgeGame" "shape" "LHedgeGame$Shape;", Cond.methodLink RX10 145 yX10_chart, Cond.instanceMethod yX10_chart, Cond.selects RX10 yX10_chart yX10_chart, Cond.code yX10_chart cX10_chart 5 none, Cond.fieldLink RX10 81 "HedgeGame" "isCharted" "Z", Cond.fieldLink RX10 38 "HedgeGame" "rules" "LHedgeGame$Rules;", Cond.fieldLink RX10 47 "HedgeGame" "outcomes" "LHedgeGame$Outcomes;", Cond.fieldLink RX10 63 "HedgeGame" "values" "LHedgeGame$Values;", Cond.fieldLink RX10 70 "HedgeGame" "chances" "LHedgeGame$Chances;", Cond.methodLink RX10 138 yX6_choices, Cond.instanceMethod yX6_choices, Cond.selects RX6 yX6_choices yX6_choices, Cond.initialized RX6]
def wsX10_best_r2 : List Cond := [Cond.code yX6_choices cX6_choices 5 (some .int), Cond.fieldLink RX6 9 "HedgeGame$Rules" "shape" "LHedgeGame$Shape;", Cond.fieldLink RX6 15 "HedgeGame$Rules" "now" "LHedgeGame$Moment;", Cond.methodLink RX6 29 yX6_kindsCutBy, Cond.instanceMethod yX6_kindsCutBy, Cond.selects RX6 yX6_kindsCutBy yX6_kindsCutBy, Cond.code yX6_kindsCutBy cX6_kindsCutBy 5 (some .int), Cond.methodLink RX10 276 yX4_enter, Cond.instanceMethod yX4_enter, Cond.selects RX4 yX4_enter yX4_enter, Cond.initialized RX4, Cond.code yX4_enter cX4_enter 8 none, Cond.fieldLink RX4 15 "HedgeGame$Outcomes" "rules" "LHedgeGame$Rules;", Cond.fieldLink RX4 11 "HedgeGame$Outcomes" "won" "[J", Cond.constantLong RX4 40 (-1), Cond.methodLink RX4 37 yX6_leftBy, Cond.instanceMethod yX6_leftBy, Cond.selects RX6 yX6_leftBy yX6_leftBy, Cond.code yX6_leftBy cX6_leftBy 3 (some .int), Cond.static yX10_place, Cond.code yX10_place cX10_place 2 (some .int), Cond.methodLink RX4 42 yX4_hedgesWithCut, Cond.instanceMethod yX4_hedgesWithCut, Cond.selects RX4 yX4_hedgesWithCut yX4_hedgesWithCut]
def wsX10_best_r3 : List Cond := [Cond.code yX4_hedgesWithCut cX4_hedgesWithCut 9 (some .long), Cond.constantLong RX4 50 (31), Cond.constantLong RX4 62 (2199023255551), Cond.methodLink RX4 46 yX6_kindsCutBy, Cond.methodLink RX10 280 yX1_enter, Cond.instanceMethod yX1_enter, Cond.selects RX1 yX1_enter yX1_enter, Cond.initialized RX1, Cond.code yX1_enter cX1_enter 9 none, Cond.fieldLink RX1 19 "HedgeGame$Lengths" "outcomes" "LHedgeGame$Outcomes;", Cond.fieldLink RX1 15 "HedgeGame$Lengths" "rules" "LHedgeGame$Rules;", Cond.fieldLink RX1 9 "HedgeGame$Lengths" "cuts" "[I", Cond.methodLink RX1 51 Lib.Math.max.name, Cond.static Lib.Math.max.name, Cond.initialized "java/lang/Math", Cond.code Lib.Math.max.name Lib.Math.max.code 2 (some .int), Cond.methodLink RX1 56 Lib.Math.min.name, Cond.static Lib.Math.min.name, Cond.code Lib.Math.min.name Lib.Math.min.code 2 (some .int), Cond.methodLink RX1 27 yX4_isWonBy, Cond.instanceMethod yX4_isWonBy, Cond.selects RX4 yX4_isWonBy yX4_isWonBy, Cond.code yX4_isWonBy cX4_isWonBy 3 (some .boolean), Cond.constantLong RX4 23 (1099511627776)]
def wsX10_best_r4 : List Cond := [Cond.methodLink RX1 48 yX6_leftBy, Cond.methodLink RX10 282 yX9_enter, Cond.instanceMethod yX9_enter, Cond.selects RX9 yX9_enter yX9_enter, Cond.initialized RX9, Cond.code yX9_enter cX9_enter 4 none, Cond.fieldLink RX9 9 "HedgeGame$Values" "value" "[I", Cond.methodLink RX9 19 yX9_simplestOf, Cond.instanceMethod yX9_simplestOf, Cond.selects RX9 yX9_simplestOf yX9_simplestOf, Cond.code yX9_simplestOf cX9_simplestOf 8 (some .int), Cond.constant RX9 23 (-1048576), Cond.constant RX9 24 (1048576), Cond.fieldLink RX9 15 "HedgeGame$Values" "rules" "LHedgeGame$Rules;", Cond.methodLink RX9 41 Lib.Math.max.name, Cond.methodLink RX9 46 Lib.Math.min.name, Cond.methodLink RX9 37 yX6_leftBy, Cond.methodLink RX9 49 yX9_simplestBetween, Cond.static yX9_simplestBetween, Cond.code yX9_simplestBetween cX9_simplestBetween 7 (some .int), Cond.methodLink RX10 283 yX0_enter, Cond.instanceMethod yX0_enter, Cond.selects RX0 yX0_enter yX0_enter, Cond.initialized RX0]
def wsX10_best_r5 : List Cond := [Cond.code yX0_enter cX0_enter 8 none, Cond.fieldLink RX0 9 "HedgeGame$Chances" "chance" "[J", Cond.constantLong RX0 25 (182891520000), Cond.fieldLink RX0 15 "HedgeGame$Chances" "rules" "LHedgeGame$Rules;", Cond.methodLink RX0 27 yJ6_bitCount_0f7a4, Cond.static yJ6_bitCount_0f7a4, Cond.initialized RJ6, Cond.code yJ6_bitCount_0f7a4 cJ6_bitCount_0f7a4 1 (some .int), Cond.constant RJ6 265 (1431655765), Cond.constant RJ6 266 (858993459), Cond.constant RJ6 267 (252645135), Cond.methodLink RX0 45 yX6_leftBy, Cond.methodLink RX10 185 yX1_bestCut, Cond.instanceMethod yX1_bestCut, Cond.selects RX1 yX1_bestCut yX1_bestCut, Cond.code yX1_bestCut cX1_bestCut 9 (some .int), Cond.methodLink RX1 33 yX6_choices]
def wsX10_best : List Cond := .code yX10_best cX10_best 2 (some .int) :: ((wsX10_best_r1 ++ (wsX10_best_r2 ++ (wsX10_best_r3 ++ (wsX10_best_r4 ++ wsX10_best_r5)))) ++ wsX100 ++ wsX30 ++ wsX80 ++ wsX60 ++ wsX40 ++ wsX10 ++ wsX90 ++ wsX00)
def wsX10_lasts_r1 : List Cond := [Cond.fieldLink RX10 56 "HedgeGame" "lengths" "LHedgeGame$Lengths;", Cond.fieldLink RX10 26 "HedgeGame" "now" "LHedgeGame$Moment;", Cond.methodLink RX10 179 yX10_isNoSide, Cond.static yX10_isNoSide, Cond.initialized RX10, Cond.code yX10_isNoSide cX10_isNoSide 1 (some .boolean), Cond.methodLink RX10 176 yX10_hasNoHedge, Cond.instanceMethod yX10_hasNoHedge, Cond.selects RX10 yX10_hasNoHedge yX10_hasNoHedge, Cond.code yX10_hasNoHedge cX10_hasNoHedge 1 (some .boolean), Cond.fieldLink RX10 19 "HedgeGame" "shape" "LHedgeGame$Shape;", Cond.methodLink RX10 145 yX10_chart, Cond.instanceMethod yX10_chart, Cond.selects RX10 yX10_chart yX10_chart, Cond.code yX10_chart cX10_chart 5 none, Cond.fieldLink RX10 81 "HedgeGame" "isCharted" "Z", Cond.fieldLink RX10 38 "HedgeGame" "rules" "LHedgeGame$Rules;", Cond.fieldLink RX10 47 "HedgeGame" "outcomes" "LHedgeGame$Outcomes;", Cond.fieldLink RX10 63 "HedgeGame" "values" "LHedgeGame$Values;", Cond.fieldLink RX10 70 "HedgeGame" "chances" "LHedgeGame$Chances;", Cond.methodLink RX10 138 yX6_choices, Cond.instanceMethod yX6_choices, Cond.selects RX6 yX6_choices yX6_choices, Cond.initialized RX6]
def wsX10_lasts_r2 : List Cond := [Cond.code yX6_choices cX6_choices 5 (some .int), Cond.fieldLink RX6 9 "HedgeGame$Rules" "shape" "LHedgeGame$Shape;", Cond.fieldLink RX6 15 "HedgeGame$Rules" "now" "LHedgeGame$Moment;", Cond.methodLink RX6 29 yX6_kindsCutBy, Cond.instanceMethod yX6_kindsCutBy, Cond.selects RX6 yX6_kindsCutBy yX6_kindsCutBy, Cond.code yX6_kindsCutBy cX6_kindsCutBy 5 (some .int), Cond.methodLink RX10 276 yX4_enter, Cond.instanceMethod yX4_enter, Cond.selects RX4 yX4_enter yX4_enter, Cond.initialized RX4, Cond.code yX4_enter cX4_enter 8 none, Cond.fieldLink RX4 15 "HedgeGame$Outcomes" "rules" "LHedgeGame$Rules;", Cond.fieldLink RX4 11 "HedgeGame$Outcomes" "won" "[J", Cond.constantLong RX4 40 (-1), Cond.methodLink RX4 37 yX6_leftBy, Cond.instanceMethod yX6_leftBy, Cond.selects RX6 yX6_leftBy yX6_leftBy, Cond.code yX6_leftBy cX6_leftBy 3 (some .int), Cond.static yX10_place, Cond.code yX10_place cX10_place 2 (some .int), Cond.methodLink RX4 42 yX4_hedgesWithCut, Cond.instanceMethod yX4_hedgesWithCut, Cond.selects RX4 yX4_hedgesWithCut yX4_hedgesWithCut]
def wsX10_lasts_r3 : List Cond := [Cond.code yX4_hedgesWithCut cX4_hedgesWithCut 9 (some .long), Cond.constantLong RX4 50 (31), Cond.constantLong RX4 62 (2199023255551), Cond.methodLink RX4 46 yX6_kindsCutBy, Cond.methodLink RX10 280 yX1_enter, Cond.instanceMethod yX1_enter, Cond.selects RX1 yX1_enter yX1_enter, Cond.initialized RX1, Cond.code yX1_enter cX1_enter 9 none, Cond.fieldLink RX1 19 "HedgeGame$Lengths" "outcomes" "LHedgeGame$Outcomes;", Cond.fieldLink RX1 15 "HedgeGame$Lengths" "rules" "LHedgeGame$Rules;", Cond.fieldLink RX1 9 "HedgeGame$Lengths" "cuts" "[I", Cond.methodLink RX1 51 Lib.Math.max.name, Cond.static Lib.Math.max.name, Cond.initialized "java/lang/Math", Cond.code Lib.Math.max.name Lib.Math.max.code 2 (some .int), Cond.methodLink RX1 56 Lib.Math.min.name, Cond.static Lib.Math.min.name, Cond.code Lib.Math.min.name Lib.Math.min.code 2 (some .int), Cond.methodLink RX1 27 yX4_isWonBy, Cond.instanceMethod yX4_isWonBy, Cond.selects RX4 yX4_isWonBy yX4_isWonBy, Cond.code yX4_isWonBy cX4_isWonBy 3 (some .boolean), Cond.constantLong RX4 23 (1099511627776)]
def wsX10_lasts_r4 : List Cond := [Cond.methodLink RX1 48 yX6_leftBy, Cond.methodLink RX10 282 yX9_enter, Cond.instanceMethod yX9_enter, Cond.selects RX9 yX9_enter yX9_enter, Cond.initialized RX9, Cond.code yX9_enter cX9_enter 4 none, Cond.fieldLink RX9 9 "HedgeGame$Values" "value" "[I", Cond.methodLink RX9 19 yX9_simplestOf, Cond.instanceMethod yX9_simplestOf, Cond.selects RX9 yX9_simplestOf yX9_simplestOf, Cond.code yX9_simplestOf cX9_simplestOf 8 (some .int), Cond.constant RX9 23 (-1048576), Cond.constant RX9 24 (1048576), Cond.fieldLink RX9 15 "HedgeGame$Values" "rules" "LHedgeGame$Rules;", Cond.methodLink RX9 41 Lib.Math.max.name, Cond.methodLink RX9 46 Lib.Math.min.name, Cond.methodLink RX9 37 yX6_leftBy, Cond.methodLink RX9 49 yX9_simplestBetween, Cond.static yX9_simplestBetween, Cond.code yX9_simplestBetween cX9_simplestBetween 7 (some .int), Cond.methodLink RX10 283 yX0_enter, Cond.instanceMethod yX0_enter, Cond.selects RX0 yX0_enter yX0_enter, Cond.initialized RX0]
def wsX10_lasts_r5 : List Cond := [Cond.code yX0_enter cX0_enter 8 none, Cond.fieldLink RX0 9 "HedgeGame$Chances" "chance" "[J", Cond.constantLong RX0 25 (182891520000), Cond.fieldLink RX0 15 "HedgeGame$Chances" "rules" "LHedgeGame$Rules;", Cond.methodLink RX0 27 yJ6_bitCount_0f7a4, Cond.static yJ6_bitCount_0f7a4, Cond.initialized RJ6, Cond.code yJ6_bitCount_0f7a4 cJ6_bitCount_0f7a4 1 (some .int), Cond.constant RJ6 265 (1431655765), Cond.constant RJ6 266 (858993459), Cond.constant RJ6 267 (252645135), Cond.methodLink RX0 45 yX6_leftBy, Cond.methodLink RX10 188 yX1_cutsFrom, Cond.instanceMethod yX1_cutsFrom, Cond.selects RX1 yX1_cutsFrom yX1_cutsFrom, Cond.code yX1_cutsFrom cX1_cutsFrom 3 (some .int)]
def wsX10_lasts : List Cond := .code yX10_lasts cX10_lasts 2 (some .int) :: ((wsX10_lasts_r1 ++ (wsX10_lasts_r2 ++ (wsX10_lasts_r3 ++ (wsX10_lasts_r4 ++ wsX10_lasts_r5)))) ++ wsX100 ++ wsX30 ++ wsX80 ++ wsX60 ++ wsX40 ++ wsX10 ++ wsX90 ++ wsX00)
def wsX10_worth_r1 : List Cond := [Cond.fieldLink RX10 63 "HedgeGame" "values" "LHedgeGame$Values;", Cond.fieldLink RX10 26 "HedgeGame" "now" "LHedgeGame$Moment;", Cond.methodLink RX10 176 yX10_hasNoHedge, Cond.instanceMethod yX10_hasNoHedge, Cond.selects RX10 yX10_hasNoHedge yX10_hasNoHedge, Cond.initialized RX10, Cond.code yX10_hasNoHedge cX10_hasNoHedge 1 (some .boolean), Cond.fieldLink RX10 19 "HedgeGame" "shape" "LHedgeGame$Shape;", Cond.methodLink RX10 145 yX10_chart, Cond.instanceMethod yX10_chart, Cond.selects RX10 yX10_chart yX10_chart, Cond.code yX10_chart cX10_chart 5 none, Cond.fieldLink RX10 81 "HedgeGame" "isCharted" "Z", Cond.fieldLink RX10 38 "HedgeGame" "rules" "LHedgeGame$Rules;", Cond.fieldLink RX10 47 "HedgeGame" "outcomes" "LHedgeGame$Outcomes;", Cond.fieldLink RX10 56 "HedgeGame" "lengths" "LHedgeGame$Lengths;", Cond.fieldLink RX10 70 "HedgeGame" "chances" "LHedgeGame$Chances;", Cond.methodLink RX10 138 yX6_choices, Cond.instanceMethod yX6_choices, Cond.selects RX6 yX6_choices yX6_choices, Cond.initialized RX6, Cond.code yX6_choices cX6_choices 5 (some .int), Cond.fieldLink RX6 9 "HedgeGame$Rules" "shape" "LHedgeGame$Shape;", Cond.fieldLink RX6 15 "HedgeGame$Rules" "now" "LHedgeGame$Moment;"]
def wsX10_worth_r2 : List Cond := [Cond.methodLink RX6 29 yX6_kindsCutBy, Cond.instanceMethod yX6_kindsCutBy, Cond.selects RX6 yX6_kindsCutBy yX6_kindsCutBy, Cond.code yX6_kindsCutBy cX6_kindsCutBy 5 (some .int), Cond.methodLink RX10 276 yX4_enter, Cond.instanceMethod yX4_enter, Cond.selects RX4 yX4_enter yX4_enter, Cond.initialized RX4, Cond.code yX4_enter cX4_enter 8 none, Cond.fieldLink RX4 15 "HedgeGame$Outcomes" "rules" "LHedgeGame$Rules;", Cond.fieldLink RX4 11 "HedgeGame$Outcomes" "won" "[J", Cond.constantLong RX4 40 (-1), Cond.methodLink RX4 37 yX6_leftBy, Cond.instanceMethod yX6_leftBy, Cond.selects RX6 yX6_leftBy yX6_leftBy, Cond.code yX6_leftBy cX6_leftBy 3 (some .int), Cond.static yX10_place, Cond.code yX10_place cX10_place 2 (some .int), Cond.methodLink RX4 42 yX4_hedgesWithCut, Cond.instanceMethod yX4_hedgesWithCut, Cond.selects RX4 yX4_hedgesWithCut yX4_hedgesWithCut, Cond.code yX4_hedgesWithCut cX4_hedgesWithCut 9 (some .long), Cond.constantLong RX4 50 (31), Cond.constantLong RX4 62 (2199023255551)]
def wsX10_worth_r3 : List Cond := [Cond.methodLink RX4 46 yX6_kindsCutBy, Cond.methodLink RX10 280 yX1_enter, Cond.instanceMethod yX1_enter, Cond.selects RX1 yX1_enter yX1_enter, Cond.initialized RX1, Cond.code yX1_enter cX1_enter 9 none, Cond.fieldLink RX1 19 "HedgeGame$Lengths" "outcomes" "LHedgeGame$Outcomes;", Cond.fieldLink RX1 15 "HedgeGame$Lengths" "rules" "LHedgeGame$Rules;", Cond.fieldLink RX1 9 "HedgeGame$Lengths" "cuts" "[I", Cond.methodLink RX1 51 Lib.Math.max.name, Cond.static Lib.Math.max.name, Cond.initialized "java/lang/Math", Cond.code Lib.Math.max.name Lib.Math.max.code 2 (some .int), Cond.methodLink RX1 56 Lib.Math.min.name, Cond.static Lib.Math.min.name, Cond.code Lib.Math.min.name Lib.Math.min.code 2 (some .int), Cond.methodLink RX1 27 yX4_isWonBy, Cond.instanceMethod yX4_isWonBy, Cond.selects RX4 yX4_isWonBy yX4_isWonBy, Cond.code yX4_isWonBy cX4_isWonBy 3 (some .boolean), Cond.constantLong RX4 23 (1099511627776), Cond.methodLink RX1 48 yX6_leftBy, Cond.methodLink RX10 282 yX9_enter, Cond.instanceMethod yX9_enter]
def wsX10_worth_r4 : List Cond := [Cond.selects RX9 yX9_enter yX9_enter, Cond.initialized RX9, Cond.code yX9_enter cX9_enter 4 none, Cond.fieldLink RX9 9 "HedgeGame$Values" "value" "[I", Cond.methodLink RX9 19 yX9_simplestOf, Cond.instanceMethod yX9_simplestOf, Cond.selects RX9 yX9_simplestOf yX9_simplestOf, Cond.code yX9_simplestOf cX9_simplestOf 8 (some .int), Cond.constant RX9 23 (-1048576), Cond.constant RX9 24 (1048576), Cond.fieldLink RX9 15 "HedgeGame$Values" "rules" "LHedgeGame$Rules;", Cond.methodLink RX9 41 Lib.Math.max.name, Cond.methodLink RX9 46 Lib.Math.min.name, Cond.methodLink RX9 37 yX6_leftBy, Cond.methodLink RX9 49 yX9_simplestBetween, Cond.static yX9_simplestBetween, Cond.code yX9_simplestBetween cX9_simplestBetween 7 (some .int), Cond.methodLink RX10 283 yX0_enter, Cond.instanceMethod yX0_enter, Cond.selects RX0 yX0_enter yX0_enter, Cond.initialized RX0, Cond.code yX0_enter cX0_enter 8 none, Cond.fieldLink RX0 9 "HedgeGame$Chances" "chance" "[J", Cond.constantLong RX0 25 (182891520000)]
def wsX10_worth_r5 : List Cond := [Cond.fieldLink RX0 15 "HedgeGame$Chances" "rules" "LHedgeGame$Rules;", Cond.methodLink RX0 27 yJ6_bitCount_0f7a4, Cond.static yJ6_bitCount_0f7a4, Cond.initialized RJ6, Cond.code yJ6_bitCount_0f7a4 cJ6_bitCount_0f7a4 1 (some .int), Cond.constant RJ6 265 (1431655765), Cond.constant RJ6 266 (858993459), Cond.constant RJ6 267 (252645135), Cond.methodLink RX0 45 yX6_leftBy, Cond.methodLink RX10 191 yX9_valueOf, Cond.instanceMethod yX9_valueOf, Cond.selects RX9 yX9_valueOf yX9_valueOf, Cond.code yX9_valueOf cX9_valueOf 2 (some .int)]
def wsX10_worth : List Cond := .code yX10_worth cX10_worth 1 (some .int) :: ((wsX10_worth_r1 ++ (wsX10_worth_r2 ++ (wsX10_worth_r3 ++ (wsX10_worth_r4 ++ wsX10_worth_r5)))) ++ wsX100 ++ wsX30 ++ wsX80 ++ wsX60 ++ wsX40 ++ wsX10 ++ wsX90 ++ wsX00)
def wsX10_tree_r1 : List Cond := [Cond.fieldLink RX10 19 "HedgeGame" "shape" "LHedgeGame$Shape;", Cond.fieldLink RX10 63 "HedgeGame" "values" "LHedgeGame$Values;", Cond.fieldLink RX10 26 "HedgeGame" "now" "LHedgeGame$Moment;", Cond.methodLink RX10 124 yX10_isUnknown, Cond.instanceMethod yX10_isUnknown, Cond.selects RX10 yX10_isUnknown yX10_isUnknown, Cond.initialized RX10, Cond.code yX10_isUnknown cX10_isUnknown 2 (some .boolean), Cond.methodLink RX10 145 yX10_chart, Cond.instanceMethod yX10_chart, Cond.selects RX10 yX10_chart yX10_chart, Cond.code yX10_chart cX10_chart 5 none, Cond.fieldLink RX10 81 "HedgeGame" "isCharted" "Z", Cond.fieldLink RX10 38 "HedgeGame" "rules" "LHedgeGame$Rules;", Cond.fieldLink RX10 47 "HedgeGame" "outcomes" "LHedgeGame$Outcomes;", Cond.fieldLink RX10 56 "HedgeGame" "lengths" "LHedgeGame$Lengths;", Cond.fieldLink RX10 70 "HedgeGame" "chances" "LHedgeGame$Chances;", Cond.methodLink RX10 138 yX6_choices, Cond.instanceMethod yX6_choices, Cond.selects RX6 yX6_choices yX6_choices, Cond.initialized RX6, Cond.code yX6_choices cX6_choices 5 (some .int), Cond.fieldLink RX6 9 "HedgeGame$Rules" "shape" "LHedgeGame$Shape;", Cond.fieldLink RX6 15 "HedgeGame$Rules" "now" "LHedgeGame$Moment;"]
def wsX10_tree_r2 : List Cond := [Cond.methodLink RX6 29 yX6_kindsCutBy, Cond.instanceMethod yX6_kindsCutBy, Cond.selects RX6 yX6_kindsCutBy yX6_kindsCutBy, Cond.code yX6_kindsCutBy cX6_kindsCutBy 5 (some .int), Cond.methodLink RX10 276 yX4_enter, Cond.instanceMethod yX4_enter, Cond.selects RX4 yX4_enter yX4_enter, Cond.initialized RX4, Cond.code yX4_enter cX4_enter 8 none, Cond.fieldLink RX4 15 "HedgeGame$Outcomes" "rules" "LHedgeGame$Rules;", Cond.fieldLink RX4 11 "HedgeGame$Outcomes" "won" "[J", Cond.constantLong RX4 40 (-1), Cond.methodLink RX4 37 yX6_leftBy, Cond.instanceMethod yX6_leftBy, Cond.selects RX6 yX6_leftBy yX6_leftBy, Cond.code yX6_leftBy cX6_leftBy 3 (some .int), Cond.static yX10_place, Cond.code yX10_place cX10_place 2 (some .int), Cond.methodLink RX4 42 yX4_hedgesWithCut, Cond.instanceMethod yX4_hedgesWithCut, Cond.selects RX4 yX4_hedgesWithCut yX4_hedgesWithCut, Cond.code yX4_hedgesWithCut cX4_hedgesWithCut 9 (some .long), Cond.constantLong RX4 50 (31), Cond.constantLong RX4 62 (2199023255551)]
def wsX10_tree_r3 : List Cond := [Cond.methodLink RX4 46 yX6_kindsCutBy, Cond.methodLink RX10 280 yX1_enter, Cond.instanceMethod yX1_enter, Cond.selects RX1 yX1_enter yX1_enter, Cond.initialized RX1, Cond.code yX1_enter cX1_enter 9 none, Cond.fieldLink RX1 19 "HedgeGame$Lengths" "outcomes" "LHedgeGame$Outcomes;", Cond.fieldLink RX1 15 "HedgeGame$Lengths" "rules" "LHedgeGame$Rules;", Cond.fieldLink RX1 9 "HedgeGame$Lengths" "cuts" "[I", Cond.methodLink RX1 51 Lib.Math.max.name, Cond.static Lib.Math.max.name, Cond.initialized "java/lang/Math", Cond.code Lib.Math.max.name Lib.Math.max.code 2 (some .int), Cond.methodLink RX1 56 Lib.Math.min.name, Cond.static Lib.Math.min.name, Cond.code Lib.Math.min.name Lib.Math.min.code 2 (some .int), Cond.methodLink RX1 27 yX4_isWonBy, Cond.instanceMethod yX4_isWonBy, Cond.selects RX4 yX4_isWonBy yX4_isWonBy, Cond.code yX4_isWonBy cX4_isWonBy 3 (some .boolean), Cond.constantLong RX4 23 (1099511627776), Cond.methodLink RX1 48 yX6_leftBy, Cond.methodLink RX10 282 yX9_enter, Cond.instanceMethod yX9_enter]
def wsX10_tree_r4 : List Cond := [Cond.selects RX9 yX9_enter yX9_enter, Cond.initialized RX9, Cond.code yX9_enter cX9_enter 4 none, Cond.fieldLink RX9 9 "HedgeGame$Values" "value" "[I", Cond.methodLink RX9 19 yX9_simplestOf, Cond.instanceMethod yX9_simplestOf, Cond.selects RX9 yX9_simplestOf yX9_simplestOf, Cond.code yX9_simplestOf cX9_simplestOf 8 (some .int), Cond.constant RX9 23 (-1048576), Cond.constant RX9 24 (1048576), Cond.fieldLink RX9 15 "HedgeGame$Values" "rules" "LHedgeGame$Rules;", Cond.methodLink RX9 41 Lib.Math.max.name, Cond.methodLink RX9 46 Lib.Math.min.name, Cond.methodLink RX9 37 yX6_leftBy, Cond.methodLink RX9 49 yX9_simplestBetween, Cond.static yX9_simplestBetween, Cond.code yX9_simplestBetween cX9_simplestBetween 7 (some .int), Cond.methodLink RX10 283 yX0_enter, Cond.instanceMethod yX0_enter, Cond.selects RX0 yX0_enter yX0_enter, Cond.initialized RX0, Cond.code yX0_enter cX0_enter 8 none, Cond.fieldLink RX0 9 "HedgeGame$Chances" "chance" "[J", Cond.constantLong RX0 25 (182891520000)]
def wsX10_tree_r5 : List Cond := [Cond.fieldLink RX0 15 "HedgeGame$Chances" "rules" "LHedgeGame$Rules;", Cond.methodLink RX0 27 yJ6_bitCount_0f7a4, Cond.static yJ6_bitCount_0f7a4, Cond.initialized RJ6, Cond.code yJ6_bitCount_0f7a4 cJ6_bitCount_0f7a4 1 (some .int), Cond.constant RJ6 265 (1431655765), Cond.constant RJ6 266 (858993459), Cond.constant RJ6 267 (252645135), Cond.methodLink RX0 45 yX6_leftBy, Cond.methodLink RX10 194 yX8_withAllOn, Cond.instanceMethod yX8_withAllOn, Cond.selects RX8 yX8_withAllOn yX8_withAllOn, Cond.initialized RX8, Cond.code yX8_withAllOn cX8_withAllOn 2 (some .int), Cond.fieldLink RX8 19 "HedgeGame$Shape" "above" "[I", Cond.methodLink RX10 191 yX9_valueOf, Cond.instanceMethod yX9_valueOf, Cond.selects RX9 yX9_valueOf yX9_valueOf, Cond.code yX9_valueOf cX9_valueOf 2 (some .int)]
def wsX10_tree : List Cond := .code yX10_tree cX10_tree 2 (some .int) :: ((wsX10_tree_r1 ++ (wsX10_tree_r2 ++ (wsX10_tree_r3 ++ (wsX10_tree_r4 ++ wsX10_tree_r5)))) ++ wsX100 ++ wsX80 ++ wsX30 ++ wsX60 ++ wsX40 ++ wsX10 ++ wsX90 ++ wsX00)
def wsX10_evenBy : List Cond := .code yX10_evenBy cX10_evenBy 5 (some .int) :: ([.fieldLink RX10 26 "HedgeGame" "now" "LHedgeGame$Moment;", .fieldLink RX10 47 "HedgeGame" "outcomes" "LHedgeGame$Outcomes;", .fieldLink RX10 19 "HedgeGame" "shape" "LHedgeGame$Shape;", .methodLink RX10 182 yX4_isWonBy, .instanceMethod yX4_isWonBy, .selects RX4 yX4_isWonBy yX4_isWonBy, .initialized RX4, .code yX4_isWonBy cX4_isWonBy 3 (some .boolean), .fieldLink RX4 11 "HedgeGame$Outcomes" "won" "[J", .constantLong RX4 23 (1099511627776), .static yX10_place, .initialized RX10, .code yX10_place cX10_place 2 (some .int), .methodLink RX10 284 yX4_winningKinds, .instanceMethod yX4_winningKinds, .selects RX4 yX4_winningKinds yX4_winningKinds, .code yX4_winningKinds cX4_winningKinds 4 (some .int)] ++ wsX100 ++ wsX30 ++ wsX80 ++ wsX40)
def wsX10_even_r1 : List Cond := [Cond.fieldLink RX10 92 "HedgeGame" "evensDone" "I", Cond.methodLink RX10 176 yX10_hasNoHedge, Cond.instanceMethod yX10_hasNoHedge, Cond.selects RX10 yX10_hasNoHedge yX10_hasNoHedge, Cond.initialized RX10, Cond.code yX10_hasNoHedge cX10_hasNoHedge 1 (some .boolean), Cond.fieldLink RX10 19 "HedgeGame" "shape" "LHedgeGame$Shape;", Cond.methodLink RX10 145 yX10_chart, Cond.instanceMethod yX10_chart, Cond.selects RX10 yX10_chart yX10_chart, Cond.code yX10_chart cX10_chart 5 none, Cond.fieldLink RX10 81 "HedgeGame" "isCharted" "Z", Cond.fieldLink RX10 38 "HedgeGame" "rules" "LHedgeGame$Rules;", Cond.fieldLink RX10 47 "HedgeGame" "outcomes" "LHedgeGame$Outcomes;", Cond.fieldLink RX10 56 "HedgeGame" "lengths" "LHedgeGame$Lengths;", Cond.fieldLink RX10 63 "HedgeGame" "values" "LHedgeGame$Values;", Cond.fieldLink RX10 70 "HedgeGame" "chances" "LHedgeGame$Chances;", Cond.methodLink RX10 138 yX6_choices, Cond.instanceMethod yX6_choices, Cond.selects RX6 yX6_choices yX6_choices, Cond.initialized RX6, Cond.code yX6_choices cX6_choices 5 (some .int), Cond.fieldLink RX6 9 "HedgeGame$Rules" "shape" "LHedgeGame$Shape;", Cond.fieldLink RX6 15 "HedgeGame$Rules" "now" "LHedgeGame$Moment;"]
def wsX10_even_r2 : List Cond := [Cond.methodLink RX6 29 yX6_kindsCutBy, Cond.instanceMethod yX6_kindsCutBy, Cond.selects RX6 yX6_kindsCutBy yX6_kindsCutBy, Cond.code yX6_kindsCutBy cX6_kindsCutBy 5 (some .int), Cond.methodLink RX10 276 yX4_enter, Cond.instanceMethod yX4_enter, Cond.selects RX4 yX4_enter yX4_enter, Cond.initialized RX4, Cond.code yX4_enter cX4_enter 8 none, Cond.fieldLink RX4 15 "HedgeGame$Outcomes" "rules" "LHedgeGame$Rules;", Cond.fieldLink RX4 11 "HedgeGame$Outcomes" "won" "[J", Cond.constantLong RX4 40 (-1), Cond.methodLink RX4 37 yX6_leftBy, Cond.instanceMethod yX6_leftBy, Cond.selects RX6 yX6_leftBy yX6_leftBy, Cond.code yX6_leftBy cX6_leftBy 3 (some .int), Cond.static yX10_place, Cond.code yX10_place cX10_place 2 (some .int), Cond.methodLink RX4 42 yX4_hedgesWithCut, Cond.instanceMethod yX4_hedgesWithCut, Cond.selects RX4 yX4_hedgesWithCut yX4_hedgesWithCut, Cond.code yX4_hedgesWithCut cX4_hedgesWithCut 9 (some .long), Cond.constantLong RX4 50 (31), Cond.constantLong RX4 62 (2199023255551)]
def wsX10_even_r3 : List Cond := [Cond.methodLink RX4 46 yX6_kindsCutBy, Cond.methodLink RX10 280 yX1_enter, Cond.instanceMethod yX1_enter, Cond.selects RX1 yX1_enter yX1_enter, Cond.initialized RX1, Cond.code yX1_enter cX1_enter 9 none, Cond.fieldLink RX1 19 "HedgeGame$Lengths" "outcomes" "LHedgeGame$Outcomes;", Cond.fieldLink RX1 15 "HedgeGame$Lengths" "rules" "LHedgeGame$Rules;", Cond.fieldLink RX1 9 "HedgeGame$Lengths" "cuts" "[I", Cond.methodLink RX1 51 Lib.Math.max.name, Cond.static Lib.Math.max.name, Cond.initialized "java/lang/Math", Cond.code Lib.Math.max.name Lib.Math.max.code 2 (some .int), Cond.methodLink RX1 56 Lib.Math.min.name, Cond.static Lib.Math.min.name, Cond.code Lib.Math.min.name Lib.Math.min.code 2 (some .int), Cond.methodLink RX1 27 yX4_isWonBy, Cond.instanceMethod yX4_isWonBy, Cond.selects RX4 yX4_isWonBy yX4_isWonBy, Cond.code yX4_isWonBy cX4_isWonBy 3 (some .boolean), Cond.constantLong RX4 23 (1099511627776), Cond.methodLink RX1 48 yX6_leftBy, Cond.methodLink RX10 282 yX9_enter, Cond.instanceMethod yX9_enter]
def wsX10_even_r4 : List Cond := [Cond.selects RX9 yX9_enter yX9_enter, Cond.initialized RX9, Cond.code yX9_enter cX9_enter 4 none, Cond.fieldLink RX9 9 "HedgeGame$Values" "value" "[I", Cond.methodLink RX9 19 yX9_simplestOf, Cond.instanceMethod yX9_simplestOf, Cond.selects RX9 yX9_simplestOf yX9_simplestOf, Cond.code yX9_simplestOf cX9_simplestOf 8 (some .int), Cond.constant RX9 23 (-1048576), Cond.constant RX9 24 (1048576), Cond.fieldLink RX9 15 "HedgeGame$Values" "rules" "LHedgeGame$Rules;", Cond.methodLink RX9 41 Lib.Math.max.name, Cond.methodLink RX9 46 Lib.Math.min.name, Cond.methodLink RX9 37 yX6_leftBy, Cond.methodLink RX9 49 yX9_simplestBetween, Cond.static yX9_simplestBetween, Cond.code yX9_simplestBetween cX9_simplestBetween 7 (some .int), Cond.methodLink RX10 283 yX0_enter, Cond.instanceMethod yX0_enter, Cond.selects RX0 yX0_enter yX0_enter, Cond.initialized RX0, Cond.code yX0_enter cX0_enter 8 none, Cond.fieldLink RX0 9 "HedgeGame$Chances" "chance" "[J", Cond.constantLong RX0 25 (182891520000)]
def wsX10_even_r5 : List Cond := [Cond.fieldLink RX0 15 "HedgeGame$Chances" "rules" "LHedgeGame$Rules;", Cond.methodLink RX0 27 yJ6_bitCount_0f7a4, Cond.static yJ6_bitCount_0f7a4, Cond.initialized RJ6, Cond.code yJ6_bitCount_0f7a4 cJ6_bitCount_0f7a4 1 (some .int), Cond.constant RJ6 265 (1431655765), Cond.constant RJ6 266 (858993459), Cond.constant RJ6 267 (252645135), Cond.methodLink RX0 45 yX6_leftBy, Cond.methodLink RX10 197 yX10_evenBy, Cond.instanceMethod yX10_evenBy, Cond.selects RX10 yX10_evenBy yX10_evenBy, Cond.code yX10_evenBy cX10_evenBy 5 (some .int), Cond.fieldLink RX10 26 "HedgeGame" "now" "LHedgeGame$Moment;", Cond.methodLink RX10 182 yX4_isWonBy, Cond.methodLink RX10 284 yX4_winningKinds, Cond.instanceMethod yX4_winningKinds, Cond.selects RX4 yX4_winningKinds yX4_winningKinds, Cond.code yX4_winningKinds cX4_winningKinds 4 (some .int)]
def wsX10_even : List Cond := .code yX10_even cX10_even 1 (some .int) :: ((wsX10_even_r1 ++ (wsX10_even_r2 ++ (wsX10_even_r3 ++ (wsX10_even_r4 ++ wsX10_even_r5)))) ++ wsX100 ++ wsX80 ++ wsX60 ++ wsX30 ++ wsX40 ++ wsX10 ++ wsX90 ++ wsX00)
def wsX10_likely_r1 : List Cond := [Cond.fieldLink RX10 70 "HedgeGame" "chances" "LHedgeGame$Chances;", Cond.fieldLink RX10 26 "HedgeGame" "now" "LHedgeGame$Moment;", Cond.methodLink RX10 179 yX10_isNoSide, Cond.static yX10_isNoSide, Cond.initialized RX10, Cond.code yX10_isNoSide cX10_isNoSide 1 (some .boolean), Cond.methodLink RX10 176 yX10_hasNoHedge, Cond.instanceMethod yX10_hasNoHedge, Cond.selects RX10 yX10_hasNoHedge yX10_hasNoHedge, Cond.code yX10_hasNoHedge cX10_hasNoHedge 1 (some .boolean), Cond.fieldLink RX10 19 "HedgeGame" "shape" "LHedgeGame$Shape;", Cond.methodLink RX10 145 yX10_chart, Cond.instanceMethod yX10_chart, Cond.selects RX10 yX10_chart yX10_chart, Cond.code yX10_chart cX10_chart 5 none, Cond.fieldLink RX10 81 "HedgeGame" "isCharted" "Z", Cond.fieldLink RX10 38 "HedgeGame" "rules" "LHedgeGame$Rules;", Cond.fieldLink RX10 47 "HedgeGame" "outcomes" "LHedgeGame$Outcomes;", Cond.fieldLink RX10 56 "HedgeGame" "lengths" "LHedgeGame$Lengths;", Cond.fieldLink RX10 63 "HedgeGame" "values" "LHedgeGame$Values;", Cond.methodLink RX10 138 yX6_choices, Cond.instanceMethod yX6_choices, Cond.selects RX6 yX6_choices yX6_choices, Cond.initialized RX6]
def wsX10_likely_r2 : List Cond := [Cond.code yX6_choices cX6_choices 5 (some .int), Cond.fieldLink RX6 9 "HedgeGame$Rules" "shape" "LHedgeGame$Shape;", Cond.fieldLink RX6 15 "HedgeGame$Rules" "now" "LHedgeGame$Moment;", Cond.methodLink RX6 29 yX6_kindsCutBy, Cond.instanceMethod yX6_kindsCutBy, Cond.selects RX6 yX6_kindsCutBy yX6_kindsCutBy, Cond.code yX6_kindsCutBy cX6_kindsCutBy 5 (some .int), Cond.methodLink RX10 276 yX4_enter, Cond.instanceMethod yX4_enter, Cond.selects RX4 yX4_enter yX4_enter, Cond.initialized RX4, Cond.code yX4_enter cX4_enter 8 none, Cond.fieldLink RX4 15 "HedgeGame$Outcomes" "rules" "LHedgeGame$Rules;", Cond.fieldLink RX4 11 "HedgeGame$Outcomes" "won" "[J", Cond.constantLong RX4 40 (-1), Cond.methodLink RX4 37 yX6_leftBy, Cond.instanceMethod yX6_leftBy, Cond.selects RX6 yX6_leftBy yX6_leftBy, Cond.code yX6_leftBy cX6_leftBy 3 (some .int), Cond.static yX10_place, Cond.code yX10_place cX10_place 2 (some .int), Cond.methodLink RX4 42 yX4_hedgesWithCut, Cond.instanceMethod yX4_hedgesWithCut, Cond.selects RX4 yX4_hedgesWithCut yX4_hedgesWithCut]
def wsX10_likely_r3 : List Cond := [Cond.code yX4_hedgesWithCut cX4_hedgesWithCut 9 (some .long), Cond.constantLong RX4 50 (31), Cond.constantLong RX4 62 (2199023255551), Cond.methodLink RX4 46 yX6_kindsCutBy, Cond.methodLink RX10 280 yX1_enter, Cond.instanceMethod yX1_enter, Cond.selects RX1 yX1_enter yX1_enter, Cond.initialized RX1, Cond.code yX1_enter cX1_enter 9 none, Cond.fieldLink RX1 19 "HedgeGame$Lengths" "outcomes" "LHedgeGame$Outcomes;", Cond.fieldLink RX1 15 "HedgeGame$Lengths" "rules" "LHedgeGame$Rules;", Cond.fieldLink RX1 9 "HedgeGame$Lengths" "cuts" "[I", Cond.methodLink RX1 51 Lib.Math.max.name, Cond.static Lib.Math.max.name, Cond.initialized "java/lang/Math", Cond.code Lib.Math.max.name Lib.Math.max.code 2 (some .int), Cond.methodLink RX1 56 Lib.Math.min.name, Cond.static Lib.Math.min.name, Cond.code Lib.Math.min.name Lib.Math.min.code 2 (some .int), Cond.methodLink RX1 27 yX4_isWonBy, Cond.instanceMethod yX4_isWonBy, Cond.selects RX4 yX4_isWonBy yX4_isWonBy, Cond.code yX4_isWonBy cX4_isWonBy 3 (some .boolean), Cond.constantLong RX4 23 (1099511627776)]
def wsX10_likely_r4 : List Cond := [Cond.methodLink RX1 48 yX6_leftBy, Cond.methodLink RX10 282 yX9_enter, Cond.instanceMethod yX9_enter, Cond.selects RX9 yX9_enter yX9_enter, Cond.initialized RX9, Cond.code yX9_enter cX9_enter 4 none, Cond.fieldLink RX9 9 "HedgeGame$Values" "value" "[I", Cond.methodLink RX9 19 yX9_simplestOf, Cond.instanceMethod yX9_simplestOf, Cond.selects RX9 yX9_simplestOf yX9_simplestOf, Cond.code yX9_simplestOf cX9_simplestOf 8 (some .int), Cond.constant RX9 23 (-1048576), Cond.constant RX9 24 (1048576), Cond.fieldLink RX9 15 "HedgeGame$Values" "rules" "LHedgeGame$Rules;", Cond.methodLink RX9 41 Lib.Math.max.name, Cond.methodLink RX9 46 Lib.Math.min.name, Cond.methodLink RX9 37 yX6_leftBy, Cond.methodLink RX9 49 yX9_simplestBetween, Cond.static yX9_simplestBetween, Cond.code yX9_simplestBetween cX9_simplestBetween 7 (some .int), Cond.methodLink RX10 283 yX0_enter, Cond.instanceMethod yX0_enter, Cond.selects RX0 yX0_enter yX0_enter, Cond.initialized RX0]
def wsX10_likely_r5 : List Cond := [Cond.code yX0_enter cX0_enter 8 none, Cond.fieldLink RX0 9 "HedgeGame$Chances" "chance" "[J", Cond.constantLong RX0 25 (182891520000), Cond.fieldLink RX0 15 "HedgeGame$Chances" "rules" "LHedgeGame$Rules;", Cond.methodLink RX0 27 yJ6_bitCount_0f7a4, Cond.static yJ6_bitCount_0f7a4, Cond.initialized RJ6, Cond.code yJ6_bitCount_0f7a4 cJ6_bitCount_0f7a4 1 (some .int), Cond.constant RJ6 265 (1431655765), Cond.constant RJ6 266 (858993459), Cond.constant RJ6 267 (252645135), Cond.methodLink RX0 45 yX6_leftBy, Cond.methodLink RX10 200 yX0_millionths, Cond.instanceMethod yX0_millionths, Cond.selects RX0 yX0_millionths yX0_millionths, Cond.code yX0_millionths cX0_millionths 3 (some .int), Cond.constantLong RX0 23 (1000000)]
def wsX10_likely : List Cond := .code yX10_likely cX10_likely 2 (some .int) :: ((wsX10_likely_r1 ++ (wsX10_likely_r2 ++ (wsX10_likely_r3 ++ (wsX10_likely_r4 ++ wsX10_likely_r5)))) ++ wsX100 ++ wsX30 ++ wsX80 ++ wsX60 ++ wsX40 ++ wsX10 ++ wsX90 ++ wsX00)
def wsX10_see : List Cond := .code yX10_see cX10_see 4 (some .int) :: ([.fieldLink RX10 26 "HedgeGame" "now" "LHedgeGame$Moment;", .methodLink RX10 124 yX10_isUnknown, .instanceMethod yX10_isUnknown, .selects RX10 yX10_isUnknown yX10_isUnknown, .initialized RX10, .code yX10_isUnknown cX10_isUnknown 2 (some .boolean), .fieldLink RX10 19 "HedgeGame" "shape" "LHedgeGame$Shape;", .methodLink RX10 179 yX10_isNoSide, .static yX10_isNoSide, .code yX10_isNoSide cX10_isNoSide 1 (some .boolean), .methodLink RX10 211 yX7_add, .instanceMethod yX7_add, .selects RX7 yX7_add yX7_add, .initialized RX7, .code yX7_add cX7_add 4 none, .fieldLink RX7 9 "HedgeGame$Seen" "size" "I", .fieldLink RX7 15 "HedgeGame$Seen" "branches" "[I", .fieldLink RX7 19 "HedgeGame$Seen" "beginners" "[I", .fieldLink RX7 22 "HedgeGame$Seen" "won" "[Z"] ++ wsX100 ++ wsX30 ++ wsX70 ++ wsX80)
def wsX10_forget : List Cond := .code yX10_forget cX10_forget 2 (some .int) :: ([.fieldLink RX10 26 "HedgeGame" "now" "LHedgeGame$Moment;"] ++ wsX100 ++ wsX30 ++ wsX70)
def wsX10_games_r1 : List Cond := [Cond.fieldLink RX10 77 "HedgeGame" "lottery" "LHedgeGame$Lottery;", Cond.fieldLink RX10 26 "HedgeGame" "now" "LHedgeGame$Moment;", Cond.methodLink RX10 176 yX10_hasNoHedge, Cond.instanceMethod yX10_hasNoHedge, Cond.selects RX10 yX10_hasNoHedge yX10_hasNoHedge, Cond.initialized RX10, Cond.code yX10_hasNoHedge cX10_hasNoHedge 1 (some .boolean), Cond.fieldLink RX10 19 "HedgeGame" "shape" "LHedgeGame$Shape;", Cond.methodLink RX10 214 yX2_playAll, Cond.instanceMethod yX2_playAll, Cond.selects RX2 yX2_playAll yX2_playAll, Cond.initialized RX2, Cond.code yX2_playAll cX2_playAll 5 none, Cond.fieldLink RX2 9 "HedgeGame$Lottery" "seed" "I", Cond.fieldLink RX2 15 "HedgeGame$Lottery" "whiteWon" "I", Cond.fieldLink RX2 18 "HedgeGame$Lottery" "cutsDone" "I", Cond.methodLink RX2 25 yX2_winnerOf, Cond.instanceMethod yX2_winnerOf, Cond.selects RX2 yX2_winnerOf yX2_winnerOf, Cond.code yX2_winnerOf cX2_winnerOf 7 (some .int), Cond.fieldLink RX2 21 "HedgeGame$Lottery" "rules" "LHedgeGame$Rules;", Cond.methodLink RX2 29 yX6_choices, Cond.instanceMethod yX6_choices, Cond.selects RX6 yX6_choices yX6_choices]
def wsX10_games_r2 : List Cond := [Cond.initialized RX6, Cond.code yX6_choices cX6_choices 5 (some .int), Cond.fieldLink RX6 9 "HedgeGame$Rules" "shape" "LHedgeGame$Shape;", Cond.fieldLink RX6 15 "HedgeGame$Rules" "now" "LHedgeGame$Moment;", Cond.methodLink RX6 29 yX6_kindsCutBy, Cond.instanceMethod yX6_kindsCutBy, Cond.selects RX6 yX6_kindsCutBy yX6_kindsCutBy, Cond.code yX6_kindsCutBy cX6_kindsCutBy 5 (some .int), Cond.methodLink RX2 34 yX2_drawFrom, Cond.instanceMethod yX2_drawFrom, Cond.selects RX2 yX2_drawFrom yX2_drawFrom, Cond.code yX2_drawFrom cX2_drawFrom 4 (some .int), Cond.methodLink RX2 41 yJ6_bitCount_0f7a4, Cond.static yJ6_bitCount_0f7a4, Cond.initialized RJ6, Cond.code yJ6_bitCount_0f7a4 cJ6_bitCount_0f7a4 1 (some .int), Cond.constant RJ6 265 (1431655765), Cond.constant RJ6 266 (858993459), Cond.constant RJ6 267 (252645135), Cond.methodLink RX2 46 yX2_draw, Cond.instanceMethod yX2_draw, Cond.selects RX2 yX2_draw yX2_draw, Cond.code yX2_draw cX2_draw 2 (some .int), Cond.constantLong RX2 49 (1103515245)]
def wsX10_games_r3 : List Cond := [Cond.constantLong RX2 51 (12345), Cond.constantLong RX2 53 (2147483648), Cond.constant RX2 55 (65536), Cond.methodLink RX2 38 yX6_leftBy, Cond.instanceMethod yX6_leftBy, Cond.selects RX6 yX6_leftBy yX6_leftBy, Cond.code yX6_leftBy cX6_leftBy 3 (some .int)]
def wsX10_games : List Cond := .code yX10_games cX10_games 4 (some .int) :: ((wsX10_games_r1 ++ (wsX10_games_r2 ++ wsX10_games_r3)) ++ wsX100 ++ wsX30 ++ wsX20 ++ wsX80 ++ wsX60)
def wsX10_image_r1 : List Cond := [Cond.fieldLink RX10 30 "HedgeGame" "kept" "LHedgeGame$Moment;", Cond.fieldLink RX10 26 "HedgeGame" "now" "LHedgeGame$Moment;", Cond.fieldLink RX10 85 "HedgeGame" "isKept" "Z", Cond.methodLink RX10 176 yX10_hasNoHedge, Cond.instanceMethod yX10_hasNoHedge, Cond.selects RX10 yX10_hasNoHedge yX10_hasNoHedge, Cond.initialized RX10, Cond.code yX10_hasNoHedge cX10_hasNoHedge 1 (some .boolean), Cond.fieldLink RX10 19 "HedgeGame" "shape" "LHedgeGame$Shape;", Cond.methodLink RX10 227 yX3_copyFrom, Cond.instanceMethod yX3_copyFrom, Cond.selects RX3 yX3_copyFrom yX3_copyFrom, Cond.initialized RX3, Cond.code yX3_copyFrom cX3_copyFrom 2 none, Cond.fieldLink RX3 9 "HedgeGame$Moment" "kinds" "[I", Cond.methodLink RX3 41 arraycopyName, Cond.native arraycopyName, Cond.static arraycopyName, Cond.initialized "java/lang/System", Cond.fieldLink RX3 15 "HedgeGame$Moment" "standing" "I", Cond.fieldLink RX3 19 "HedgeGame$Moment" "turn" "I", Cond.fieldLink RX3 22 "HedgeGame$Moment" "cuts" "I", Cond.fieldLink RX3 28 "HedgeGame$Moment" "seen" "LHedgeGame$Seen;", Cond.methodLink RX3 47 yX7_copyFrom]
def wsX10_image_r2 : List Cond := [Cond.instanceMethod yX7_copyFrom, Cond.selects RX7 yX7_copyFrom yX7_copyFrom, Cond.initialized RX7, Cond.code yX7_copyFrom cX7_copyFrom 3 none, Cond.fieldLink RX7 9 "HedgeGame$Seen" "size" "I", Cond.fieldLink RX7 15 "HedgeGame$Seen" "branches" "[I", Cond.fieldLink RX7 19 "HedgeGame$Seen" "beginners" "[I", Cond.fieldLink RX7 22 "HedgeGame$Seen" "won" "[Z"]
def wsX10_image : List Cond := .code yX10_image cX10_image 1 (some .int) :: ((wsX10_image_r1 ++ wsX10_image_r2) ++ wsX100 ++ wsX30 ++ wsX80 ++ wsX70)
def wsX10_restore_r1 : List Cond := [Cond.fieldLink RX10 85 "HedgeGame" "isKept" "Z", Cond.fieldLink RX10 26 "HedgeGame" "now" "LHedgeGame$Moment;", Cond.fieldLink RX10 30 "HedgeGame" "kept" "LHedgeGame$Moment;", Cond.fieldLink RX10 81 "HedgeGame" "isCharted" "Z", Cond.methodLink RX10 227 yX3_copyFrom, Cond.instanceMethod yX3_copyFrom, Cond.selects RX3 yX3_copyFrom yX3_copyFrom, Cond.initialized RX3, Cond.code yX3_copyFrom cX3_copyFrom 2 none, Cond.fieldLink RX3 9 "HedgeGame$Moment" "kinds" "[I", Cond.methodLink RX3 41 arraycopyName, Cond.native arraycopyName, Cond.static arraycopyName, Cond.initialized "java/lang/System", Cond.fieldLink RX3 15 "HedgeGame$Moment" "standing" "I", Cond.fieldLink RX3 19 "HedgeGame$Moment" "turn" "I", Cond.fieldLink RX3 22 "HedgeGame$Moment" "cuts" "I", Cond.fieldLink RX3 28 "HedgeGame$Moment" "seen" "LHedgeGame$Seen;", Cond.methodLink RX3 47 yX7_copyFrom, Cond.instanceMethod yX7_copyFrom, Cond.selects RX7 yX7_copyFrom yX7_copyFrom, Cond.initialized RX7, Cond.code yX7_copyFrom cX7_copyFrom 3 none, Cond.fieldLink RX7 9 "HedgeGame$Seen" "size" "I"]
def wsX10_restore_r2 : List Cond := [Cond.fieldLink RX7 15 "HedgeGame$Seen" "branches" "[I", Cond.fieldLink RX7 19 "HedgeGame$Seen" "beginners" "[I", Cond.fieldLink RX7 22 "HedgeGame$Seen" "won" "[Z"]
def wsX10_restore : List Cond := .code yX10_restore cX10_restore 1 (some .int) :: ((wsX10_restore_r1 ++ wsX10_restore_r2) ++ wsX100 ++ wsX30 ++ wsX70)
def wsX10_count_r1 : List Cond := [Cond.fieldLink RX10 19 "HedgeGame" "shape" "LHedgeGame$Shape;", Cond.fieldLink RX10 26 "HedgeGame" "now" "LHedgeGame$Moment;", Cond.fieldLink RX10 38 "HedgeGame" "rules" "LHedgeGame$Rules;", Cond.fieldLink RX10 10 "HedgeGame" "page" "LHedgeGame$Page;", Cond.fieldLink RX10 88 "HedgeGame" "hedgesRead" "I", Cond.fieldLink RX10 92 "HedgeGame" "evensDone" "I", Cond.methodLink RX10 164 yJ6_bitCount_0f7a4, Cond.static yJ6_bitCount_0f7a4, Cond.initialized RJ6, Cond.code yJ6_bitCount_0f7a4 cJ6_bitCount_0f7a4 1 (some .int), Cond.constant RJ6 265 (1431655765), Cond.constant RJ6 266 (858993459), Cond.constant RJ6 267 (252645135), Cond.methodLink RX10 138 yX6_choices, Cond.instanceMethod yX6_choices, Cond.selects RX6 yX6_choices yX6_choices, Cond.initialized RX6, Cond.code yX6_choices cX6_choices 5 (some .int), Cond.fieldLink RX6 9 "HedgeGame$Rules" "shape" "LHedgeGame$Shape;", Cond.fieldLink RX6 15 "HedgeGame$Rules" "now" "LHedgeGame$Moment;", Cond.methodLink RX6 29 yX6_kindsCutBy, Cond.instanceMethod yX6_kindsCutBy, Cond.selects RX6 yX6_kindsCutBy yX6_kindsCutBy, Cond.code yX6_kindsCutBy cX6_kindsCutBy 5 (some .int)]
def wsX10_count_r2 : List Cond := [Cond.methodLink RX10 231 yX8_onTheGround, Cond.instanceMethod yX8_onTheGround, Cond.selects RX8 yX8_onTheGround yX8_onTheGround, Cond.initialized RX8, Cond.code yX8_onTheGround cX8_onTheGround 3 (some .int), Cond.fieldLink RX8 9 "HedgeGame$Shape" "number" "I", Cond.fieldLink RX8 15 "HedgeGame$Shape" "on" "[I", Cond.methodLink RX10 95 yX5_size, Cond.instanceMethod yX5_size, Cond.selects RX5 yX5_size yX5_size, Cond.initialized RX5, Cond.code yX5_size cX5_size 1 (some .int), Cond.fieldLink RX5 15 "HedgeGame$Page" "length" "I"]
def wsX10_count : List Cond := .code yX10_count cX10_count 2 (some .int) :: ((wsX10_count_r1 ++ wsX10_count_r2) ++ wsX100 ++ wsX80 ++ wsX30 ++ wsX70 ++ wsX60 ++ wsX50)
def wsX10_digestOutlook_r1 : List Cond := [Cond.constantLong RX10 236 (31), Cond.fieldLink RX10 19 "HedgeGame" "shape" "LHedgeGame$Shape;", Cond.methodLink RX10 252 yX10_wins, Cond.instanceMethod yX10_wins, Cond.selects RX10 yX10_wins yX10_wins, Cond.initialized RX10, Cond.code yX10_wins cX10_wins 2 (some .int), Cond.fieldLink RX10 47 "HedgeGame" "outcomes" "LHedgeGame$Outcomes;", Cond.fieldLink RX10 26 "HedgeGame" "now" "LHedgeGame$Moment;", Cond.methodLink RX10 179 yX10_isNoSide, Cond.static yX10_isNoSide, Cond.code yX10_isNoSide cX10_isNoSide 1 (some .boolean), Cond.methodLink RX10 176 yX10_hasNoHedge, Cond.instanceMethod yX10_hasNoHedge, Cond.selects RX10 yX10_hasNoHedge yX10_hasNoHedge, Cond.code yX10_hasNoHedge cX10_hasNoHedge 1 (some .boolean), Cond.methodLink RX10 145 yX10_chart, Cond.instanceMethod yX10_chart, Cond.selects RX10 yX10_chart yX10_chart, Cond.code yX10_chart cX10_chart 5 none, Cond.fieldLink RX10 81 "HedgeGame" "isCharted" "Z", Cond.fieldLink RX10 38 "HedgeGame" "rules" "LHedgeGame$Rules;", Cond.fieldLink RX10 56 "HedgeGame" "lengths" "LHedgeGame$Lengths;", Cond.fieldLink RX10 63 "HedgeGame" "values" "LHedgeGame$Values;"]
def wsX10_digestOutlook_r2 : List Cond := [Cond.fieldLink RX10 70 "HedgeGame" "chances" "LHedgeGame$Chances;", Cond.methodLink RX10 138 yX6_choices, Cond.instanceMethod yX6_choices, Cond.selects RX6 yX6_choices yX6_choices, Cond.initialized RX6, Cond.code yX6_choices cX6_choices 5 (some .int), Cond.fieldLink RX6 9 "HedgeGame$Rules" "shape" "LHedgeGame$Shape;", Cond.fieldLink RX6 15 "HedgeGame$Rules" "now" "LHedgeGame$Moment;", Cond.methodLink RX6 29 yX6_kindsCutBy, Cond.instanceMethod yX6_kindsCutBy, Cond.selects RX6 yX6_kindsCutBy yX6_kindsCutBy, Cond.code yX6_kindsCutBy cX6_kindsCutBy 5 (some .int), Cond.methodLink RX10 276 yX4_enter, Cond.instanceMethod yX4_enter, Cond.selects RX4 yX4_enter yX4_enter, Cond.initialized RX4, Cond.code yX4_enter cX4_enter 8 none, Cond.fieldLink RX4 15 "HedgeGame$Outcomes" "rules" "LHedgeGame$Rules;", Cond.fieldLink RX4 11 "HedgeGame$Outcomes" "won" "[J", Cond.constantLong RX4 40 (-1), Cond.methodLink RX4 37 yX6_leftBy, Cond.instanceMethod yX6_leftBy, Cond.selects RX6 yX6_leftBy yX6_leftBy, Cond.code yX6_leftBy cX6_leftBy 3 (some .int)]
def wsX10_digestOutlook_r3 : List Cond := [Cond.static yX10_place, Cond.code yX10_place cX10_place 2 (some .int), Cond.methodLink RX4 42 yX4_hedgesWithCut, Cond.instanceMethod yX4_hedgesWithCut, Cond.selects RX4 yX4_hedgesWithCut yX4_hedgesWithCut, Cond.code yX4_hedgesWithCut cX4_hedgesWithCut 9 (some .long), Cond.constantLong RX4 50 (31), Cond.constantLong RX4 62 (2199023255551), Cond.methodLink RX4 46 yX6_kindsCutBy, Cond.methodLink RX10 280 yX1_enter, Cond.instanceMethod yX1_enter, Cond.selects RX1 yX1_enter yX1_enter, Cond.initialized RX1, Cond.code yX1_enter cX1_enter 9 none, Cond.fieldLink RX1 19 "HedgeGame$Lengths" "outcomes" "LHedgeGame$Outcomes;", Cond.fieldLink RX1 15 "HedgeGame$Lengths" "rules" "LHedgeGame$Rules;", Cond.fieldLink RX1 9 "HedgeGame$Lengths" "cuts" "[I", Cond.methodLink RX1 51 Lib.Math.max.name, Cond.static Lib.Math.max.name, Cond.initialized "java/lang/Math", Cond.code Lib.Math.max.name Lib.Math.max.code 2 (some .int), Cond.methodLink RX1 56 Lib.Math.min.name, Cond.static Lib.Math.min.name, Cond.code Lib.Math.min.name Lib.Math.min.code 2 (some .int)]
def wsX10_digestOutlook_r4 : List Cond := [Cond.methodLink RX1 27 yX4_isWonBy, Cond.instanceMethod yX4_isWonBy, Cond.selects RX4 yX4_isWonBy yX4_isWonBy, Cond.code yX4_isWonBy cX4_isWonBy 3 (some .boolean), Cond.constantLong RX4 23 (1099511627776), Cond.methodLink RX1 48 yX6_leftBy, Cond.methodLink RX10 282 yX9_enter, Cond.instanceMethod yX9_enter, Cond.selects RX9 yX9_enter yX9_enter, Cond.initialized RX9, Cond.code yX9_enter cX9_enter 4 none, Cond.fieldLink RX9 9 "HedgeGame$Values" "value" "[I", Cond.methodLink RX9 19 yX9_simplestOf, Cond.instanceMethod yX9_simplestOf, Cond.selects RX9 yX9_simplestOf yX9_simplestOf, Cond.code yX9_simplestOf cX9_simplestOf 8 (some .int), Cond.constant RX9 23 (-1048576), Cond.constant RX9 24 (1048576), Cond.fieldLink RX9 15 "HedgeGame$Values" "rules" "LHedgeGame$Rules;", Cond.methodLink RX9 41 Lib.Math.max.name, Cond.methodLink RX9 46 Lib.Math.min.name, Cond.methodLink RX9 37 yX6_leftBy, Cond.methodLink RX9 49 yX9_simplestBetween, Cond.static yX9_simplestBetween]
def wsX10_digestOutlook_r5 : List Cond := [Cond.code yX9_simplestBetween cX9_simplestBetween 7 (some .int), Cond.methodLink RX10 283 yX0_enter, Cond.instanceMethod yX0_enter, Cond.selects RX0 yX0_enter yX0_enter, Cond.initialized RX0, Cond.code yX0_enter cX0_enter 8 none, Cond.fieldLink RX0 9 "HedgeGame$Chances" "chance" "[J", Cond.constantLong RX0 25 (182891520000), Cond.fieldLink RX0 15 "HedgeGame$Chances" "rules" "LHedgeGame$Rules;", Cond.methodLink RX0 27 yJ6_bitCount_0f7a4, Cond.static yJ6_bitCount_0f7a4, Cond.initialized RJ6, Cond.code yJ6_bitCount_0f7a4 cJ6_bitCount_0f7a4 1 (some .int), Cond.constant RJ6 265 (1431655765), Cond.constant RJ6 266 (858993459), Cond.constant RJ6 267 (252645135), Cond.methodLink RX0 45 yX6_leftBy, Cond.methodLink RX10 182 yX4_isWonBy, Cond.methodLink RX10 255 yX10_best, Cond.instanceMethod yX10_best, Cond.selects RX10 yX10_best yX10_best, Cond.code yX10_best cX10_best 2 (some .int), Cond.methodLink RX10 185 yX1_bestCut, Cond.instanceMethod yX1_bestCut]
def wsX10_digestOutlook_r6 : List Cond := [Cond.selects RX1 yX1_bestCut yX1_bestCut, Cond.code yX1_bestCut cX1_bestCut 9 (some .int), Cond.methodLink RX1 33 yX6_choices, Cond.methodLink RX10 258 yX10_lasts, Cond.instanceMethod yX10_lasts, Cond.selects RX10 yX10_lasts yX10_lasts, Cond.code yX10_lasts cX10_lasts 2 (some .int), Cond.methodLink RX10 188 yX1_cutsFrom, Cond.instanceMethod yX1_cutsFrom, Cond.selects RX1 yX1_cutsFrom yX1_cutsFrom, Cond.code yX1_cutsFrom cX1_cutsFrom 3 (some .int), Cond.methodLink RX10 261 yX10_likely, Cond.instanceMethod yX10_likely, Cond.selects RX10 yX10_likely yX10_likely, Cond.code yX10_likely cX10_likely 2 (some .int), Cond.methodLink RX10 200 yX0_millionths, Cond.instanceMethod yX0_millionths, Cond.selects RX0 yX0_millionths yX0_millionths, Cond.code yX0_millionths cX0_millionths 3 (some .int), Cond.constantLong RX0 23 (1000000), Cond.methodLink RX10 264 yX10_worth, Cond.instanceMethod yX10_worth, Cond.selects RX10 yX10_worth yX10_worth, Cond.code yX10_worth cX10_worth 1 (some .int)]
def wsX10_digestOutlook_r7 : List Cond := [Cond.methodLink RX10 191 yX9_valueOf, Cond.instanceMethod yX9_valueOf, Cond.selects RX9 yX9_valueOf yX9_valueOf, Cond.code yX9_valueOf cX9_valueOf 2 (some .int), Cond.methodLink RX10 267 yX10_tree, Cond.instanceMethod yX10_tree, Cond.selects RX10 yX10_tree yX10_tree, Cond.code yX10_tree cX10_tree 2 (some .int), Cond.methodLink RX10 124 yX10_isUnknown, Cond.instanceMethod yX10_isUnknown, Cond.selects RX10 yX10_isUnknown yX10_isUnknown, Cond.code yX10_isUnknown cX10_isUnknown 2 (some .boolean), Cond.methodLink RX10 194 yX8_withAllOn, Cond.instanceMethod yX8_withAllOn, Cond.selects RX8 yX8_withAllOn yX8_withAllOn, Cond.initialized RX8, Cond.code yX8_withAllOn cX8_withAllOn 2 (some .int), Cond.fieldLink RX8 19 "HedgeGame$Shape" "above" "[I"]
def wsX10_digestOutlook : List Cond := .code yX10_digestOutlook cX10_digestOutlook 6 (some .long) :: ((wsX10_digestOutlook_r1 ++ (wsX10_digestOutlook_r2 ++ (wsX10_digestOutlook_r3 ++ (wsX10_digestOutlook_r4 ++ (wsX10_digestOutlook_r5 ++ (wsX10_digestOutlook_r6 ++ wsX10_digestOutlook_r7)))))) ++ wsX100 ++ wsX80 ++ wsX30 ++ wsX60 ++ wsX40 ++ wsX10 ++ wsX90 ++ wsX00)
def wsX10_digest_r1 : List Cond := [Cond.constantLong RX10 234 (1283), Cond.fieldLink RX10 19 "HedgeGame" "shape" "LHedgeGame$Shape;", Cond.constantLong RX10 236 (31), Cond.fieldLink RX10 10 "HedgeGame" "page" "LHedgeGame$Page;", Cond.methodLink RX10 238 yX10_branch, Cond.instanceMethod yX10_branch, Cond.selects RX10 yX10_branch yX10_branch, Cond.initialized RX10, Cond.code yX10_branch cX10_branch 3 (some .int), Cond.fieldLink RX10 26 "HedgeGame" "now" "LHedgeGame$Moment;", Cond.fieldLink RX10 38 "HedgeGame" "rules" "LHedgeGame$Rules;", Cond.methodLink RX10 124 yX10_isUnknown, Cond.instanceMethod yX10_isUnknown, Cond.selects RX10 yX10_isUnknown yX10_isUnknown, Cond.code yX10_isUnknown cX10_isUnknown 2 (some .boolean), Cond.methodLink RX10 138 yX6_choices, Cond.instanceMethod yX6_choices, Cond.selects RX6 yX6_choices yX6_choices, Cond.initialized RX6, Cond.code yX6_choices cX6_choices 5 (some .int), Cond.fieldLink RX6 9 "HedgeGame$Rules" "shape" "LHedgeGame$Shape;", Cond.fieldLink RX6 15 "HedgeGame$Rules" "now" "LHedgeGame$Moment;", Cond.methodLink RX6 29 yX6_kindsCutBy, Cond.instanceMethod yX6_kindsCutBy]
def wsX10_digest_r2 : List Cond := [Cond.selects RX6 yX6_kindsCutBy yX6_kindsCutBy, Cond.code yX6_kindsCutBy cX6_kindsCutBy 5 (some .int), Cond.methodLink RX10 145 yX10_chart, Cond.instanceMethod yX10_chart, Cond.selects RX10 yX10_chart yX10_chart, Cond.code yX10_chart cX10_chart 5 none, Cond.fieldLink RX10 81 "HedgeGame" "isCharted" "Z", Cond.fieldLink RX10 47 "HedgeGame" "outcomes" "LHedgeGame$Outcomes;", Cond.fieldLink RX10 56 "HedgeGame" "lengths" "LHedgeGame$Lengths;", Cond.fieldLink RX10 63 "HedgeGame" "values" "LHedgeGame$Values;", Cond.fieldLink RX10 70 "HedgeGame" "chances" "LHedgeGame$Chances;", Cond.methodLink RX10 276 yX4_enter, Cond.instanceMethod yX4_enter, Cond.selects RX4 yX4_enter yX4_enter, Cond.initialized RX4, Cond.code yX4_enter cX4_enter 8 none, Cond.fieldLink RX4 15 "HedgeGame$Outcomes" "rules" "LHedgeGame$Rules;", Cond.fieldLink RX4 11 "HedgeGame$Outcomes" "won" "[J", Cond.constantLong RX4 40 (-1), Cond.methodLink RX4 37 yX6_leftBy, Cond.instanceMethod yX6_leftBy, Cond.selects RX6 yX6_leftBy yX6_leftBy, Cond.code yX6_leftBy cX6_leftBy 3 (some .int), Cond.static yX10_place]
def wsX10_digest_r3 : List Cond := [Cond.code yX10_place cX10_place 2 (some .int), Cond.methodLink RX4 42 yX4_hedgesWithCut, Cond.instanceMethod yX4_hedgesWithCut, Cond.selects RX4 yX4_hedgesWithCut yX4_hedgesWithCut, Cond.code yX4_hedgesWithCut cX4_hedgesWithCut 9 (some .long), Cond.constantLong RX4 50 (31), Cond.constantLong RX4 62 (2199023255551), Cond.methodLink RX4 46 yX6_kindsCutBy, Cond.methodLink RX10 280 yX1_enter, Cond.instanceMethod yX1_enter, Cond.selects RX1 yX1_enter yX1_enter, Cond.initialized RX1, Cond.code yX1_enter cX1_enter 9 none, Cond.fieldLink RX1 19 "HedgeGame$Lengths" "outcomes" "LHedgeGame$Outcomes;", Cond.fieldLink RX1 15 "HedgeGame$Lengths" "rules" "LHedgeGame$Rules;", Cond.fieldLink RX1 9 "HedgeGame$Lengths" "cuts" "[I", Cond.methodLink RX1 51 Lib.Math.max.name, Cond.static Lib.Math.max.name, Cond.initialized "java/lang/Math", Cond.code Lib.Math.max.name Lib.Math.max.code 2 (some .int), Cond.methodLink RX1 56 Lib.Math.min.name, Cond.static Lib.Math.min.name, Cond.code Lib.Math.min.name Lib.Math.min.code 2 (some .int), Cond.methodLink RX1 27 yX4_isWonBy]
def wsX10_digest_r4 : List Cond := [Cond.instanceMethod yX4_isWonBy, Cond.selects RX4 yX4_isWonBy yX4_isWonBy, Cond.code yX4_isWonBy cX4_isWonBy 3 (some .boolean), Cond.constantLong RX4 23 (1099511627776), Cond.methodLink RX1 48 yX6_leftBy, Cond.methodLink RX10 282 yX9_enter, Cond.instanceMethod yX9_enter, Cond.selects RX9 yX9_enter yX9_enter, Cond.initialized RX9, Cond.code yX9_enter cX9_enter 4 none, Cond.fieldLink RX9 9 "HedgeGame$Values" "value" "[I", Cond.methodLink RX9 19 yX9_simplestOf, Cond.instanceMethod yX9_simplestOf, Cond.selects RX9 yX9_simplestOf yX9_simplestOf, Cond.code yX9_simplestOf cX9_simplestOf 8 (some .int), Cond.constant RX9 23 (-1048576), Cond.constant RX9 24 (1048576), Cond.fieldLink RX9 15 "HedgeGame$Values" "rules" "LHedgeGame$Rules;", Cond.methodLink RX9 41 Lib.Math.max.name, Cond.methodLink RX9 46 Lib.Math.min.name, Cond.methodLink RX9 37 yX6_leftBy, Cond.methodLink RX9 49 yX9_simplestBetween, Cond.static yX9_simplestBetween, Cond.code yX9_simplestBetween cX9_simplestBetween 7 (some .int)]
def wsX10_digest_r5 : List Cond := [Cond.methodLink RX10 283 yX0_enter, Cond.instanceMethod yX0_enter, Cond.selects RX0 yX0_enter yX0_enter, Cond.initialized RX0, Cond.code yX0_enter cX0_enter 8 none, Cond.fieldLink RX0 9 "HedgeGame$Chances" "chance" "[J", Cond.constantLong RX0 25 (182891520000), Cond.fieldLink RX0 15 "HedgeGame$Chances" "rules" "LHedgeGame$Rules;", Cond.methodLink RX0 27 yJ6_bitCount_0f7a4, Cond.static yJ6_bitCount_0f7a4, Cond.initialized RJ6, Cond.code yJ6_bitCount_0f7a4 cJ6_bitCount_0f7a4 1 (some .int), Cond.constant RJ6 265 (1431655765), Cond.constant RJ6 266 (858993459), Cond.constant RJ6 267 (252645135), Cond.methodLink RX0 45 yX6_leftBy, Cond.methodLink RX10 148 yX10_sortsOf, Cond.instanceMethod yX10_sortsOf, Cond.selects RX10 yX10_sortsOf yX10_sortsOf, Cond.code yX10_sortsOf cX10_sortsOf 5 (some .int), Cond.methodLink RX10 284 yX4_winningKinds, Cond.instanceMethod yX4_winningKinds, Cond.selects RX4 yX4_winningKinds yX4_winningKinds, Cond.code yX4_winningKinds cX4_winningKinds 4 (some .int)]
def wsX10_digest_r6 : List Cond := [Cond.methodLink RX10 152 yX10_whomToLetBegin, Cond.instanceMethod yX10_whomToLetBegin, Cond.selects RX10 yX10_whomToLetBegin yX10_whomToLetBegin, Cond.code yX10_whomToLetBegin cX10_whomToLetBegin 5 (some .int), Cond.methodLink RX10 298 yX10_mostLeft, Cond.static yX10_mostLeft, Cond.code yX10_mostLeft cX10_mostLeft 2 (some .int), Cond.methodLink RX10 301 Lib.Math.max.name, Cond.methodLink RX10 164 yJ6_bitCount_0f7a4, Cond.methodLink RX10 176 yX10_hasNoHedge, Cond.instanceMethod yX10_hasNoHedge, Cond.selects RX10 yX10_hasNoHedge yX10_hasNoHedge, Cond.code yX10_hasNoHedge cX10_hasNoHedge 1 (some .boolean), Cond.methodLink RX10 241 yX10_digestOutlook, Cond.instanceMethod yX10_digestOutlook, Cond.selects RX10 yX10_digestOutlook yX10_digestOutlook, Cond.code yX10_digestOutlook cX10_digestOutlook 6 (some .long), Cond.methodLink RX10 252 yX10_wins, Cond.instanceMethod yX10_wins, Cond.selects RX10 yX10_wins yX10_wins, Cond.code yX10_wins cX10_wins 2 (some .int), Cond.methodLink RX10 179 yX10_isNoSide, Cond.static yX10_isNoSide, Cond.code yX10_isNoSide cX10_isNoSide 1 (some .boolean)]
def wsX10_digest_r7 : List Cond := [Cond.methodLink RX10 182 yX4_isWonBy, Cond.methodLink RX10 255 yX10_best, Cond.instanceMethod yX10_best, Cond.selects RX10 yX10_best yX10_best, Cond.code yX10_best cX10_best 2 (some .int), Cond.methodLink RX10 185 yX1_bestCut, Cond.instanceMethod yX1_bestCut, Cond.selects RX1 yX1_bestCut yX1_bestCut, Cond.code yX1_bestCut cX1_bestCut 9 (some .int), Cond.methodLink RX1 33 yX6_choices, Cond.methodLink RX10 258 yX10_lasts, Cond.instanceMethod yX10_lasts, Cond.selects RX10 yX10_lasts yX10_lasts, Cond.code yX10_lasts cX10_lasts 2 (some .int), Cond.methodLink RX10 188 yX1_cutsFrom, Cond.instanceMethod yX1_cutsFrom, Cond.selects RX1 yX1_cutsFrom yX1_cutsFrom, Cond.code yX1_cutsFrom cX1_cutsFrom 3 (some .int), Cond.methodLink RX10 261 yX10_likely, Cond.instanceMethod yX10_likely, Cond.selects RX10 yX10_likely yX10_likely, Cond.code yX10_likely cX10_likely 2 (some .int), Cond.methodLink RX10 200 yX0_millionths, Cond.instanceMethod yX0_millionths]
def wsX10_digest_r8 : List Cond := [Cond.selects RX0 yX0_millionths yX0_millionths, Cond.code yX0_millionths cX0_millionths 3 (some .int), Cond.constantLong RX0 23 (1000000), Cond.methodLink RX10 264 yX10_worth, Cond.instanceMethod yX10_worth, Cond.selects RX10 yX10_worth yX10_worth, Cond.code yX10_worth cX10_worth 1 (some .int), Cond.methodLink RX10 191 yX9_valueOf, Cond.instanceMethod yX9_valueOf, Cond.selects RX9 yX9_valueOf yX9_valueOf, Cond.code yX9_valueOf cX9_valueOf 2 (some .int), Cond.methodLink RX10 267 yX10_tree, Cond.instanceMethod yX10_tree, Cond.selects RX10 yX10_tree yX10_tree, Cond.code yX10_tree cX10_tree 2 (some .int), Cond.methodLink RX10 194 yX8_withAllOn, Cond.instanceMethod yX8_withAllOn, Cond.selects RX8 yX8_withAllOn yX8_withAllOn, Cond.initialized RX8, Cond.code yX8_withAllOn cX8_withAllOn 2 (some .int), Cond.fieldLink RX8 19 "HedgeGame$Shape" "above" "[I", Cond.methodLink RX10 95 yX5_size, Cond.instanceMethod yX5_size, Cond.selects RX5 yX5_size yX5_size]
def wsX10_digest_r9 : List Cond := [Cond.initialized RX5, Cond.code yX5_size cX5_size 1 (some .int), Cond.fieldLink RX5 15 "HedgeGame$Page" "length" "I", Cond.methodLink RX10 245 yX5_at, Cond.instanceMethod yX5_at, Cond.selects RX5 yX5_at yX5_at, Cond.code yX5_at cX5_at 2 (some .char), Cond.fieldLink RX5 9 "HedgeGame$Page" "letters" "[C", Cond.methodLink RX10 249 yX10_count, Cond.instanceMethod yX10_count, Cond.selects RX10 yX10_count yX10_count, Cond.code yX10_count cX10_count 2 (some .int), Cond.fieldLink RX10 88 "HedgeGame" "hedgesRead" "I", Cond.fieldLink RX10 92 "HedgeGame" "evensDone" "I", Cond.methodLink RX10 231 yX8_onTheGround, Cond.instanceMethod yX8_onTheGround, Cond.selects RX8 yX8_onTheGround yX8_onTheGround, Cond.code yX8_onTheGround cX8_onTheGround 3 (some .int), Cond.fieldLink RX8 9 "HedgeGame$Shape" "number" "I", Cond.fieldLink RX8 15 "HedgeGame$Shape" "on" "[I"]
def wsX10_digest : List Cond := .code yX10_digest cX10_digest 5 (some .long) :: ((wsX10_digest_r1 ++ (wsX10_digest_r2 ++ (wsX10_digest_r3 ++ (wsX10_digest_r4 ++ (wsX10_digest_r5 ++ (wsX10_digest_r6 ++ (wsX10_digest_r7 ++ (wsX10_digest_r8 ++ wsX10_digest_r9)))))))) ++ wsX100 ++ wsX80 ++ wsX30 ++ wsX60 ++ wsX40 ++ wsX10 ++ wsX90 ++ wsX00 ++ wsX70 ++ wsX50)
def wsX11_init : List Cond := .code yX11_init cX11_init 1 none :: ([.methodLink RX11 1 objectInit, .instanceMethod objectInit, .code objectInit ⟨#[0xb1]⟩ 1 none, .arrayClass .int, .fieldLink RX11 7 "HedgeGameModel" "kindOf" "[I", .fieldLink RX11 13 "HedgeGameModel" "onOf" "[I", .fieldLink RX11 16 "HedgeGameModel" "seenBranch" "[I", .fieldLink RX11 19 "HedgeGameModel" "seenBegins" "[I", .fieldLink RX11 22 "HedgeGameModel" "seenWins" "[I", .arrayClass .byte, .fieldLink RX11 25 "HedgeGameModel" "page" "[B", .fieldLink RX11 29 "HedgeGameModel" "winner" "[I", .fieldLink RX11 32 "HedgeGameModel" "lasting" "[I", .fieldLink RX11 35 "HedgeGameModel" "worthBy" "[I", .arrayClass .long, .fieldLink RX11 38 "HedgeGameModel" "partsBy" "[J", .fieldLink RX11 42 "HedgeGameModel" "wonBy" "[I", .fieldLink RX11 45 "HedgeGameModel" "keptKind" "[I", .fieldLink RX11 48 "HedgeGameModel" "keptBranch" "[I", .fieldLink RX11 51 "HedgeGameModel" "keptBegins" "[I", .fieldLink RX11 54 "HedgeGameModel" "keptWins" "[I"] ++ wsX110)
def wsX11_within : List Cond := .code yX11_within cX11_within 3 (some .boolean) :: ([])
def wsX11_isIn : List Cond := .code yX11_isIn cX11_isIn 2 (some .boolean) :: ([])
def wsX11_size : List Cond := .code yX11_size cX11_size 3 (some .int) :: ([])
def wsX11_letter : List Cond := .code yX11_letter cX11_letter 2 (some .int) :: ([.fieldLink RX11 61 "HedgeGameModel" "pageLength" "I", .fieldLink RX11 25 "HedgeGameModel" "page" "[B", .methodLink RX11 57 yX11_within, .static yX11_within, .initialized RX11, .code yX11_within cX11_within 3 (some .boolean)] ++ wsX110)
def wsX11_blank : List Cond := .code yX11_blank cX11_blank 2 (some .int) :: ([.fieldLink RX11 61 "HedgeGameModel" "pageLength" "I"] ++ wsX110)
def wsX11_kindBy : List Cond := .code yX11_kindBy cX11_kindBy 1 (some .int) :: ([])
def wsX11_at : List Cond := .code yX11_at cX11_at 2 (some .int) :: ([.fieldLink RX11 61 "HedgeGameModel" "pageLength" "I", .fieldLink RX11 25 "HedgeGameModel" "page" "[B"] ++ wsX110)
def wsX11_read : List Cond := .code yX11_read cX11_read 2 (some .int) :: ([.fieldLink RX11 65 "HedgeGameModel" "isWhole" "Z", .fieldLink RX11 69 "HedgeGameModel" "newBranches" "I", .fieldLink RX11 61 "HedgeGameModel" "pageLength" "I", .methodLink RX11 72 yX11_at, .instanceMethod yX11_at, .selects RX11 yX11_at yX11_at, .initialized RX11, .code yX11_at cX11_at 2 (some .int), .fieldLink RX11 25 "HedgeGameModel" "page" "[B", .methodLink RX11 76 yX11_kindBy, .static yX11_kindBy, .code yX11_kindBy cX11_kindBy 1 (some .int), .methodLink RX11 57 yX11_within, .static yX11_within, .code yX11_within cX11_within 3 (some .boolean)] ++ wsX110)
def wsX11_fault : List Cond := .code yX11_fault cX11_fault 1 (some .int) :: ([.methodLink RX11 79 yX11_read, .instanceMethod yX11_read, .selects RX11 yX11_read yX11_read, .initialized RX11, .code yX11_read cX11_read 2 (some .int), .fieldLink RX11 65 "HedgeGameModel" "isWhole" "Z", .fieldLink RX11 69 "HedgeGameModel" "newBranches" "I", .fieldLink RX11 61 "HedgeGameModel" "pageLength" "I", .methodLink RX11 72 yX11_at, .instanceMethod yX11_at, .selects RX11 yX11_at yX11_at, .code yX11_at cX11_at 2 (some .int), .fieldLink RX11 25 "HedgeGameModel" "page" "[B", .methodLink RX11 76 yX11_kindBy, .static yX11_kindBy, .code yX11_kindBy cX11_kindBy 1 (some .int), .methodLink RX11 57 yX11_within, .static yX11_within, .code yX11_within cX11_within 3 (some .boolean)] ++ wsX110)
def wsX11_hedge_r1 : List Cond := [Cond.fieldLink RX11 65 "HedgeGameModel" "isWhole" "Z", Cond.fieldLink RX11 69 "HedgeGameModel" "newBranches" "I", Cond.fieldLink RX11 83 "HedgeGameModel" "branches" "I", Cond.fieldLink RX11 7 "HedgeGameModel" "kindOf" "[I", Cond.fieldLink RX11 25 "HedgeGameModel" "page" "[B", Cond.fieldLink RX11 13 "HedgeGameModel" "onOf" "[I", Cond.fieldLink RX11 86 "HedgeGameModel" "stand" "I", Cond.fieldLink RX11 89 "HedgeGameModel" "turn" "I", Cond.fieldLink RX11 92 "HedgeGameModel" "cuts" "I", Cond.fieldLink RX11 95 "HedgeGameModel" "hedges" "I", Cond.fieldLink RX11 98 "HedgeGameModel" "seen" "I", Cond.fieldLink RX11 61 "HedgeGameModel" "pageLength" "I", Cond.methodLink RX11 79 yX11_read, Cond.instanceMethod yX11_read, Cond.selects RX11 yX11_read yX11_read, Cond.initialized RX11, Cond.code yX11_read cX11_read 2 (some .int), Cond.methodLink RX11 72 yX11_at, Cond.instanceMethod yX11_at, Cond.selects RX11 yX11_at yX11_at, Cond.code yX11_at cX11_at 2 (some .int), Cond.methodLink RX11 76 yX11_kindBy, Cond.static yX11_kindBy, Cond.code yX11_kindBy cX11_kindBy 1 (some .int)]
def wsX11_hedge_r2 : List Cond := [Cond.methodLink RX11 57 yX11_within, Cond.static yX11_within, Cond.code yX11_within cX11_within 3 (some .boolean)]
def wsX11_hedge : List Cond := .code yX11_hedge cX11_hedge 2 (some .int) :: ((wsX11_hedge_r1 ++ wsX11_hedge_r2) ++ wsX110)
def wsX11_isBranch : List Cond := .code yX11_isBranch cX11_isBranch 2 (some .boolean) :: ([.fieldLink RX11 83 "HedgeGameModel" "branches" "I", .methodLink RX11 57 yX11_within, .static yX11_within, .initialized RX11, .code yX11_within cX11_within 3 (some .boolean)] ++ wsX110)
def wsX11_above : List Cond := .code yX11_above cX11_above 4 (some .int) :: ([.fieldLink RX11 83 "HedgeGameModel" "branches" "I", .fieldLink RX11 13 "HedgeGameModel" "onOf" "[I", .methodLink RX11 101 yX11_isIn, .static yX11_isIn, .initialized RX11, .code yX11_isIn cX11_isIn 2 (some .boolean)] ++ wsX110)
def wsX11_isBare : List Cond := .code yX11_isBare cX11_isBare 5 (some .boolean) :: ([.fieldLink RX11 83 "HedgeGameModel" "branches" "I", .fieldLink RX11 13 "HedgeGameModel" "onOf" "[I", .methodLink RX11 101 yX11_isIn, .static yX11_isIn, .initialized RX11, .code yX11_isIn cX11_isIn 2 (some .boolean)] ++ wsX110)
def wsX11_mayCut : List Cond := .code yX11_mayCut cX11_mayCut 4 (some .boolean) :: ([.fieldLink RX11 7 "HedgeGameModel" "kindOf" "[I", .methodLink RX11 101 yX11_isIn, .static yX11_isIn, .initialized RX11, .code yX11_isIn cX11_isIn 2 (some .boolean), .methodLink RX11 105 yX11_isBare, .instanceMethod yX11_isBare, .selects RX11 yX11_isBare yX11_isBare, .code yX11_isBare cX11_isBare 5 (some .boolean), .fieldLink RX11 83 "HedgeGameModel" "branches" "I", .fieldLink RX11 13 "HedgeGameModel" "onOf" "[I"] ++ wsX110)
def wsX11_leaves : List Cond := .code yX11_leaves cX11_leaves 3 (some .int) :: ([.methodLink RX11 108 yX11_above, .instanceMethod yX11_above, .selects RX11 yX11_above yX11_above, .initialized RX11, .code yX11_above cX11_above 4 (some .int), .fieldLink RX11 83 "HedgeGameModel" "branches" "I", .fieldLink RX11 13 "HedgeGameModel" "onOf" "[I", .methodLink RX11 101 yX11_isIn, .static yX11_isIn, .code yX11_isIn cX11_isIn 2 (some .boolean)] ++ wsX110)
def wsX11_mayCuts : List Cond := .code yX11_mayCuts cX11_mayCuts 5 (some .int) :: ([.fieldLink RX11 83 "HedgeGameModel" "branches" "I", .methodLink RX11 111 yX11_mayCut, .instanceMethod yX11_mayCut, .selects RX11 yX11_mayCut yX11_mayCut, .initialized RX11, .code yX11_mayCut cX11_mayCut 4 (some .boolean), .fieldLink RX11 7 "HedgeGameModel" "kindOf" "[I", .methodLink RX11 101 yX11_isIn, .static yX11_isIn, .code yX11_isIn cX11_isIn 2 (some .boolean), .methodLink RX11 105 yX11_isBare, .instanceMethod yX11_isBare, .selects RX11 yX11_isBare yX11_isBare, .code yX11_isBare cX11_isBare 5 (some .boolean), .fieldLink RX11 13 "HedgeGameModel" "onOf" "[I"] ++ wsX110)
def wsX11_winnerFrom : List Cond := .code yX11_winnerFrom cX11_winnerFrom 4 (some .int) :: ([.fieldLink RX11 83 "HedgeGameModel" "branches" "I", .fieldLink RX11 29 "HedgeGameModel" "winner" "[I", .methodLink RX11 111 yX11_mayCut, .instanceMethod yX11_mayCut, .selects RX11 yX11_mayCut yX11_mayCut, .initialized RX11, .code yX11_mayCut cX11_mayCut 4 (some .boolean), .fieldLink RX11 7 "HedgeGameModel" "kindOf" "[I", .methodLink RX11 101 yX11_isIn, .static yX11_isIn, .code yX11_isIn cX11_isIn 2 (some .boolean), .methodLink RX11 105 yX11_isBare, .instanceMethod yX11_isBare, .selects RX11 yX11_isBare yX11_isBare, .code yX11_isBare cX11_isBare 5 (some .boolean), .fieldLink RX11 13 "HedgeGameModel" "onOf" "[I", .methodLink RX11 128 yX11_leaves, .instanceMethod yX11_leaves, .selects RX11 yX11_leaves yX11_leaves, .code yX11_leaves cX11_leaves 3 (some .int), .methodLink RX11 108 yX11_above, .instanceMethod yX11_above, .selects RX11 yX11_above yX11_above, .code yX11_above cX11_above 4 (some .int)] ++ wsX110)
def wsX11_layWinners_r1 : List Cond := [Cond.fieldLink RX11 86 "HedgeGameModel" "stand" "I", Cond.fieldLink RX11 29 "HedgeGameModel" "winner" "[I", Cond.methodLink RX11 135 yX11_winnerFrom, Cond.instanceMethod yX11_winnerFrom, Cond.selects RX11 yX11_winnerFrom yX11_winnerFrom, Cond.initialized RX11, Cond.code yX11_winnerFrom cX11_winnerFrom 4 (some .int), Cond.fieldLink RX11 83 "HedgeGameModel" "branches" "I", Cond.methodLink RX11 111 yX11_mayCut, Cond.instanceMethod yX11_mayCut, Cond.selects RX11 yX11_mayCut yX11_mayCut, Cond.code yX11_mayCut cX11_mayCut 4 (some .boolean), Cond.fieldLink RX11 7 "HedgeGameModel" "kindOf" "[I", Cond.methodLink RX11 101 yX11_isIn, Cond.static yX11_isIn, Cond.code yX11_isIn cX11_isIn 2 (some .boolean), Cond.methodLink RX11 105 yX11_isBare, Cond.instanceMethod yX11_isBare, Cond.selects RX11 yX11_isBare yX11_isBare, Cond.code yX11_isBare cX11_isBare 5 (some .boolean), Cond.fieldLink RX11 13 "HedgeGameModel" "onOf" "[I", Cond.methodLink RX11 128 yX11_leaves, Cond.instanceMethod yX11_leaves, Cond.selects RX11 yX11_leaves yX11_leaves]
def wsX11_layWinners_r2 : List Cond := [Cond.code yX11_leaves cX11_leaves 3 (some .int), Cond.methodLink RX11 108 yX11_above, Cond.instanceMethod yX11_above, Cond.selects RX11 yX11_above yX11_above, Cond.code yX11_above cX11_above 4 (some .int)]
def wsX11_layWinners : List Cond := .code yX11_layWinners cX11_layWinners 2 none :: ((wsX11_layWinners_r1 ++ wsX11_layWinners_r2) ++ wsX110)
def wsX11_laySorts_r1 : List Cond := [Cond.fieldLink RX11 7 "HedgeGameModel" "kindOf" "[I", Cond.fieldLink RX11 42 "HedgeGameModel" "wonBy" "[I", Cond.fieldLink RX11 29 "HedgeGameModel" "winner" "[I", Cond.fieldLink RX11 86 "HedgeGameModel" "stand" "I", Cond.methodLink RX11 138 yX11_layWinners, Cond.instanceMethod yX11_layWinners, Cond.selects RX11 yX11_layWinners yX11_layWinners, Cond.initialized RX11, Cond.code yX11_layWinners cX11_layWinners 2 none, Cond.methodLink RX11 135 yX11_winnerFrom, Cond.instanceMethod yX11_winnerFrom, Cond.selects RX11 yX11_winnerFrom yX11_winnerFrom, Cond.code yX11_winnerFrom cX11_winnerFrom 4 (some .int), Cond.fieldLink RX11 83 "HedgeGameModel" "branches" "I", Cond.methodLink RX11 111 yX11_mayCut, Cond.instanceMethod yX11_mayCut, Cond.selects RX11 yX11_mayCut yX11_mayCut, Cond.code yX11_mayCut cX11_mayCut 4 (some .boolean), Cond.methodLink RX11 101 yX11_isIn, Cond.static yX11_isIn, Cond.code yX11_isIn cX11_isIn 2 (some .boolean), Cond.methodLink RX11 105 yX11_isBare, Cond.instanceMethod yX11_isBare, Cond.selects RX11 yX11_isBare yX11_isBare]
def wsX11_laySorts_r2 : List Cond := [Cond.code yX11_isBare cX11_isBare 5 (some .boolean), Cond.fieldLink RX11 13 "HedgeGameModel" "onOf" "[I", Cond.methodLink RX11 128 yX11_leaves, Cond.instanceMethod yX11_leaves, Cond.selects RX11 yX11_leaves yX11_leaves, Cond.code yX11_leaves cX11_leaves 3 (some .int), Cond.methodLink RX11 108 yX11_above, Cond.instanceMethod yX11_above, Cond.selects RX11 yX11_above yX11_above, Cond.code yX11_above cX11_above 4 (some .int)]
def wsX11_laySorts : List Cond := .code yX11_laySorts cX11_laySorts 4 none :: ((wsX11_laySorts_r1 ++ wsX11_laySorts_r2) ++ wsX110)
def wsX11_sortsOf_r1 : List Cond := [Cond.fieldLink RX11 98 "HedgeGameModel" "seen" "I", Cond.fieldLink RX11 16 "HedgeGameModel" "seenBranch" "[I", Cond.fieldLink RX11 42 "HedgeGameModel" "wonBy" "[I", Cond.fieldLink RX11 19 "HedgeGameModel" "seenBegins" "[I", Cond.fieldLink RX11 22 "HedgeGameModel" "seenWins" "[I", Cond.methodLink RX11 193 yX11_laySorts, Cond.instanceMethod yX11_laySorts, Cond.selects RX11 yX11_laySorts yX11_laySorts, Cond.initialized RX11, Cond.code yX11_laySorts cX11_laySorts 4 none, Cond.fieldLink RX11 7 "HedgeGameModel" "kindOf" "[I", Cond.fieldLink RX11 29 "HedgeGameModel" "winner" "[I", Cond.fieldLink RX11 86 "HedgeGameModel" "stand" "I", Cond.methodLink RX11 138 yX11_layWinners, Cond.instanceMethod yX11_layWinners, Cond.selects RX11 yX11_layWinners yX11_layWinners, Cond.code yX11_layWinners cX11_layWinners 2 none, Cond.methodLink RX11 135 yX11_winnerFrom, Cond.instanceMethod yX11_winnerFrom, Cond.selects RX11 yX11_winnerFrom yX11_winnerFrom, Cond.code yX11_winnerFrom cX11_winnerFrom 4 (some .int), Cond.fieldLink RX11 83 "HedgeGameModel" "branches" "I", Cond.methodLink RX11 111 yX11_mayCut, Cond.instanceMethod yX11_mayCut]
def wsX11_sortsOf_r2 : List Cond := [Cond.selects RX11 yX11_mayCut yX11_mayCut, Cond.code yX11_mayCut cX11_mayCut 4 (some .boolean), Cond.methodLink RX11 101 yX11_isIn, Cond.static yX11_isIn, Cond.code yX11_isIn cX11_isIn 2 (some .boolean), Cond.methodLink RX11 105 yX11_isBare, Cond.instanceMethod yX11_isBare, Cond.selects RX11 yX11_isBare yX11_isBare, Cond.code yX11_isBare cX11_isBare 5 (some .boolean), Cond.fieldLink RX11 13 "HedgeGameModel" "onOf" "[I", Cond.methodLink RX11 128 yX11_leaves, Cond.instanceMethod yX11_leaves, Cond.selects RX11 yX11_leaves yX11_leaves, Cond.code yX11_leaves cX11_leaves 3 (some .int), Cond.methodLink RX11 108 yX11_above, Cond.instanceMethod yX11_above, Cond.selects RX11 yX11_above yX11_above, Cond.code yX11_above cX11_above 4 (some .int)]
def wsX11_sortsOf : List Cond := .code yX11_sortsOf cX11_sortsOf 6 (some .int) :: ((wsX11_sortsOf_r1 ++ wsX11_sortsOf_r2) ++ wsX110)
def wsX11_worstBy : List Cond := .code yX11_worstBy cX11_worstBy 5 (some .int) :: ([.fieldLink RX11 42 "HedgeGameModel" "wonBy" "[I", .methodLink RX11 101 yX11_isIn, .static yX11_isIn, .initialized RX11, .code yX11_isIn cX11_isIn 2 (some .boolean), .methodLink RX11 131 yX11_size, .static yX11_size, .code yX11_size cX11_size 3 (some .int)] ++ wsX110)
def wsX11_letOf_r1 : List Cond := [Cond.methodLink RX11 114 yX11_sortsOf, Cond.instanceMethod yX11_sortsOf, Cond.selects RX11 yX11_sortsOf yX11_sortsOf, Cond.initialized RX11, Cond.code yX11_sortsOf cX11_sortsOf 6 (some .int), Cond.fieldLink RX11 98 "HedgeGameModel" "seen" "I", Cond.fieldLink RX11 16 "HedgeGameModel" "seenBranch" "[I", Cond.fieldLink RX11 42 "HedgeGameModel" "wonBy" "[I", Cond.fieldLink RX11 19 "HedgeGameModel" "seenBegins" "[I", Cond.fieldLink RX11 22 "HedgeGameModel" "seenWins" "[I", Cond.methodLink RX11 193 yX11_laySorts, Cond.instanceMethod yX11_laySorts, Cond.selects RX11 yX11_laySorts yX11_laySorts, Cond.code yX11_laySorts cX11_laySorts 4 none, Cond.fieldLink RX11 7 "HedgeGameModel" "kindOf" "[I", Cond.fieldLink RX11 29 "HedgeGameModel" "winner" "[I", Cond.fieldLink RX11 86 "HedgeGameModel" "stand" "I", Cond.methodLink RX11 138 yX11_layWinners, Cond.instanceMethod yX11_layWinners, Cond.selects RX11 yX11_layWinners yX11_layWinners, Cond.code yX11_layWinners cX11_layWinners 2 none, Cond.methodLink RX11 135 yX11_winnerFrom, Cond.instanceMethod yX11_winnerFrom, Cond.selects RX11 yX11_winnerFrom yX11_winnerFrom]
def wsX11_letOf_r2 : List Cond := [Cond.code yX11_winnerFrom cX11_winnerFrom 4 (some .int), Cond.fieldLink RX11 83 "HedgeGameModel" "branches" "I", Cond.methodLink RX11 111 yX11_mayCut, Cond.instanceMethod yX11_mayCut, Cond.selects RX11 yX11_mayCut yX11_mayCut, Cond.code yX11_mayCut cX11_mayCut 4 (some .boolean), Cond.methodLink RX11 101 yX11_isIn, Cond.static yX11_isIn, Cond.code yX11_isIn cX11_isIn 2 (some .boolean), Cond.methodLink RX11 105 yX11_isBare, Cond.instanceMethod yX11_isBare, Cond.selects RX11 yX11_isBare yX11_isBare, Cond.code yX11_isBare cX11_isBare 5 (some .boolean), Cond.fieldLink RX11 13 "HedgeGameModel" "onOf" "[I", Cond.methodLink RX11 128 yX11_leaves, Cond.instanceMethod yX11_leaves, Cond.selects RX11 yX11_leaves yX11_leaves, Cond.code yX11_leaves cX11_leaves 3 (some .int), Cond.methodLink RX11 108 yX11_above, Cond.instanceMethod yX11_above, Cond.selects RX11 yX11_above yX11_above, Cond.code yX11_above cX11_above 4 (some .int), Cond.methodLink RX11 197 yX11_worstBy, Cond.instanceMethod yX11_worstBy]
def wsX11_letOf_r3 : List Cond := [Cond.selects RX11 yX11_worstBy yX11_worstBy, Cond.code yX11_worstBy cX11_worstBy 5 (some .int), Cond.methodLink RX11 131 yX11_size, Cond.static yX11_size, Cond.code yX11_size cX11_size 3 (some .int)]
def wsX11_letOf : List Cond := .code yX11_letOf cX11_letOf 3 (some .int) :: ((wsX11_letOf_r1 ++ (wsX11_letOf_r2 ++ wsX11_letOf_r3)) ++ wsX110)
def wsX11_branchNow_r1 : List Cond := [Cond.fieldLink RX11 7 "HedgeGameModel" "kindOf" "[I", Cond.fieldLink RX11 13 "HedgeGameModel" "onOf" "[I", Cond.fieldLink RX11 86 "HedgeGameModel" "stand" "I", Cond.methodLink RX11 101 yX11_isIn, Cond.static yX11_isIn, Cond.initialized RX11, Cond.code yX11_isIn cX11_isIn 2 (some .boolean), Cond.methodLink RX11 111 yX11_mayCut, Cond.instanceMethod yX11_mayCut, Cond.selects RX11 yX11_mayCut yX11_mayCut, Cond.code yX11_mayCut cX11_mayCut 4 (some .boolean), Cond.methodLink RX11 105 yX11_isBare, Cond.instanceMethod yX11_isBare, Cond.selects RX11 yX11_isBare yX11_isBare, Cond.code yX11_isBare cX11_isBare 5 (some .boolean), Cond.fieldLink RX11 83 "HedgeGameModel" "branches" "I", Cond.methodLink RX11 108 yX11_above, Cond.instanceMethod yX11_above, Cond.selects RX11 yX11_above yX11_above, Cond.code yX11_above cX11_above 4 (some .int), Cond.methodLink RX11 114 yX11_sortsOf, Cond.instanceMethod yX11_sortsOf, Cond.selects RX11 yX11_sortsOf yX11_sortsOf, Cond.code yX11_sortsOf cX11_sortsOf 6 (some .int)]
def wsX11_branchNow_r2 : List Cond := [Cond.fieldLink RX11 98 "HedgeGameModel" "seen" "I", Cond.fieldLink RX11 16 "HedgeGameModel" "seenBranch" "[I", Cond.fieldLink RX11 42 "HedgeGameModel" "wonBy" "[I", Cond.fieldLink RX11 19 "HedgeGameModel" "seenBegins" "[I", Cond.fieldLink RX11 22 "HedgeGameModel" "seenWins" "[I", Cond.methodLink RX11 193 yX11_laySorts, Cond.instanceMethod yX11_laySorts, Cond.selects RX11 yX11_laySorts yX11_laySorts, Cond.code yX11_laySorts cX11_laySorts 4 none, Cond.fieldLink RX11 29 "HedgeGameModel" "winner" "[I", Cond.methodLink RX11 138 yX11_layWinners, Cond.instanceMethod yX11_layWinners, Cond.selects RX11 yX11_layWinners yX11_layWinners, Cond.code yX11_layWinners cX11_layWinners 2 none, Cond.methodLink RX11 135 yX11_winnerFrom, Cond.instanceMethod yX11_winnerFrom, Cond.selects RX11 yX11_winnerFrom yX11_winnerFrom, Cond.code yX11_winnerFrom cX11_winnerFrom 4 (some .int), Cond.methodLink RX11 128 yX11_leaves, Cond.instanceMethod yX11_leaves, Cond.selects RX11 yX11_leaves yX11_leaves, Cond.code yX11_leaves cX11_leaves 3 (some .int), Cond.methodLink RX11 117 yX11_letOf, Cond.instanceMethod yX11_letOf]
def wsX11_branchNow_r3 : List Cond := [Cond.selects RX11 yX11_letOf yX11_letOf, Cond.code yX11_letOf cX11_letOf 3 (some .int), Cond.methodLink RX11 197 yX11_worstBy, Cond.instanceMethod yX11_worstBy, Cond.selects RX11 yX11_worstBy yX11_worstBy, Cond.code yX11_worstBy cX11_worstBy 5 (some .int), Cond.methodLink RX11 131 yX11_size, Cond.static yX11_size, Cond.code yX11_size cX11_size 3 (some .int)]
def wsX11_branchNow : List Cond := .code yX11_branchNow cX11_branchNow 3 (some .int) :: ((wsX11_branchNow_r1 ++ (wsX11_branchNow_r2 ++ wsX11_branchNow_r3)) ++ wsX110)
def wsX11_branch_r1 : List Cond := [Cond.methodLink RX11 120 yX11_isBranch, Cond.instanceMethod yX11_isBranch, Cond.selects RX11 yX11_isBranch yX11_isBranch, Cond.initialized RX11, Cond.code yX11_isBranch cX11_isBranch 2 (some .boolean), Cond.fieldLink RX11 83 "HedgeGameModel" "branches" "I", Cond.methodLink RX11 57 yX11_within, Cond.static yX11_within, Cond.code yX11_within cX11_within 3 (some .boolean), Cond.methodLink RX11 124 yX11_branchNow, Cond.instanceMethod yX11_branchNow, Cond.selects RX11 yX11_branchNow yX11_branchNow, Cond.code yX11_branchNow cX11_branchNow 3 (some .int), Cond.fieldLink RX11 7 "HedgeGameModel" "kindOf" "[I", Cond.fieldLink RX11 13 "HedgeGameModel" "onOf" "[I", Cond.fieldLink RX11 86 "HedgeGameModel" "stand" "I", Cond.methodLink RX11 101 yX11_isIn, Cond.static yX11_isIn, Cond.code yX11_isIn cX11_isIn 2 (some .boolean), Cond.methodLink RX11 111 yX11_mayCut, Cond.instanceMethod yX11_mayCut, Cond.selects RX11 yX11_mayCut yX11_mayCut, Cond.code yX11_mayCut cX11_mayCut 4 (some .boolean), Cond.methodLink RX11 105 yX11_isBare]
def wsX11_branch_r2 : List Cond := [Cond.instanceMethod yX11_isBare, Cond.selects RX11 yX11_isBare yX11_isBare, Cond.code yX11_isBare cX11_isBare 5 (some .boolean), Cond.methodLink RX11 108 yX11_above, Cond.instanceMethod yX11_above, Cond.selects RX11 yX11_above yX11_above, Cond.code yX11_above cX11_above 4 (some .int), Cond.methodLink RX11 114 yX11_sortsOf, Cond.instanceMethod yX11_sortsOf, Cond.selects RX11 yX11_sortsOf yX11_sortsOf, Cond.code yX11_sortsOf cX11_sortsOf 6 (some .int), Cond.fieldLink RX11 98 "HedgeGameModel" "seen" "I", Cond.fieldLink RX11 16 "HedgeGameModel" "seenBranch" "[I", Cond.fieldLink RX11 42 "HedgeGameModel" "wonBy" "[I", Cond.fieldLink RX11 19 "HedgeGameModel" "seenBegins" "[I", Cond.fieldLink RX11 22 "HedgeGameModel" "seenWins" "[I", Cond.methodLink RX11 193 yX11_laySorts, Cond.instanceMethod yX11_laySorts, Cond.selects RX11 yX11_laySorts yX11_laySorts, Cond.code yX11_laySorts cX11_laySorts 4 none, Cond.fieldLink RX11 29 "HedgeGameModel" "winner" "[I", Cond.methodLink RX11 138 yX11_layWinners, Cond.instanceMethod yX11_layWinners, Cond.selects RX11 yX11_layWinners yX11_layWinners]
def wsX11_branch_r3 : List Cond := [Cond.code yX11_layWinners cX11_layWinners 2 none, Cond.methodLink RX11 135 yX11_winnerFrom, Cond.instanceMethod yX11_winnerFrom, Cond.selects RX11 yX11_winnerFrom yX11_winnerFrom, Cond.code yX11_winnerFrom cX11_winnerFrom 4 (some .int), Cond.methodLink RX11 128 yX11_leaves, Cond.instanceMethod yX11_leaves, Cond.selects RX11 yX11_leaves yX11_leaves, Cond.code yX11_leaves cX11_leaves 3 (some .int), Cond.methodLink RX11 117 yX11_letOf, Cond.instanceMethod yX11_letOf, Cond.selects RX11 yX11_letOf yX11_letOf, Cond.code yX11_letOf cX11_letOf 3 (some .int), Cond.methodLink RX11 197 yX11_worstBy, Cond.instanceMethod yX11_worstBy, Cond.selects RX11 yX11_worstBy yX11_worstBy, Cond.code yX11_worstBy cX11_worstBy 5 (some .int), Cond.methodLink RX11 131 yX11_size, Cond.static yX11_size, Cond.code yX11_size cX11_size 3 (some .int)]
def wsX11_branch : List Cond := .code yX11_branch cX11_branch 3 (some .int) :: ((wsX11_branch_r1 ++ (wsX11_branch_r2 ++ wsX11_branch_r3)) ++ wsX110)
def wsX11_as : List Cond := .code yX11_as cX11_as 4 (some .int) :: ([.fieldLink RX11 7 "HedgeGameModel" "kindOf" "[I", .methodLink RX11 120 yX11_isBranch, .instanceMethod yX11_isBranch, .selects RX11 yX11_isBranch yX11_isBranch, .initialized RX11, .code yX11_isBranch cX11_isBranch 2 (some .boolean), .fieldLink RX11 83 "HedgeGameModel" "branches" "I", .methodLink RX11 57 yX11_within, .static yX11_within, .code yX11_within cX11_within 3 (some .boolean)] ++ wsX110)
def wsX11_cut_r1 : List Cond := [Cond.fieldLink RX11 89 "HedgeGameModel" "turn" "I", Cond.fieldLink RX11 86 "HedgeGameModel" "stand" "I", Cond.fieldLink RX11 92 "HedgeGameModel" "cuts" "I", Cond.methodLink RX11 120 yX11_isBranch, Cond.instanceMethod yX11_isBranch, Cond.selects RX11 yX11_isBranch yX11_isBranch, Cond.initialized RX11, Cond.code yX11_isBranch cX11_isBranch 2 (some .boolean), Cond.fieldLink RX11 83 "HedgeGameModel" "branches" "I", Cond.methodLink RX11 57 yX11_within, Cond.static yX11_within, Cond.code yX11_within cX11_within 3 (some .boolean), Cond.methodLink RX11 111 yX11_mayCut, Cond.instanceMethod yX11_mayCut, Cond.selects RX11 yX11_mayCut yX11_mayCut, Cond.code yX11_mayCut cX11_mayCut 4 (some .boolean), Cond.fieldLink RX11 7 "HedgeGameModel" "kindOf" "[I", Cond.methodLink RX11 101 yX11_isIn, Cond.static yX11_isIn, Cond.code yX11_isIn cX11_isIn 2 (some .boolean), Cond.methodLink RX11 105 yX11_isBare, Cond.instanceMethod yX11_isBare, Cond.selects RX11 yX11_isBare yX11_isBare, Cond.code yX11_isBare cX11_isBare 5 (some .boolean)]
def wsX11_cut_r2 : List Cond := [Cond.fieldLink RX11 13 "HedgeGameModel" "onOf" "[I", Cond.methodLink RX11 128 yX11_leaves, Cond.instanceMethod yX11_leaves, Cond.selects RX11 yX11_leaves yX11_leaves, Cond.code yX11_leaves cX11_leaves 3 (some .int), Cond.methodLink RX11 108 yX11_above, Cond.instanceMethod yX11_above, Cond.selects RX11 yX11_above yX11_above, Cond.code yX11_above cX11_above 4 (some .int), Cond.methodLink RX11 131 yX11_size, Cond.static yX11_size, Cond.code yX11_size cX11_size 3 (some .int)]
def wsX11_cut : List Cond := .code yX11_cut cX11_cut 4 (some .int) :: ((wsX11_cut_r1 ++ wsX11_cut_r2) ++ wsX110)
def wsX11_grow : List Cond := .code yX11_grow cX11_grow 2 (some .int) :: ([.fieldLink RX11 86 "HedgeGameModel" "stand" "I", .fieldLink RX11 13 "HedgeGameModel" "onOf" "[I", .methodLink RX11 120 yX11_isBranch, .instanceMethod yX11_isBranch, .selects RX11 yX11_isBranch yX11_isBranch, .initialized RX11, .code yX11_isBranch cX11_isBranch 2 (some .boolean), .fieldLink RX11 83 "HedgeGameModel" "branches" "I", .methodLink RX11 57 yX11_within, .static yX11_within, .code yX11_within cX11_within 3 (some .boolean), .methodLink RX11 101 yX11_isIn, .static yX11_isIn, .code yX11_isIn cX11_isIn 2 (some .boolean), .methodLink RX11 131 yX11_size, .static yX11_size, .code yX11_size cX11_size 3 (some .int)] ++ wsX110)
def wsX11_pass : List Cond := .code yX11_pass cX11_pass 1 (some .int) :: ([.fieldLink RX11 83 "HedgeGameModel" "branches" "I", .fieldLink RX11 89 "HedgeGameModel" "turn" "I"] ++ wsX110)
def wsX11_graft : List Cond := .code yX11_graft cX11_graft 4 (some .int) :: ([.fieldLink RX11 7 "HedgeGameModel" "kindOf" "[I", .methodLink RX11 120 yX11_isBranch, .instanceMethod yX11_isBranch, .selects RX11 yX11_isBranch yX11_isBranch, .initialized RX11, .code yX11_isBranch cX11_isBranch 2 (some .boolean), .fieldLink RX11 83 "HedgeGameModel" "branches" "I", .methodLink RX11 57 yX11_within, .static yX11_within, .code yX11_within cX11_within 3 (some .boolean)] ++ wsX110)
def wsX11_lastingFrom_r1 : List Cond := [Cond.fieldLink RX11 29 "HedgeGameModel" "winner" "[I", Cond.constant RX11 134 (1048576), Cond.fieldLink RX11 83 "HedgeGameModel" "branches" "I", Cond.fieldLink RX11 32 "HedgeGameModel" "lasting" "[I", Cond.methodLink RX11 111 yX11_mayCut, Cond.instanceMethod yX11_mayCut, Cond.selects RX11 yX11_mayCut yX11_mayCut, Cond.initialized RX11, Cond.code yX11_mayCut cX11_mayCut 4 (some .boolean), Cond.fieldLink RX11 7 "HedgeGameModel" "kindOf" "[I", Cond.methodLink RX11 101 yX11_isIn, Cond.static yX11_isIn, Cond.code yX11_isIn cX11_isIn 2 (some .boolean), Cond.methodLink RX11 105 yX11_isBare, Cond.instanceMethod yX11_isBare, Cond.selects RX11 yX11_isBare yX11_isBare, Cond.code yX11_isBare cX11_isBare 5 (some .boolean), Cond.fieldLink RX11 13 "HedgeGameModel" "onOf" "[I", Cond.methodLink RX11 128 yX11_leaves, Cond.instanceMethod yX11_leaves, Cond.selects RX11 yX11_leaves yX11_leaves, Cond.code yX11_leaves cX11_leaves 3 (some .int), Cond.methodLink RX11 108 yX11_above, Cond.instanceMethod yX11_above]
def wsX11_lastingFrom_r2 : List Cond := [Cond.selects RX11 yX11_above yX11_above, Cond.code yX11_above cX11_above 4 (some .int)]
def wsX11_lastingFrom : List Cond := .code yX11_lastingFrom cX11_lastingFrom 9 (some .int) :: ((wsX11_lastingFrom_r1 ++ wsX11_lastingFrom_r2) ++ wsX110)
def wsX11_layLasting_r1 : List Cond := [Cond.fieldLink RX11 86 "HedgeGameModel" "stand" "I", Cond.fieldLink RX11 32 "HedgeGameModel" "lasting" "[I", Cond.methodLink RX11 138 yX11_layWinners, Cond.instanceMethod yX11_layWinners, Cond.selects RX11 yX11_layWinners yX11_layWinners, Cond.initialized RX11, Cond.code yX11_layWinners cX11_layWinners 2 none, Cond.fieldLink RX11 29 "HedgeGameModel" "winner" "[I", Cond.methodLink RX11 135 yX11_winnerFrom, Cond.instanceMethod yX11_winnerFrom, Cond.selects RX11 yX11_winnerFrom yX11_winnerFrom, Cond.code yX11_winnerFrom cX11_winnerFrom 4 (some .int), Cond.fieldLink RX11 83 "HedgeGameModel" "branches" "I", Cond.methodLink RX11 111 yX11_mayCut, Cond.instanceMethod yX11_mayCut, Cond.selects RX11 yX11_mayCut yX11_mayCut, Cond.code yX11_mayCut cX11_mayCut 4 (some .boolean), Cond.fieldLink RX11 7 "HedgeGameModel" "kindOf" "[I", Cond.methodLink RX11 101 yX11_isIn, Cond.static yX11_isIn, Cond.code yX11_isIn cX11_isIn 2 (some .boolean), Cond.methodLink RX11 105 yX11_isBare, Cond.instanceMethod yX11_isBare, Cond.selects RX11 yX11_isBare yX11_isBare]
def wsX11_layLasting_r2 : List Cond := [Cond.code yX11_isBare cX11_isBare 5 (some .boolean), Cond.fieldLink RX11 13 "HedgeGameModel" "onOf" "[I", Cond.methodLink RX11 128 yX11_leaves, Cond.instanceMethod yX11_leaves, Cond.selects RX11 yX11_leaves yX11_leaves, Cond.code yX11_leaves cX11_leaves 3 (some .int), Cond.methodLink RX11 108 yX11_above, Cond.instanceMethod yX11_above, Cond.selects RX11 yX11_above yX11_above, Cond.code yX11_above cX11_above 4 (some .int), Cond.methodLink RX11 141 yX11_lastingFrom, Cond.instanceMethod yX11_lastingFrom, Cond.selects RX11 yX11_lastingFrom yX11_lastingFrom, Cond.code yX11_lastingFrom cX11_lastingFrom 9 (some .int), Cond.constant RX11 134 (1048576)]
def wsX11_layLasting : List Cond := .code yX11_layLasting cX11_layLasting 2 none :: ((wsX11_layLasting_r1 ++ wsX11_layLasting_r2) ++ wsX110)
def wsX11_bestNow_r1 : List Cond := [Cond.fieldLink RX11 83 "HedgeGameModel" "branches" "I", Cond.fieldLink RX11 86 "HedgeGameModel" "stand" "I", Cond.fieldLink RX11 29 "HedgeGameModel" "winner" "[I", Cond.fieldLink RX11 32 "HedgeGameModel" "lasting" "[I", Cond.methodLink RX11 144 yX11_layLasting, Cond.instanceMethod yX11_layLasting, Cond.selects RX11 yX11_layLasting yX11_layLasting, Cond.initialized RX11, Cond.code yX11_layLasting cX11_layLasting 2 none, Cond.methodLink RX11 138 yX11_layWinners, Cond.instanceMethod yX11_layWinners, Cond.selects RX11 yX11_layWinners yX11_layWinners, Cond.code yX11_layWinners cX11_layWinners 2 none, Cond.methodLink RX11 135 yX11_winnerFrom, Cond.instanceMethod yX11_winnerFrom, Cond.selects RX11 yX11_winnerFrom yX11_winnerFrom, Cond.code yX11_winnerFrom cX11_winnerFrom 4 (some .int), Cond.methodLink RX11 111 yX11_mayCut, Cond.instanceMethod yX11_mayCut, Cond.selects RX11 yX11_mayCut yX11_mayCut, Cond.code yX11_mayCut cX11_mayCut 4 (some .boolean), Cond.fieldLink RX11 7 "HedgeGameModel" "kindOf" "[I", Cond.methodLink RX11 101 yX11_isIn, Cond.static yX11_isIn]
def wsX11_bestNow_r2 : List Cond := [Cond.code yX11_isIn cX11_isIn 2 (some .boolean), Cond.methodLink RX11 105 yX11_isBare, Cond.instanceMethod yX11_isBare, Cond.selects RX11 yX11_isBare yX11_isBare, Cond.code yX11_isBare cX11_isBare 5 (some .boolean), Cond.fieldLink RX11 13 "HedgeGameModel" "onOf" "[I", Cond.methodLink RX11 128 yX11_leaves, Cond.instanceMethod yX11_leaves, Cond.selects RX11 yX11_leaves yX11_leaves, Cond.code yX11_leaves cX11_leaves 3 (some .int), Cond.methodLink RX11 108 yX11_above, Cond.instanceMethod yX11_above, Cond.selects RX11 yX11_above yX11_above, Cond.code yX11_above cX11_above 4 (some .int), Cond.methodLink RX11 141 yX11_lastingFrom, Cond.instanceMethod yX11_lastingFrom, Cond.selects RX11 yX11_lastingFrom yX11_lastingFrom, Cond.code yX11_lastingFrom cX11_lastingFrom 9 (some .int), Cond.constant RX11 134 (1048576)]
def wsX11_bestNow : List Cond := .code yX11_bestNow cX11_bestNow 6 (some .int) :: ((wsX11_bestNow_r1 ++ wsX11_bestNow_r2) ++ wsX110)
def wsX11_winsNow_r1 : List Cond := [Cond.fieldLink RX11 29 "HedgeGameModel" "winner" "[I", Cond.fieldLink RX11 86 "HedgeGameModel" "stand" "I", Cond.methodLink RX11 138 yX11_layWinners, Cond.instanceMethod yX11_layWinners, Cond.selects RX11 yX11_layWinners yX11_layWinners, Cond.initialized RX11, Cond.code yX11_layWinners cX11_layWinners 2 none, Cond.methodLink RX11 135 yX11_winnerFrom, Cond.instanceMethod yX11_winnerFrom, Cond.selects RX11 yX11_winnerFrom yX11_winnerFrom, Cond.code yX11_winnerFrom cX11_winnerFrom 4 (some .int), Cond.fieldLink RX11 83 "HedgeGameModel" "branches" "I", Cond.methodLink RX11 111 yX11_mayCut, Cond.instanceMethod yX11_mayCut, Cond.selects RX11 yX11_mayCut yX11_mayCut, Cond.code yX11_mayCut cX11_mayCut 4 (some .boolean), Cond.fieldLink RX11 7 "HedgeGameModel" "kindOf" "[I", Cond.methodLink RX11 101 yX11_isIn, Cond.static yX11_isIn, Cond.code yX11_isIn cX11_isIn 2 (some .boolean), Cond.methodLink RX11 105 yX11_isBare, Cond.instanceMethod yX11_isBare, Cond.selects RX11 yX11_isBare yX11_isBare, Cond.code yX11_isBare cX11_isBare 5 (some .boolean)]
def wsX11_winsNow_r2 : List Cond := [Cond.fieldLink RX11 13 "HedgeGameModel" "onOf" "[I", Cond.methodLink RX11 128 yX11_leaves, Cond.instanceMethod yX11_leaves, Cond.selects RX11 yX11_leaves yX11_leaves, Cond.code yX11_leaves cX11_leaves 3 (some .int), Cond.methodLink RX11 108 yX11_above, Cond.instanceMethod yX11_above, Cond.selects RX11 yX11_above yX11_above, Cond.code yX11_above cX11_above 4 (some .int)]
def wsX11_winsNow : List Cond := .code yX11_winsNow cX11_winsNow 2 (some .int) :: ((wsX11_winsNow_r1 ++ wsX11_winsNow_r2) ++ wsX110)
def wsX11_lastsNow_r1 : List Cond := [Cond.fieldLink RX11 32 "HedgeGameModel" "lasting" "[I", Cond.fieldLink RX11 86 "HedgeGameModel" "stand" "I", Cond.methodLink RX11 144 yX11_layLasting, Cond.instanceMethod yX11_layLasting, Cond.selects RX11 yX11_layLasting yX11_layLasting, Cond.initialized RX11, Cond.code yX11_layLasting cX11_layLasting 2 none, Cond.methodLink RX11 138 yX11_layWinners, Cond.instanceMethod yX11_layWinners, Cond.selects RX11 yX11_layWinners yX11_layWinners, Cond.code yX11_layWinners cX11_layWinners 2 none, Cond.fieldLink RX11 29 "HedgeGameModel" "winner" "[I", Cond.methodLink RX11 135 yX11_winnerFrom, Cond.instanceMethod yX11_winnerFrom, Cond.selects RX11 yX11_winnerFrom yX11_winnerFrom, Cond.code yX11_winnerFrom cX11_winnerFrom 4 (some .int), Cond.fieldLink RX11 83 "HedgeGameModel" "branches" "I", Cond.methodLink RX11 111 yX11_mayCut, Cond.instanceMethod yX11_mayCut, Cond.selects RX11 yX11_mayCut yX11_mayCut, Cond.code yX11_mayCut cX11_mayCut 4 (some .boolean), Cond.fieldLink RX11 7 "HedgeGameModel" "kindOf" "[I", Cond.methodLink RX11 101 yX11_isIn, Cond.static yX11_isIn]
def wsX11_lastsNow_r2 : List Cond := [Cond.code yX11_isIn cX11_isIn 2 (some .boolean), Cond.methodLink RX11 105 yX11_isBare, Cond.instanceMethod yX11_isBare, Cond.selects RX11 yX11_isBare yX11_isBare, Cond.code yX11_isBare cX11_isBare 5 (some .boolean), Cond.fieldLink RX11 13 "HedgeGameModel" "onOf" "[I", Cond.methodLink RX11 128 yX11_leaves, Cond.instanceMethod yX11_leaves, Cond.selects RX11 yX11_leaves yX11_leaves, Cond.code yX11_leaves cX11_leaves 3 (some .int), Cond.methodLink RX11 108 yX11_above, Cond.instanceMethod yX11_above, Cond.selects RX11 yX11_above yX11_above, Cond.code yX11_above cX11_above 4 (some .int), Cond.methodLink RX11 141 yX11_lastingFrom, Cond.instanceMethod yX11_lastingFrom, Cond.selects RX11 yX11_lastingFrom yX11_lastingFrom, Cond.code yX11_lastingFrom cX11_lastingFrom 9 (some .int), Cond.constant RX11 134 (1048576)]
def wsX11_lastsNow : List Cond := .code yX11_lastsNow cX11_lastsNow 2 (some .int) :: ((wsX11_lastsNow_r1 ++ wsX11_lastsNow_r2) ++ wsX110)
def wsX11_refused : List Cond := .code yX11_refused cX11_refused 2 (some .int) :: ([.fieldLink RX11 83 "HedgeGameModel" "branches" "I", .methodLink RX11 57 yX11_within, .static yX11_within, .initialized RX11, .code yX11_within cX11_within 3 (some .boolean)] ++ wsX110)
def wsX11_wins_r1 : List Cond := [Cond.methodLink RX11 147 yX11_refused, Cond.instanceMethod yX11_refused, Cond.selects RX11 yX11_refused yX11_refused, Cond.initialized RX11, Cond.code yX11_refused cX11_refused 2 (some .int), Cond.fieldLink RX11 83 "HedgeGameModel" "branches" "I", Cond.methodLink RX11 57 yX11_within, Cond.static yX11_within, Cond.code yX11_within cX11_within 3 (some .boolean), Cond.methodLink RX11 150 yX11_winsNow, Cond.instanceMethod yX11_winsNow, Cond.selects RX11 yX11_winsNow yX11_winsNow, Cond.code yX11_winsNow cX11_winsNow 2 (some .int), Cond.fieldLink RX11 29 "HedgeGameModel" "winner" "[I", Cond.fieldLink RX11 86 "HedgeGameModel" "stand" "I", Cond.methodLink RX11 138 yX11_layWinners, Cond.instanceMethod yX11_layWinners, Cond.selects RX11 yX11_layWinners yX11_layWinners, Cond.code yX11_layWinners cX11_layWinners 2 none, Cond.methodLink RX11 135 yX11_winnerFrom, Cond.instanceMethod yX11_winnerFrom, Cond.selects RX11 yX11_winnerFrom yX11_winnerFrom, Cond.code yX11_winnerFrom cX11_winnerFrom 4 (some .int), Cond.methodLink RX11 111 yX11_mayCut]
def wsX11_wins_r2 : List Cond := [Cond.instanceMethod yX11_mayCut, Cond.selects RX11 yX11_mayCut yX11_mayCut, Cond.code yX11_mayCut cX11_mayCut 4 (some .boolean), Cond.fieldLink RX11 7 "HedgeGameModel" "kindOf" "[I", Cond.methodLink RX11 101 yX11_isIn, Cond.static yX11_isIn, Cond.code yX11_isIn cX11_isIn 2 (some .boolean), Cond.methodLink RX11 105 yX11_isBare, Cond.instanceMethod yX11_isBare, Cond.selects RX11 yX11_isBare yX11_isBare, Cond.code yX11_isBare cX11_isBare 5 (some .boolean), Cond.fieldLink RX11 13 "HedgeGameModel" "onOf" "[I", Cond.methodLink RX11 128 yX11_leaves, Cond.instanceMethod yX11_leaves, Cond.selects RX11 yX11_leaves yX11_leaves, Cond.code yX11_leaves cX11_leaves 3 (some .int), Cond.methodLink RX11 108 yX11_above, Cond.instanceMethod yX11_above, Cond.selects RX11 yX11_above yX11_above, Cond.code yX11_above cX11_above 4 (some .int)]
def wsX11_wins : List Cond := .code yX11_wins cX11_wins 2 (some .int) :: ((wsX11_wins_r1 ++ wsX11_wins_r2) ++ wsX110)
def wsX11_best_r1 : List Cond := [Cond.methodLink RX11 147 yX11_refused, Cond.instanceMethod yX11_refused, Cond.selects RX11 yX11_refused yX11_refused, Cond.initialized RX11, Cond.code yX11_refused cX11_refused 2 (some .int), Cond.fieldLink RX11 83 "HedgeGameModel" "branches" "I", Cond.methodLink RX11 57 yX11_within, Cond.static yX11_within, Cond.code yX11_within cX11_within 3 (some .boolean), Cond.methodLink RX11 153 yX11_bestNow, Cond.instanceMethod yX11_bestNow, Cond.selects RX11 yX11_bestNow yX11_bestNow, Cond.code yX11_bestNow cX11_bestNow 6 (some .int), Cond.fieldLink RX11 86 "HedgeGameModel" "stand" "I", Cond.fieldLink RX11 29 "HedgeGameModel" "winner" "[I", Cond.fieldLink RX11 32 "HedgeGameModel" "lasting" "[I", Cond.methodLink RX11 144 yX11_layLasting, Cond.instanceMethod yX11_layLasting, Cond.selects RX11 yX11_layLasting yX11_layLasting, Cond.code yX11_layLasting cX11_layLasting 2 none, Cond.methodLink RX11 138 yX11_layWinners, Cond.instanceMethod yX11_layWinners, Cond.selects RX11 yX11_layWinners yX11_layWinners, Cond.code yX11_layWinners cX11_layWinners 2 none]
def wsX11_best_r2 : List Cond := [Cond.methodLink RX11 135 yX11_winnerFrom, Cond.instanceMethod yX11_winnerFrom, Cond.selects RX11 yX11_winnerFrom yX11_winnerFrom, Cond.code yX11_winnerFrom cX11_winnerFrom 4 (some .int), Cond.methodLink RX11 111 yX11_mayCut, Cond.instanceMethod yX11_mayCut, Cond.selects RX11 yX11_mayCut yX11_mayCut, Cond.code yX11_mayCut cX11_mayCut 4 (some .boolean), Cond.fieldLink RX11 7 "HedgeGameModel" "kindOf" "[I", Cond.methodLink RX11 101 yX11_isIn, Cond.static yX11_isIn, Cond.code yX11_isIn cX11_isIn 2 (some .boolean), Cond.methodLink RX11 105 yX11_isBare, Cond.instanceMethod yX11_isBare, Cond.selects RX11 yX11_isBare yX11_isBare, Cond.code yX11_isBare cX11_isBare 5 (some .boolean), Cond.fieldLink RX11 13 "HedgeGameModel" "onOf" "[I", Cond.methodLink RX11 128 yX11_leaves, Cond.instanceMethod yX11_leaves, Cond.selects RX11 yX11_leaves yX11_leaves, Cond.code yX11_leaves cX11_leaves 3 (some .int), Cond.methodLink RX11 108 yX11_above, Cond.instanceMethod yX11_above, Cond.selects RX11 yX11_above yX11_above]
def wsX11_best_r3 : List Cond := [Cond.code yX11_above cX11_above 4 (some .int), Cond.methodLink RX11 141 yX11_lastingFrom, Cond.instanceMethod yX11_lastingFrom, Cond.selects RX11 yX11_lastingFrom yX11_lastingFrom, Cond.code yX11_lastingFrom cX11_lastingFrom 9 (some .int), Cond.constant RX11 134 (1048576)]
def wsX11_best : List Cond := .code yX11_best cX11_best 2 (some .int) :: ((wsX11_best_r1 ++ (wsX11_best_r2 ++ wsX11_best_r3)) ++ wsX110)
def wsX11_lasts_r1 : List Cond := [Cond.methodLink RX11 147 yX11_refused, Cond.instanceMethod yX11_refused, Cond.selects RX11 yX11_refused yX11_refused, Cond.initialized RX11, Cond.code yX11_refused cX11_refused 2 (some .int), Cond.fieldLink RX11 83 "HedgeGameModel" "branches" "I", Cond.methodLink RX11 57 yX11_within, Cond.static yX11_within, Cond.code yX11_within cX11_within 3 (some .boolean), Cond.methodLink RX11 156 yX11_lastsNow, Cond.instanceMethod yX11_lastsNow, Cond.selects RX11 yX11_lastsNow yX11_lastsNow, Cond.code yX11_lastsNow cX11_lastsNow 2 (some .int), Cond.fieldLink RX11 32 "HedgeGameModel" "lasting" "[I", Cond.fieldLink RX11 86 "HedgeGameModel" "stand" "I", Cond.methodLink RX11 144 yX11_layLasting, Cond.instanceMethod yX11_layLasting, Cond.selects RX11 yX11_layLasting yX11_layLasting, Cond.code yX11_layLasting cX11_layLasting 2 none, Cond.methodLink RX11 138 yX11_layWinners, Cond.instanceMethod yX11_layWinners, Cond.selects RX11 yX11_layWinners yX11_layWinners, Cond.code yX11_layWinners cX11_layWinners 2 none, Cond.fieldLink RX11 29 "HedgeGameModel" "winner" "[I"]
def wsX11_lasts_r2 : List Cond := [Cond.methodLink RX11 135 yX11_winnerFrom, Cond.instanceMethod yX11_winnerFrom, Cond.selects RX11 yX11_winnerFrom yX11_winnerFrom, Cond.code yX11_winnerFrom cX11_winnerFrom 4 (some .int), Cond.methodLink RX11 111 yX11_mayCut, Cond.instanceMethod yX11_mayCut, Cond.selects RX11 yX11_mayCut yX11_mayCut, Cond.code yX11_mayCut cX11_mayCut 4 (some .boolean), Cond.fieldLink RX11 7 "HedgeGameModel" "kindOf" "[I", Cond.methodLink RX11 101 yX11_isIn, Cond.static yX11_isIn, Cond.code yX11_isIn cX11_isIn 2 (some .boolean), Cond.methodLink RX11 105 yX11_isBare, Cond.instanceMethod yX11_isBare, Cond.selects RX11 yX11_isBare yX11_isBare, Cond.code yX11_isBare cX11_isBare 5 (some .boolean), Cond.fieldLink RX11 13 "HedgeGameModel" "onOf" "[I", Cond.methodLink RX11 128 yX11_leaves, Cond.instanceMethod yX11_leaves, Cond.selects RX11 yX11_leaves yX11_leaves, Cond.code yX11_leaves cX11_leaves 3 (some .int), Cond.methodLink RX11 108 yX11_above, Cond.instanceMethod yX11_above, Cond.selects RX11 yX11_above yX11_above]
def wsX11_lasts_r3 : List Cond := [Cond.code yX11_above cX11_above 4 (some .int), Cond.methodLink RX11 141 yX11_lastingFrom, Cond.instanceMethod yX11_lastingFrom, Cond.selects RX11 yX11_lastingFrom yX11_lastingFrom, Cond.code yX11_lastingFrom cX11_lastingFrom 9 (some .int), Cond.constant RX11 134 (1048576)]
def wsX11_lasts : List Cond := .code yX11_lasts cX11_lasts 2 (some .int) :: ((wsX11_lasts_r1 ++ (wsX11_lasts_r2 ++ wsX11_lasts_r3)) ++ wsX110)
def wsX11_simplest : List Cond := .code yX11_simplest cX11_simplest 5 (some .int) :: ([])
def wsX11_worthFrom_r1 : List Cond := [Cond.constant RX11 159 (-1048576), Cond.constant RX11 134 (1048576), Cond.fieldLink RX11 83 "HedgeGameModel" "branches" "I", Cond.fieldLink RX11 35 "HedgeGameModel" "worthBy" "[I", Cond.methodLink RX11 128 yX11_leaves, Cond.instanceMethod yX11_leaves, Cond.selects RX11 yX11_leaves yX11_leaves, Cond.initialized RX11, Cond.code yX11_leaves cX11_leaves 3 (some .int), Cond.methodLink RX11 108 yX11_above, Cond.instanceMethod yX11_above, Cond.selects RX11 yX11_above yX11_above, Cond.code yX11_above cX11_above 4 (some .int), Cond.fieldLink RX11 13 "HedgeGameModel" "onOf" "[I", Cond.methodLink RX11 101 yX11_isIn, Cond.static yX11_isIn, Cond.code yX11_isIn cX11_isIn 2 (some .boolean), Cond.methodLink RX11 111 yX11_mayCut, Cond.instanceMethod yX11_mayCut, Cond.selects RX11 yX11_mayCut yX11_mayCut, Cond.code yX11_mayCut cX11_mayCut 4 (some .boolean), Cond.fieldLink RX11 7 "HedgeGameModel" "kindOf" "[I", Cond.methodLink RX11 105 yX11_isBare, Cond.instanceMethod yX11_isBare]
def wsX11_worthFrom_r2 : List Cond := [Cond.selects RX11 yX11_isBare yX11_isBare, Cond.code yX11_isBare cX11_isBare 5 (some .boolean), Cond.methodLink RX11 160 yX11_simplest, Cond.static yX11_simplest, Cond.code yX11_simplest cX11_simplest 5 (some .int)]
def wsX11_worthFrom : List Cond := .code yX11_worthFrom cX11_worthFrom 8 (some .int) :: ((wsX11_worthFrom_r1 ++ wsX11_worthFrom_r2) ++ wsX110)
def wsX11_layWorth_r1 : List Cond := [Cond.fieldLink RX11 86 "HedgeGameModel" "stand" "I", Cond.fieldLink RX11 35 "HedgeGameModel" "worthBy" "[I", Cond.methodLink RX11 163 yX11_worthFrom, Cond.instanceMethod yX11_worthFrom, Cond.selects RX11 yX11_worthFrom yX11_worthFrom, Cond.initialized RX11, Cond.code yX11_worthFrom cX11_worthFrom 8 (some .int), Cond.constant RX11 159 (-1048576), Cond.constant RX11 134 (1048576), Cond.fieldLink RX11 83 "HedgeGameModel" "branches" "I", Cond.methodLink RX11 128 yX11_leaves, Cond.instanceMethod yX11_leaves, Cond.selects RX11 yX11_leaves yX11_leaves, Cond.code yX11_leaves cX11_leaves 3 (some .int), Cond.methodLink RX11 108 yX11_above, Cond.instanceMethod yX11_above, Cond.selects RX11 yX11_above yX11_above, Cond.code yX11_above cX11_above 4 (some .int), Cond.fieldLink RX11 13 "HedgeGameModel" "onOf" "[I", Cond.methodLink RX11 101 yX11_isIn, Cond.static yX11_isIn, Cond.code yX11_isIn cX11_isIn 2 (some .boolean), Cond.methodLink RX11 111 yX11_mayCut, Cond.instanceMethod yX11_mayCut]
def wsX11_layWorth_r2 : List Cond := [Cond.selects RX11 yX11_mayCut yX11_mayCut, Cond.code yX11_mayCut cX11_mayCut 4 (some .boolean), Cond.fieldLink RX11 7 "HedgeGameModel" "kindOf" "[I", Cond.methodLink RX11 105 yX11_isBare, Cond.instanceMethod yX11_isBare, Cond.selects RX11 yX11_isBare yX11_isBare, Cond.code yX11_isBare cX11_isBare 5 (some .boolean), Cond.methodLink RX11 160 yX11_simplest, Cond.static yX11_simplest, Cond.code yX11_simplest cX11_simplest 5 (some .int)]
def wsX11_layWorth : List Cond := .code yX11_layWorth cX11_layWorth 2 none :: ((wsX11_layWorth_r1 ++ wsX11_layWorth_r2) ++ wsX110)
def wsX11_worth_r1 : List Cond := [Cond.fieldLink RX11 83 "HedgeGameModel" "branches" "I", Cond.fieldLink RX11 35 "HedgeGameModel" "worthBy" "[I", Cond.fieldLink RX11 86 "HedgeGameModel" "stand" "I", Cond.methodLink RX11 166 yX11_layWorth, Cond.instanceMethod yX11_layWorth, Cond.selects RX11 yX11_layWorth yX11_layWorth, Cond.initialized RX11, Cond.code yX11_layWorth cX11_layWorth 2 none, Cond.methodLink RX11 163 yX11_worthFrom, Cond.instanceMethod yX11_worthFrom, Cond.selects RX11 yX11_worthFrom yX11_worthFrom, Cond.code yX11_worthFrom cX11_worthFrom 8 (some .int), Cond.constant RX11 159 (-1048576), Cond.constant RX11 134 (1048576), Cond.methodLink RX11 128 yX11_leaves, Cond.instanceMethod yX11_leaves, Cond.selects RX11 yX11_leaves yX11_leaves, Cond.code yX11_leaves cX11_leaves 3 (some .int), Cond.methodLink RX11 108 yX11_above, Cond.instanceMethod yX11_above, Cond.selects RX11 yX11_above yX11_above, Cond.code yX11_above cX11_above 4 (some .int), Cond.fieldLink RX11 13 "HedgeGameModel" "onOf" "[I", Cond.methodLink RX11 101 yX11_isIn]
def wsX11_worth_r2 : List Cond := [Cond.static yX11_isIn, Cond.code yX11_isIn cX11_isIn 2 (some .boolean), Cond.methodLink RX11 111 yX11_mayCut, Cond.instanceMethod yX11_mayCut, Cond.selects RX11 yX11_mayCut yX11_mayCut, Cond.code yX11_mayCut cX11_mayCut 4 (some .boolean), Cond.fieldLink RX11 7 "HedgeGameModel" "kindOf" "[I", Cond.methodLink RX11 105 yX11_isBare, Cond.instanceMethod yX11_isBare, Cond.selects RX11 yX11_isBare yX11_isBare, Cond.code yX11_isBare cX11_isBare 5 (some .boolean), Cond.methodLink RX11 160 yX11_simplest, Cond.static yX11_simplest, Cond.code yX11_simplest cX11_simplest 5 (some .int)]
def wsX11_worth : List Cond := .code yX11_worth cX11_worth 1 (some .int) :: ((wsX11_worth_r1 ++ wsX11_worth_r2) ++ wsX110)
def wsX11_treeNow_r1 : List Cond := [Cond.fieldLink RX11 35 "HedgeGameModel" "worthBy" "[I", Cond.fieldLink RX11 86 "HedgeGameModel" "stand" "I", Cond.methodLink RX11 166 yX11_layWorth, Cond.instanceMethod yX11_layWorth, Cond.selects RX11 yX11_layWorth yX11_layWorth, Cond.initialized RX11, Cond.code yX11_layWorth cX11_layWorth 2 none, Cond.methodLink RX11 163 yX11_worthFrom, Cond.instanceMethod yX11_worthFrom, Cond.selects RX11 yX11_worthFrom yX11_worthFrom, Cond.code yX11_worthFrom cX11_worthFrom 8 (some .int), Cond.constant RX11 159 (-1048576), Cond.constant RX11 134 (1048576), Cond.fieldLink RX11 83 "HedgeGameModel" "branches" "I", Cond.methodLink RX11 128 yX11_leaves, Cond.instanceMethod yX11_leaves, Cond.selects RX11 yX11_leaves yX11_leaves, Cond.code yX11_leaves cX11_leaves 3 (some .int), Cond.methodLink RX11 108 yX11_above, Cond.instanceMethod yX11_above, Cond.selects RX11 yX11_above yX11_above, Cond.code yX11_above cX11_above 4 (some .int), Cond.fieldLink RX11 13 "HedgeGameModel" "onOf" "[I", Cond.methodLink RX11 101 yX11_isIn]
def wsX11_treeNow_r2 : List Cond := [Cond.static yX11_isIn, Cond.code yX11_isIn cX11_isIn 2 (some .boolean), Cond.methodLink RX11 111 yX11_mayCut, Cond.instanceMethod yX11_mayCut, Cond.selects RX11 yX11_mayCut yX11_mayCut, Cond.code yX11_mayCut cX11_mayCut 4 (some .boolean), Cond.fieldLink RX11 7 "HedgeGameModel" "kindOf" "[I", Cond.methodLink RX11 105 yX11_isBare, Cond.instanceMethod yX11_isBare, Cond.selects RX11 yX11_isBare yX11_isBare, Cond.code yX11_isBare cX11_isBare 5 (some .boolean), Cond.methodLink RX11 160 yX11_simplest, Cond.static yX11_simplest, Cond.code yX11_simplest cX11_simplest 5 (some .int)]
def wsX11_treeNow : List Cond := .code yX11_treeNow cX11_treeNow 2 (some .int) :: ((wsX11_treeNow_r1 ++ wsX11_treeNow_r2) ++ wsX110)
def wsX11_tree_r1 : List Cond := [Cond.fieldLink RX11 13 "HedgeGameModel" "onOf" "[I", Cond.methodLink RX11 120 yX11_isBranch, Cond.instanceMethod yX11_isBranch, Cond.selects RX11 yX11_isBranch yX11_isBranch, Cond.initialized RX11, Cond.code yX11_isBranch cX11_isBranch 2 (some .boolean), Cond.fieldLink RX11 83 "HedgeGameModel" "branches" "I", Cond.methodLink RX11 57 yX11_within, Cond.static yX11_within, Cond.code yX11_within cX11_within 3 (some .boolean), Cond.methodLink RX11 169 yX11_treeNow, Cond.instanceMethod yX11_treeNow, Cond.selects RX11 yX11_treeNow yX11_treeNow, Cond.code yX11_treeNow cX11_treeNow 2 (some .int), Cond.fieldLink RX11 35 "HedgeGameModel" "worthBy" "[I", Cond.fieldLink RX11 86 "HedgeGameModel" "stand" "I", Cond.methodLink RX11 166 yX11_layWorth, Cond.instanceMethod yX11_layWorth, Cond.selects RX11 yX11_layWorth yX11_layWorth, Cond.code yX11_layWorth cX11_layWorth 2 none, Cond.methodLink RX11 163 yX11_worthFrom, Cond.instanceMethod yX11_worthFrom, Cond.selects RX11 yX11_worthFrom yX11_worthFrom, Cond.code yX11_worthFrom cX11_worthFrom 8 (some .int)]
def wsX11_tree_r2 : List Cond := [Cond.constant RX11 159 (-1048576), Cond.constant RX11 134 (1048576), Cond.methodLink RX11 128 yX11_leaves, Cond.instanceMethod yX11_leaves, Cond.selects RX11 yX11_leaves yX11_leaves, Cond.code yX11_leaves cX11_leaves 3 (some .int), Cond.methodLink RX11 108 yX11_above, Cond.instanceMethod yX11_above, Cond.selects RX11 yX11_above yX11_above, Cond.code yX11_above cX11_above 4 (some .int), Cond.methodLink RX11 101 yX11_isIn, Cond.static yX11_isIn, Cond.code yX11_isIn cX11_isIn 2 (some .boolean), Cond.methodLink RX11 111 yX11_mayCut, Cond.instanceMethod yX11_mayCut, Cond.selects RX11 yX11_mayCut yX11_mayCut, Cond.code yX11_mayCut cX11_mayCut 4 (some .boolean), Cond.fieldLink RX11 7 "HedgeGameModel" "kindOf" "[I", Cond.methodLink RX11 105 yX11_isBare, Cond.instanceMethod yX11_isBare, Cond.selects RX11 yX11_isBare yX11_isBare, Cond.code yX11_isBare cX11_isBare 5 (some .boolean), Cond.methodLink RX11 160 yX11_simplest, Cond.static yX11_simplest]
def wsX11_tree_r3 : List Cond := [Cond.code yX11_simplest cX11_simplest 5 (some .int)]
def wsX11_tree : List Cond := .code yX11_tree cX11_tree 2 (some .int) :: ((wsX11_tree_r1 ++ (wsX11_tree_r2 ++ wsX11_tree_r3)) ++ wsX110)
def wsX11_isEven_r1 : List Cond := [Cond.fieldLink RX11 29 "HedgeGameModel" "winner" "[I", Cond.fieldLink RX11 86 "HedgeGameModel" "stand" "I", Cond.methodLink RX11 138 yX11_layWinners, Cond.instanceMethod yX11_layWinners, Cond.selects RX11 yX11_layWinners yX11_layWinners, Cond.initialized RX11, Cond.code yX11_layWinners cX11_layWinners 2 none, Cond.methodLink RX11 135 yX11_winnerFrom, Cond.instanceMethod yX11_winnerFrom, Cond.selects RX11 yX11_winnerFrom yX11_winnerFrom, Cond.code yX11_winnerFrom cX11_winnerFrom 4 (some .int), Cond.fieldLink RX11 83 "HedgeGameModel" "branches" "I", Cond.methodLink RX11 111 yX11_mayCut, Cond.instanceMethod yX11_mayCut, Cond.selects RX11 yX11_mayCut yX11_mayCut, Cond.code yX11_mayCut cX11_mayCut 4 (some .boolean), Cond.fieldLink RX11 7 "HedgeGameModel" "kindOf" "[I", Cond.methodLink RX11 101 yX11_isIn, Cond.static yX11_isIn, Cond.code yX11_isIn cX11_isIn 2 (some .boolean), Cond.methodLink RX11 105 yX11_isBare, Cond.instanceMethod yX11_isBare, Cond.selects RX11 yX11_isBare yX11_isBare, Cond.code yX11_isBare cX11_isBare 5 (some .boolean)]
def wsX11_isEven_r2 : List Cond := [Cond.fieldLink RX11 13 "HedgeGameModel" "onOf" "[I", Cond.methodLink RX11 128 yX11_leaves, Cond.instanceMethod yX11_leaves, Cond.selects RX11 yX11_leaves yX11_leaves, Cond.code yX11_leaves cX11_leaves 3 (some .int), Cond.methodLink RX11 108 yX11_above, Cond.instanceMethod yX11_above, Cond.selects RX11 yX11_above yX11_above, Cond.code yX11_above cX11_above 4 (some .int)]
def wsX11_isEven : List Cond := .code yX11_isEven cX11_isEven 1 (some .boolean) :: ((wsX11_isEven_r1 ++ wsX11_isEven_r2) ++ wsX110)
def wsX11_evenNow_r1 : List Cond := [Cond.fieldLink RX11 83 "HedgeGameModel" "branches" "I", Cond.fieldLink RX11 7 "HedgeGameModel" "kindOf" "[I", Cond.methodLink RX11 172 yX11_isEven, Cond.instanceMethod yX11_isEven, Cond.selects RX11 yX11_isEven yX11_isEven, Cond.initialized RX11, Cond.code yX11_isEven cX11_isEven 1 (some .boolean), Cond.fieldLink RX11 29 "HedgeGameModel" "winner" "[I", Cond.fieldLink RX11 86 "HedgeGameModel" "stand" "I", Cond.methodLink RX11 138 yX11_layWinners, Cond.instanceMethod yX11_layWinners, Cond.selects RX11 yX11_layWinners yX11_layWinners, Cond.code yX11_layWinners cX11_layWinners 2 none, Cond.methodLink RX11 135 yX11_winnerFrom, Cond.instanceMethod yX11_winnerFrom, Cond.selects RX11 yX11_winnerFrom yX11_winnerFrom, Cond.code yX11_winnerFrom cX11_winnerFrom 4 (some .int), Cond.methodLink RX11 111 yX11_mayCut, Cond.instanceMethod yX11_mayCut, Cond.selects RX11 yX11_mayCut yX11_mayCut, Cond.code yX11_mayCut cX11_mayCut 4 (some .boolean), Cond.methodLink RX11 101 yX11_isIn, Cond.static yX11_isIn, Cond.code yX11_isIn cX11_isIn 2 (some .boolean)]
def wsX11_evenNow_r2 : List Cond := [Cond.methodLink RX11 105 yX11_isBare, Cond.instanceMethod yX11_isBare, Cond.selects RX11 yX11_isBare yX11_isBare, Cond.code yX11_isBare cX11_isBare 5 (some .boolean), Cond.fieldLink RX11 13 "HedgeGameModel" "onOf" "[I", Cond.methodLink RX11 128 yX11_leaves, Cond.instanceMethod yX11_leaves, Cond.selects RX11 yX11_leaves yX11_leaves, Cond.code yX11_leaves cX11_leaves 3 (some .int), Cond.methodLink RX11 108 yX11_above, Cond.instanceMethod yX11_above, Cond.selects RX11 yX11_above yX11_above, Cond.code yX11_above cX11_above 4 (some .int)]
def wsX11_evenNow : List Cond := .code yX11_evenNow cX11_evenNow 5 (some .int) :: ((wsX11_evenNow_r1 ++ wsX11_evenNow_r2) ++ wsX110)
def wsX11_even_r1 : List Cond := [Cond.fieldLink RX11 83 "HedgeGameModel" "branches" "I", Cond.fieldLink RX11 176 "HedgeGameModel" "asks" "I", Cond.methodLink RX11 179 yX11_evenNow, Cond.instanceMethod yX11_evenNow, Cond.selects RX11 yX11_evenNow yX11_evenNow, Cond.initialized RX11, Cond.code yX11_evenNow cX11_evenNow 5 (some .int), Cond.fieldLink RX11 7 "HedgeGameModel" "kindOf" "[I", Cond.methodLink RX11 172 yX11_isEven, Cond.instanceMethod yX11_isEven, Cond.selects RX11 yX11_isEven yX11_isEven, Cond.code yX11_isEven cX11_isEven 1 (some .boolean), Cond.fieldLink RX11 29 "HedgeGameModel" "winner" "[I", Cond.fieldLink RX11 86 "HedgeGameModel" "stand" "I", Cond.methodLink RX11 138 yX11_layWinners, Cond.instanceMethod yX11_layWinners, Cond.selects RX11 yX11_layWinners yX11_layWinners, Cond.code yX11_layWinners cX11_layWinners 2 none, Cond.methodLink RX11 135 yX11_winnerFrom, Cond.instanceMethod yX11_winnerFrom, Cond.selects RX11 yX11_winnerFrom yX11_winnerFrom, Cond.code yX11_winnerFrom cX11_winnerFrom 4 (some .int), Cond.methodLink RX11 111 yX11_mayCut, Cond.instanceMethod yX11_mayCut]
def wsX11_even_r2 : List Cond := [Cond.selects RX11 yX11_mayCut yX11_mayCut, Cond.code yX11_mayCut cX11_mayCut 4 (some .boolean), Cond.methodLink RX11 101 yX11_isIn, Cond.static yX11_isIn, Cond.code yX11_isIn cX11_isIn 2 (some .boolean), Cond.methodLink RX11 105 yX11_isBare, Cond.instanceMethod yX11_isBare, Cond.selects RX11 yX11_isBare yX11_isBare, Cond.code yX11_isBare cX11_isBare 5 (some .boolean), Cond.fieldLink RX11 13 "HedgeGameModel" "onOf" "[I", Cond.methodLink RX11 128 yX11_leaves, Cond.instanceMethod yX11_leaves, Cond.selects RX11 yX11_leaves yX11_leaves, Cond.code yX11_leaves cX11_leaves 3 (some .int), Cond.methodLink RX11 108 yX11_above, Cond.instanceMethod yX11_above, Cond.selects RX11 yX11_above yX11_above, Cond.code yX11_above cX11_above 4 (some .int)]
def wsX11_even : List Cond := .code yX11_even cX11_even 1 (some .int) :: ((wsX11_even_r1 ++ wsX11_even_r2) ++ wsX110)
def wsX11_partsFrom_r1 : List Cond := [Cond.fieldLink RX11 83 "HedgeGameModel" "branches" "I", Cond.fieldLink RX11 38 "HedgeGameModel" "partsBy" "[J", Cond.constantLong RX11 182 (182891520000), Cond.methodLink RX11 111 yX11_mayCut, Cond.instanceMethod yX11_mayCut, Cond.selects RX11 yX11_mayCut yX11_mayCut, Cond.initialized RX11, Cond.code yX11_mayCut cX11_mayCut 4 (some .boolean), Cond.fieldLink RX11 7 "HedgeGameModel" "kindOf" "[I", Cond.methodLink RX11 101 yX11_isIn, Cond.static yX11_isIn, Cond.code yX11_isIn cX11_isIn 2 (some .boolean), Cond.methodLink RX11 105 yX11_isBare, Cond.instanceMethod yX11_isBare, Cond.selects RX11 yX11_isBare yX11_isBare, Cond.code yX11_isBare cX11_isBare 5 (some .boolean), Cond.fieldLink RX11 13 "HedgeGameModel" "onOf" "[I", Cond.methodLink RX11 128 yX11_leaves, Cond.instanceMethod yX11_leaves, Cond.selects RX11 yX11_leaves yX11_leaves, Cond.code yX11_leaves cX11_leaves 3 (some .int), Cond.methodLink RX11 108 yX11_above, Cond.instanceMethod yX11_above, Cond.selects RX11 yX11_above yX11_above]
def wsX11_partsFrom_r2 : List Cond := [Cond.code yX11_above cX11_above 4 (some .int)]
def wsX11_partsFrom : List Cond := .code yX11_partsFrom cX11_partsFrom 7 (some .long) :: ((wsX11_partsFrom_r1 ++ wsX11_partsFrom_r2) ++ wsX110)
def wsX11_likelyNow_r1 : List Cond := [Cond.fieldLink RX11 86 "HedgeGameModel" "stand" "I", Cond.fieldLink RX11 38 "HedgeGameModel" "partsBy" "[J", Cond.constantLong RX11 188 (1000000), Cond.constantLong RX11 182 (182891520000), Cond.methodLink RX11 184 yX11_partsFrom, Cond.instanceMethod yX11_partsFrom, Cond.selects RX11 yX11_partsFrom yX11_partsFrom, Cond.initialized RX11, Cond.code yX11_partsFrom cX11_partsFrom 7 (some .long), Cond.fieldLink RX11 83 "HedgeGameModel" "branches" "I", Cond.methodLink RX11 111 yX11_mayCut, Cond.instanceMethod yX11_mayCut, Cond.selects RX11 yX11_mayCut yX11_mayCut, Cond.code yX11_mayCut cX11_mayCut 4 (some .boolean), Cond.fieldLink RX11 7 "HedgeGameModel" "kindOf" "[I", Cond.methodLink RX11 101 yX11_isIn, Cond.static yX11_isIn, Cond.code yX11_isIn cX11_isIn 2 (some .boolean), Cond.methodLink RX11 105 yX11_isBare, Cond.instanceMethod yX11_isBare, Cond.selects RX11 yX11_isBare yX11_isBare, Cond.code yX11_isBare cX11_isBare 5 (some .boolean), Cond.fieldLink RX11 13 "HedgeGameModel" "onOf" "[I", Cond.methodLink RX11 128 yX11_leaves]
def wsX11_likelyNow_r2 : List Cond := [Cond.instanceMethod yX11_leaves, Cond.selects RX11 yX11_leaves yX11_leaves, Cond.code yX11_leaves cX11_leaves 3 (some .int), Cond.methodLink RX11 108 yX11_above, Cond.instanceMethod yX11_above, Cond.selects RX11 yX11_above yX11_above, Cond.code yX11_above cX11_above 4 (some .int)]
def wsX11_likelyNow : List Cond := .code yX11_likelyNow cX11_likelyNow 3 (some .int) :: ((wsX11_likelyNow_r1 ++ wsX11_likelyNow_r2) ++ wsX110)
def wsX11_likely_r1 : List Cond := [Cond.methodLink RX11 147 yX11_refused, Cond.instanceMethod yX11_refused, Cond.selects RX11 yX11_refused yX11_refused, Cond.initialized RX11, Cond.code yX11_refused cX11_refused 2 (some .int), Cond.fieldLink RX11 83 "HedgeGameModel" "branches" "I", Cond.methodLink RX11 57 yX11_within, Cond.static yX11_within, Cond.code yX11_within cX11_within 3 (some .boolean), Cond.methodLink RX11 190 yX11_likelyNow, Cond.instanceMethod yX11_likelyNow, Cond.selects RX11 yX11_likelyNow yX11_likelyNow, Cond.code yX11_likelyNow cX11_likelyNow 3 (some .int), Cond.fieldLink RX11 86 "HedgeGameModel" "stand" "I", Cond.fieldLink RX11 38 "HedgeGameModel" "partsBy" "[J", Cond.constantLong RX11 188 (1000000), Cond.constantLong RX11 182 (182891520000), Cond.methodLink RX11 184 yX11_partsFrom, Cond.instanceMethod yX11_partsFrom, Cond.selects RX11 yX11_partsFrom yX11_partsFrom, Cond.code yX11_partsFrom cX11_partsFrom 7 (some .long), Cond.methodLink RX11 111 yX11_mayCut, Cond.instanceMethod yX11_mayCut, Cond.selects RX11 yX11_mayCut yX11_mayCut]
def wsX11_likely_r2 : List Cond := [Cond.code yX11_mayCut cX11_mayCut 4 (some .boolean), Cond.fieldLink RX11 7 "HedgeGameModel" "kindOf" "[I", Cond.methodLink RX11 101 yX11_isIn, Cond.static yX11_isIn, Cond.code yX11_isIn cX11_isIn 2 (some .boolean), Cond.methodLink RX11 105 yX11_isBare, Cond.instanceMethod yX11_isBare, Cond.selects RX11 yX11_isBare yX11_isBare, Cond.code yX11_isBare cX11_isBare 5 (some .boolean), Cond.fieldLink RX11 13 "HedgeGameModel" "onOf" "[I", Cond.methodLink RX11 128 yX11_leaves, Cond.instanceMethod yX11_leaves, Cond.selects RX11 yX11_leaves yX11_leaves, Cond.code yX11_leaves cX11_leaves 3 (some .int), Cond.methodLink RX11 108 yX11_above, Cond.instanceMethod yX11_above, Cond.selects RX11 yX11_above yX11_above, Cond.code yX11_above cX11_above 4 (some .int)]
def wsX11_likely : List Cond := .code yX11_likely cX11_likely 2 (some .int) :: ((wsX11_likely_r1 ++ wsX11_likely_r2) ++ wsX110)
def wsX11_see : List Cond := .code yX11_see cX11_see 4 (some .int) :: ([.fieldLink RX11 98 "HedgeGameModel" "seen" "I", .fieldLink RX11 16 "HedgeGameModel" "seenBranch" "[I", .fieldLink RX11 19 "HedgeGameModel" "seenBegins" "[I", .fieldLink RX11 22 "HedgeGameModel" "seenWins" "[I", .methodLink RX11 120 yX11_isBranch, .instanceMethod yX11_isBranch, .selects RX11 yX11_isBranch yX11_isBranch, .initialized RX11, .code yX11_isBranch cX11_isBranch 2 (some .boolean), .fieldLink RX11 83 "HedgeGameModel" "branches" "I", .methodLink RX11 57 yX11_within, .static yX11_within, .code yX11_within cX11_within 3 (some .boolean)] ++ wsX110)
def wsX11_forget : List Cond := .code yX11_forget cX11_forget 2 (some .int) :: ([.fieldLink RX11 98 "HedgeGameModel" "seen" "I"] ++ wsX110)
def wsX11_draw : List Cond := .code yX11_draw cX11_draw 2 (some .int) :: ([.constantLong RX11 200 (1103515245), .fieldLink RX11 202 "HedgeGameModel" "seedNow" "J", .constantLong RX11 206 (12345), .constantLong RX11 208 (2147483647), .constantLong RX11 210 (65536)] ++ wsX110)
def wsX11_ofSet : List Cond := .code yX11_ofSet cX11_ofSet 4 (some .int) :: ([.methodLink RX11 101 yX11_isIn, .static yX11_isIn, .initialized RX11, .code yX11_isIn cX11_isIn 2 (some .boolean)])
def wsX11_play_r1 : List Cond := [Cond.fieldLink RX11 86 "HedgeGameModel" "stand" "I", Cond.fieldLink RX11 221 "HedgeGameModel" "gameCuts" "I", Cond.methodLink RX11 212 yX11_mayCuts, Cond.instanceMethod yX11_mayCuts, Cond.selects RX11 yX11_mayCuts yX11_mayCuts, Cond.initialized RX11, Cond.code yX11_mayCuts cX11_mayCuts 5 (some .int), Cond.fieldLink RX11 83 "HedgeGameModel" "branches" "I", Cond.methodLink RX11 111 yX11_mayCut, Cond.instanceMethod yX11_mayCut, Cond.selects RX11 yX11_mayCut yX11_mayCut, Cond.code yX11_mayCut cX11_mayCut 4 (some .boolean), Cond.fieldLink RX11 7 "HedgeGameModel" "kindOf" "[I", Cond.methodLink RX11 101 yX11_isIn, Cond.static yX11_isIn, Cond.code yX11_isIn cX11_isIn 2 (some .boolean), Cond.methodLink RX11 105 yX11_isBare, Cond.instanceMethod yX11_isBare, Cond.selects RX11 yX11_isBare yX11_isBare, Cond.code yX11_isBare cX11_isBare 5 (some .boolean), Cond.fieldLink RX11 13 "HedgeGameModel" "onOf" "[I", Cond.methodLink RX11 131 yX11_size, Cond.static yX11_size, Cond.code yX11_size cX11_size 3 (some .int)]
def wsX11_play_r2 : List Cond := [Cond.methodLink RX11 215 yX11_draw, Cond.instanceMethod yX11_draw, Cond.selects RX11 yX11_draw yX11_draw, Cond.code yX11_draw cX11_draw 2 (some .int), Cond.constantLong RX11 200 (1103515245), Cond.fieldLink RX11 202 "HedgeGameModel" "seedNow" "J", Cond.constantLong RX11 206 (12345), Cond.constantLong RX11 208 (2147483647), Cond.constantLong RX11 210 (65536), Cond.methodLink RX11 218 yX11_ofSet, Cond.static yX11_ofSet, Cond.code yX11_ofSet cX11_ofSet 4 (some .int), Cond.methodLink RX11 128 yX11_leaves, Cond.instanceMethod yX11_leaves, Cond.selects RX11 yX11_leaves yX11_leaves, Cond.code yX11_leaves cX11_leaves 3 (some .int), Cond.methodLink RX11 108 yX11_above, Cond.instanceMethod yX11_above, Cond.selects RX11 yX11_above yX11_above, Cond.code yX11_above cX11_above 4 (some .int)]
def wsX11_play : List Cond := .code yX11_play cX11_play 5 (some .int) :: ((wsX11_play_r1 ++ wsX11_play_r2) ++ wsX110)
def wsX11_gamesNow_r1 : List Cond := [Cond.fieldLink RX11 202 "HedgeGameModel" "seedNow" "J", Cond.fieldLink RX11 221 "HedgeGameModel" "gameCuts" "I", Cond.methodLink RX11 224 yX11_play, Cond.instanceMethod yX11_play, Cond.selects RX11 yX11_play yX11_play, Cond.initialized RX11, Cond.code yX11_play cX11_play 5 (some .int), Cond.fieldLink RX11 86 "HedgeGameModel" "stand" "I", Cond.methodLink RX11 212 yX11_mayCuts, Cond.instanceMethod yX11_mayCuts, Cond.selects RX11 yX11_mayCuts yX11_mayCuts, Cond.code yX11_mayCuts cX11_mayCuts 5 (some .int), Cond.fieldLink RX11 83 "HedgeGameModel" "branches" "I", Cond.methodLink RX11 111 yX11_mayCut, Cond.instanceMethod yX11_mayCut, Cond.selects RX11 yX11_mayCut yX11_mayCut, Cond.code yX11_mayCut cX11_mayCut 4 (some .boolean), Cond.fieldLink RX11 7 "HedgeGameModel" "kindOf" "[I", Cond.methodLink RX11 101 yX11_isIn, Cond.static yX11_isIn, Cond.code yX11_isIn cX11_isIn 2 (some .boolean), Cond.methodLink RX11 105 yX11_isBare, Cond.instanceMethod yX11_isBare, Cond.selects RX11 yX11_isBare yX11_isBare]
def wsX11_gamesNow_r2 : List Cond := [Cond.code yX11_isBare cX11_isBare 5 (some .boolean), Cond.fieldLink RX11 13 "HedgeGameModel" "onOf" "[I", Cond.methodLink RX11 131 yX11_size, Cond.static yX11_size, Cond.code yX11_size cX11_size 3 (some .int), Cond.methodLink RX11 215 yX11_draw, Cond.instanceMethod yX11_draw, Cond.selects RX11 yX11_draw yX11_draw, Cond.code yX11_draw cX11_draw 2 (some .int), Cond.constantLong RX11 200 (1103515245), Cond.constantLong RX11 206 (12345), Cond.constantLong RX11 208 (2147483647), Cond.constantLong RX11 210 (65536), Cond.methodLink RX11 218 yX11_ofSet, Cond.static yX11_ofSet, Cond.code yX11_ofSet cX11_ofSet 4 (some .int), Cond.methodLink RX11 128 yX11_leaves, Cond.instanceMethod yX11_leaves, Cond.selects RX11 yX11_leaves yX11_leaves, Cond.code yX11_leaves cX11_leaves 3 (some .int), Cond.methodLink RX11 108 yX11_above, Cond.instanceMethod yX11_above, Cond.selects RX11 yX11_above yX11_above, Cond.code yX11_above cX11_above 4 (some .int)]
def wsX11_gamesNow : List Cond := .code yX11_gamesNow cX11_gamesNow 6 (some .int) :: ((wsX11_gamesNow_r1 ++ wsX11_gamesNow_r2) ++ wsX110)
def wsX11_games_r1 : List Cond := [Cond.fieldLink RX11 83 "HedgeGameModel" "branches" "I", Cond.methodLink RX11 57 yX11_within, Cond.static yX11_within, Cond.initialized RX11, Cond.code yX11_within cX11_within 3 (some .boolean), Cond.methodLink RX11 227 yX11_gamesNow, Cond.instanceMethod yX11_gamesNow, Cond.selects RX11 yX11_gamesNow yX11_gamesNow, Cond.code yX11_gamesNow cX11_gamesNow 6 (some .int), Cond.fieldLink RX11 202 "HedgeGameModel" "seedNow" "J", Cond.fieldLink RX11 221 "HedgeGameModel" "gameCuts" "I", Cond.methodLink RX11 224 yX11_play, Cond.instanceMethod yX11_play, Cond.selects RX11 yX11_play yX11_play, Cond.code yX11_play cX11_play 5 (some .int), Cond.fieldLink RX11 86 "HedgeGameModel" "stand" "I", Cond.methodLink RX11 212 yX11_mayCuts, Cond.instanceMethod yX11_mayCuts, Cond.selects RX11 yX11_mayCuts yX11_mayCuts, Cond.code yX11_mayCuts cX11_mayCuts 5 (some .int), Cond.methodLink RX11 111 yX11_mayCut, Cond.instanceMethod yX11_mayCut, Cond.selects RX11 yX11_mayCut yX11_mayCut, Cond.code yX11_mayCut cX11_mayCut 4 (some .boolean)]
def wsX11_games_r2 : List Cond := [Cond.fieldLink RX11 7 "HedgeGameModel" "kindOf" "[I", Cond.methodLink RX11 101 yX11_isIn, Cond.static yX11_isIn, Cond.code yX11_isIn cX11_isIn 2 (some .boolean), Cond.methodLink RX11 105 yX11_isBare, Cond.instanceMethod yX11_isBare, Cond.selects RX11 yX11_isBare yX11_isBare, Cond.code yX11_isBare cX11_isBare 5 (some .boolean), Cond.fieldLink RX11 13 "HedgeGameModel" "onOf" "[I", Cond.methodLink RX11 131 yX11_size, Cond.static yX11_size, Cond.code yX11_size cX11_size 3 (some .int), Cond.methodLink RX11 215 yX11_draw, Cond.instanceMethod yX11_draw, Cond.selects RX11 yX11_draw yX11_draw, Cond.code yX11_draw cX11_draw 2 (some .int), Cond.constantLong RX11 200 (1103515245), Cond.constantLong RX11 206 (12345), Cond.constantLong RX11 208 (2147483647), Cond.constantLong RX11 210 (65536), Cond.methodLink RX11 218 yX11_ofSet, Cond.static yX11_ofSet, Cond.code yX11_ofSet cX11_ofSet 4 (some .int), Cond.methodLink RX11 128 yX11_leaves]
def wsX11_games_r3 : List Cond := [Cond.instanceMethod yX11_leaves, Cond.selects RX11 yX11_leaves yX11_leaves, Cond.code yX11_leaves cX11_leaves 3 (some .int), Cond.methodLink RX11 108 yX11_above, Cond.instanceMethod yX11_above, Cond.selects RX11 yX11_above yX11_above, Cond.code yX11_above cX11_above 4 (some .int)]
def wsX11_games : List Cond := .code yX11_games cX11_games 4 (some .int) :: ((wsX11_games_r1 ++ (wsX11_games_r2 ++ wsX11_games_r3)) ++ wsX110)
def wsX11_image : List Cond := .code yX11_image cX11_image 2 (some .int) :: ([.fieldLink RX11 83 "HedgeGameModel" "branches" "I", .fieldLink RX11 231 "HedgeGameModel" "isKept" "Z", .fieldLink RX11 95 "HedgeGameModel" "hedges" "I", .fieldLink RX11 234 "HedgeGameModel" "keptHedge" "I", .fieldLink RX11 86 "HedgeGameModel" "stand" "I", .fieldLink RX11 237 "HedgeGameModel" "keptStand" "I", .fieldLink RX11 89 "HedgeGameModel" "turn" "I", .fieldLink RX11 240 "HedgeGameModel" "keptTurn" "I", .fieldLink RX11 92 "HedgeGameModel" "cuts" "I", .fieldLink RX11 243 "HedgeGameModel" "keptCuts" "I", .fieldLink RX11 98 "HedgeGameModel" "seen" "I", .fieldLink RX11 246 "HedgeGameModel" "keptSeen" "I", .fieldLink RX11 45 "HedgeGameModel" "keptKind" "[I", .fieldLink RX11 7 "HedgeGameModel" "kindOf" "[I", .fieldLink RX11 48 "HedgeGameModel" "keptBranch" "[I", .fieldLink RX11 16 "HedgeGameModel" "seenBranch" "[I", .fieldLink RX11 51 "HedgeGameModel" "keptBegins" "[I", .fieldLink RX11 19 "HedgeGameModel" "seenBegins" "[I", .fieldLink RX11 54 "HedgeGameModel" "keptWins" "[I", .fieldLink RX11 22 "HedgeGameModel" "seenWins" "[I"] ++ wsX110)
def wsX11_restore : List Cond := .code yX11_restore cX11_restore 2 (some .int) :: ([.fieldLink RX11 231 "HedgeGameModel" "isKept" "Z", .fieldLink RX11 234 "HedgeGameModel" "keptHedge" "I", .fieldLink RX11 95 "HedgeGameModel" "hedges" "I", .fieldLink RX11 237 "HedgeGameModel" "keptStand" "I", .fieldLink RX11 86 "HedgeGameModel" "stand" "I", .fieldLink RX11 240 "HedgeGameModel" "keptTurn" "I", .fieldLink RX11 89 "HedgeGameModel" "turn" "I", .fieldLink RX11 243 "HedgeGameModel" "keptCuts" "I", .fieldLink RX11 92 "HedgeGameModel" "cuts" "I", .fieldLink RX11 246 "HedgeGameModel" "keptSeen" "I", .fieldLink RX11 98 "HedgeGameModel" "seen" "I", .fieldLink RX11 7 "HedgeGameModel" "kindOf" "[I", .fieldLink RX11 45 "HedgeGameModel" "keptKind" "[I", .fieldLink RX11 16 "HedgeGameModel" "seenBranch" "[I", .fieldLink RX11 48 "HedgeGameModel" "keptBranch" "[I", .fieldLink RX11 19 "HedgeGameModel" "seenBegins" "[I", .fieldLink RX11 51 "HedgeGameModel" "keptBegins" "[I", .fieldLink RX11 22 "HedgeGameModel" "seenWins" "[I", .fieldLink RX11 54 "HedgeGameModel" "keptWins" "[I"] ++ wsX110)
def wsX11_onGround : List Cond := .code yX11_onGround cX11_onGround 3 (some .int) :: ([.fieldLink RX11 83 "HedgeGameModel" "branches" "I", .fieldLink RX11 13 "HedgeGameModel" "onOf" "[I"] ++ wsX110)
def wsX11_howMany_r1 : List Cond := [Cond.fieldLink RX11 83 "HedgeGameModel" "branches" "I", Cond.fieldLink RX11 86 "HedgeGameModel" "stand" "I", Cond.fieldLink RX11 89 "HedgeGameModel" "turn" "I", Cond.fieldLink RX11 92 "HedgeGameModel" "cuts" "I", Cond.fieldLink RX11 98 "HedgeGameModel" "seen" "I", Cond.fieldLink RX11 61 "HedgeGameModel" "pageLength" "I", Cond.fieldLink RX11 95 "HedgeGameModel" "hedges" "I", Cond.fieldLink RX11 176 "HedgeGameModel" "asks" "I", Cond.methodLink RX11 131 yX11_size, Cond.static yX11_size, Cond.initialized RX11, Cond.code yX11_size cX11_size 3 (some .int), Cond.methodLink RX11 212 yX11_mayCuts, Cond.instanceMethod yX11_mayCuts, Cond.selects RX11 yX11_mayCuts yX11_mayCuts, Cond.code yX11_mayCuts cX11_mayCuts 5 (some .int), Cond.methodLink RX11 111 yX11_mayCut, Cond.instanceMethod yX11_mayCut, Cond.selects RX11 yX11_mayCut yX11_mayCut, Cond.code yX11_mayCut cX11_mayCut 4 (some .boolean), Cond.fieldLink RX11 7 "HedgeGameModel" "kindOf" "[I", Cond.methodLink RX11 101 yX11_isIn, Cond.static yX11_isIn, Cond.code yX11_isIn cX11_isIn 2 (some .boolean)]
def wsX11_howMany_r2 : List Cond := [Cond.methodLink RX11 105 yX11_isBare, Cond.instanceMethod yX11_isBare, Cond.selects RX11 yX11_isBare yX11_isBare, Cond.code yX11_isBare cX11_isBare 5 (some .boolean), Cond.fieldLink RX11 13 "HedgeGameModel" "onOf" "[I", Cond.methodLink RX11 249 yX11_onGround, Cond.instanceMethod yX11_onGround, Cond.selects RX11 yX11_onGround yX11_onGround, Cond.code yX11_onGround cX11_onGround 3 (some .int)]
def wsX11_howMany : List Cond := .code yX11_howMany cX11_howMany 2 (some .int) :: ((wsX11_howMany_r1 ++ wsX11_howMany_r2) ++ wsX110)
def wsX11_count_r1 : List Cond := [Cond.methodLink RX11 252 yX11_howMany, Cond.instanceMethod yX11_howMany, Cond.selects RX11 yX11_howMany yX11_howMany, Cond.initialized RX11, Cond.code yX11_howMany cX11_howMany 2 (some .int), Cond.fieldLink RX11 83 "HedgeGameModel" "branches" "I", Cond.fieldLink RX11 86 "HedgeGameModel" "stand" "I", Cond.fieldLink RX11 89 "HedgeGameModel" "turn" "I", Cond.fieldLink RX11 92 "HedgeGameModel" "cuts" "I", Cond.fieldLink RX11 98 "HedgeGameModel" "seen" "I", Cond.fieldLink RX11 61 "HedgeGameModel" "pageLength" "I", Cond.fieldLink RX11 95 "HedgeGameModel" "hedges" "I", Cond.fieldLink RX11 176 "HedgeGameModel" "asks" "I", Cond.methodLink RX11 131 yX11_size, Cond.static yX11_size, Cond.code yX11_size cX11_size 3 (some .int), Cond.methodLink RX11 212 yX11_mayCuts, Cond.instanceMethod yX11_mayCuts, Cond.selects RX11 yX11_mayCuts yX11_mayCuts, Cond.code yX11_mayCuts cX11_mayCuts 5 (some .int), Cond.methodLink RX11 111 yX11_mayCut, Cond.instanceMethod yX11_mayCut, Cond.selects RX11 yX11_mayCut yX11_mayCut, Cond.code yX11_mayCut cX11_mayCut 4 (some .boolean)]
def wsX11_count_r2 : List Cond := [Cond.fieldLink RX11 7 "HedgeGameModel" "kindOf" "[I", Cond.methodLink RX11 101 yX11_isIn, Cond.static yX11_isIn, Cond.code yX11_isIn cX11_isIn 2 (some .boolean), Cond.methodLink RX11 105 yX11_isBare, Cond.instanceMethod yX11_isBare, Cond.selects RX11 yX11_isBare yX11_isBare, Cond.code yX11_isBare cX11_isBare 5 (some .boolean), Cond.fieldLink RX11 13 "HedgeGameModel" "onOf" "[I", Cond.methodLink RX11 249 yX11_onGround, Cond.instanceMethod yX11_onGround, Cond.selects RX11 yX11_onGround yX11_onGround, Cond.code yX11_onGround cX11_onGround 3 (some .int)]
def wsX11_count : List Cond := .code yX11_count cX11_count 2 (some .int) :: ((wsX11_count_r1 ++ wsX11_count_r2) ++ wsX110)
def wsX11_mix : List Cond := .code yX11_mix cX11_mix 3 none :: ([.constantLong RX11 255 (31), .fieldLink RX11 257 "HedgeGameModel" "h" "J"] ++ wsX110)
def wsX11_mixHedge_r1 : List Cond := [Cond.fieldLink RX11 35 "HedgeGameModel" "worthBy" "[I", Cond.fieldLink RX11 86 "HedgeGameModel" "stand" "I", Cond.fieldLink RX11 83 "HedgeGameModel" "branches" "I", Cond.fieldLink RX11 13 "HedgeGameModel" "onOf" "[I", Cond.methodLink RX11 150 yX11_winsNow, Cond.instanceMethod yX11_winsNow, Cond.selects RX11 yX11_winsNow yX11_winsNow, Cond.initialized RX11, Cond.code yX11_winsNow cX11_winsNow 2 (some .int), Cond.fieldLink RX11 29 "HedgeGameModel" "winner" "[I", Cond.methodLink RX11 138 yX11_layWinners, Cond.instanceMethod yX11_layWinners, Cond.selects RX11 yX11_layWinners yX11_layWinners, Cond.code yX11_layWinners cX11_layWinners 2 none, Cond.methodLink RX11 135 yX11_winnerFrom, Cond.instanceMethod yX11_winnerFrom, Cond.selects RX11 yX11_winnerFrom yX11_winnerFrom, Cond.code yX11_winnerFrom cX11_winnerFrom 4 (some .int), Cond.methodLink RX11 111 yX11_mayCut, Cond.instanceMethod yX11_mayCut, Cond.selects RX11 yX11_mayCut yX11_mayCut, Cond.code yX11_mayCut cX11_mayCut 4 (some .boolean), Cond.fieldLink RX11 7 "HedgeGameModel" "kindOf" "[I", Cond.methodLink RX11 101 yX11_isIn]
def wsX11_mixHedge_r2 : List Cond := [Cond.static yX11_isIn, Cond.code yX11_isIn cX11_isIn 2 (some .boolean), Cond.methodLink RX11 105 yX11_isBare, Cond.instanceMethod yX11_isBare, Cond.selects RX11 yX11_isBare yX11_isBare, Cond.code yX11_isBare cX11_isBare 5 (some .boolean), Cond.methodLink RX11 128 yX11_leaves, Cond.instanceMethod yX11_leaves, Cond.selects RX11 yX11_leaves yX11_leaves, Cond.code yX11_leaves cX11_leaves 3 (some .int), Cond.methodLink RX11 108 yX11_above, Cond.instanceMethod yX11_above, Cond.selects RX11 yX11_above yX11_above, Cond.code yX11_above cX11_above 4 (some .int), Cond.methodLink RX11 260 yX11_mix, Cond.instanceMethod yX11_mix, Cond.selects RX11 yX11_mix yX11_mix, Cond.code yX11_mix cX11_mix 3 none, Cond.constantLong RX11 255 (31), Cond.fieldLink RX11 257 "HedgeGameModel" "h" "J", Cond.methodLink RX11 153 yX11_bestNow, Cond.instanceMethod yX11_bestNow, Cond.selects RX11 yX11_bestNow yX11_bestNow, Cond.code yX11_bestNow cX11_bestNow 6 (some .int)]
def wsX11_mixHedge_r3 : List Cond := [Cond.fieldLink RX11 32 "HedgeGameModel" "lasting" "[I", Cond.methodLink RX11 144 yX11_layLasting, Cond.instanceMethod yX11_layLasting, Cond.selects RX11 yX11_layLasting yX11_layLasting, Cond.code yX11_layLasting cX11_layLasting 2 none, Cond.methodLink RX11 141 yX11_lastingFrom, Cond.instanceMethod yX11_lastingFrom, Cond.selects RX11 yX11_lastingFrom yX11_lastingFrom, Cond.code yX11_lastingFrom cX11_lastingFrom 9 (some .int), Cond.constant RX11 134 (1048576), Cond.methodLink RX11 156 yX11_lastsNow, Cond.instanceMethod yX11_lastsNow, Cond.selects RX11 yX11_lastsNow yX11_lastsNow, Cond.code yX11_lastsNow cX11_lastsNow 2 (some .int), Cond.methodLink RX11 190 yX11_likelyNow, Cond.instanceMethod yX11_likelyNow, Cond.selects RX11 yX11_likelyNow yX11_likelyNow, Cond.code yX11_likelyNow cX11_likelyNow 3 (some .int), Cond.fieldLink RX11 38 "HedgeGameModel" "partsBy" "[J", Cond.constantLong RX11 188 (1000000), Cond.constantLong RX11 182 (182891520000), Cond.methodLink RX11 184 yX11_partsFrom, Cond.instanceMethod yX11_partsFrom, Cond.selects RX11 yX11_partsFrom yX11_partsFrom]
def wsX11_mixHedge_r4 : List Cond := [Cond.code yX11_partsFrom cX11_partsFrom 7 (some .long), Cond.methodLink RX11 166 yX11_layWorth, Cond.instanceMethod yX11_layWorth, Cond.selects RX11 yX11_layWorth yX11_layWorth, Cond.code yX11_layWorth cX11_layWorth 2 none, Cond.methodLink RX11 163 yX11_worthFrom, Cond.instanceMethod yX11_worthFrom, Cond.selects RX11 yX11_worthFrom yX11_worthFrom, Cond.code yX11_worthFrom cX11_worthFrom 8 (some .int), Cond.constant RX11 159 (-1048576), Cond.methodLink RX11 160 yX11_simplest, Cond.static yX11_simplest, Cond.code yX11_simplest cX11_simplest 5 (some .int)]
def wsX11_mixHedge : List Cond := .code yX11_mixHedge cX11_mixHedge 2 none :: ((wsX11_mixHedge_r1 ++ (wsX11_mixHedge_r2 ++ (wsX11_mixHedge_r3 ++ wsX11_mixHedge_r4))) ++ wsX110)
def wsX11_digest_r1 : List Cond := [Cond.constantLong RX11 264 (1283), Cond.fieldLink RX11 257 "HedgeGameModel" "h" "J", Cond.fieldLink RX11 83 "HedgeGameModel" "branches" "I", Cond.fieldLink RX11 61 "HedgeGameModel" "pageLength" "I", Cond.fieldLink RX11 25 "HedgeGameModel" "page" "[B", Cond.methodLink RX11 124 yX11_branchNow, Cond.instanceMethod yX11_branchNow, Cond.selects RX11 yX11_branchNow yX11_branchNow, Cond.initialized RX11, Cond.code yX11_branchNow cX11_branchNow 3 (some .int), Cond.fieldLink RX11 7 "HedgeGameModel" "kindOf" "[I", Cond.fieldLink RX11 13 "HedgeGameModel" "onOf" "[I", Cond.fieldLink RX11 86 "HedgeGameModel" "stand" "I", Cond.methodLink RX11 101 yX11_isIn, Cond.static yX11_isIn, Cond.code yX11_isIn cX11_isIn 2 (some .boolean), Cond.methodLink RX11 111 yX11_mayCut, Cond.instanceMethod yX11_mayCut, Cond.selects RX11 yX11_mayCut yX11_mayCut, Cond.code yX11_mayCut cX11_mayCut 4 (some .boolean), Cond.methodLink RX11 105 yX11_isBare, Cond.instanceMethod yX11_isBare, Cond.selects RX11 yX11_isBare yX11_isBare, Cond.code yX11_isBare cX11_isBare 5 (some .boolean)]
def wsX11_digest_r2 : List Cond := [Cond.methodLink RX11 108 yX11_above, Cond.instanceMethod yX11_above, Cond.selects RX11 yX11_above yX11_above, Cond.code yX11_above cX11_above 4 (some .int), Cond.methodLink RX11 114 yX11_sortsOf, Cond.instanceMethod yX11_sortsOf, Cond.selects RX11 yX11_sortsOf yX11_sortsOf, Cond.code yX11_sortsOf cX11_sortsOf 6 (some .int), Cond.fieldLink RX11 98 "HedgeGameModel" "seen" "I", Cond.fieldLink RX11 16 "HedgeGameModel" "seenBranch" "[I", Cond.fieldLink RX11 42 "HedgeGameModel" "wonBy" "[I", Cond.fieldLink RX11 19 "HedgeGameModel" "seenBegins" "[I", Cond.fieldLink RX11 22 "HedgeGameModel" "seenWins" "[I", Cond.methodLink RX11 193 yX11_laySorts, Cond.instanceMethod yX11_laySorts, Cond.selects RX11 yX11_laySorts yX11_laySorts, Cond.code yX11_laySorts cX11_laySorts 4 none, Cond.fieldLink RX11 29 "HedgeGameModel" "winner" "[I", Cond.methodLink RX11 138 yX11_layWinners, Cond.instanceMethod yX11_layWinners, Cond.selects RX11 yX11_layWinners yX11_layWinners, Cond.code yX11_layWinners cX11_layWinners 2 none, Cond.methodLink RX11 135 yX11_winnerFrom, Cond.instanceMethod yX11_winnerFrom]
def wsX11_digest_r3 : List Cond := [Cond.selects RX11 yX11_winnerFrom yX11_winnerFrom, Cond.code yX11_winnerFrom cX11_winnerFrom 4 (some .int), Cond.methodLink RX11 128 yX11_leaves, Cond.instanceMethod yX11_leaves, Cond.selects RX11 yX11_leaves yX11_leaves, Cond.code yX11_leaves cX11_leaves 3 (some .int), Cond.methodLink RX11 117 yX11_letOf, Cond.instanceMethod yX11_letOf, Cond.selects RX11 yX11_letOf yX11_letOf, Cond.code yX11_letOf cX11_letOf 3 (some .int), Cond.methodLink RX11 197 yX11_worstBy, Cond.instanceMethod yX11_worstBy, Cond.selects RX11 yX11_worstBy yX11_worstBy, Cond.code yX11_worstBy cX11_worstBy 5 (some .int), Cond.methodLink RX11 131 yX11_size, Cond.static yX11_size, Cond.code yX11_size cX11_size 3 (some .int), Cond.methodLink RX11 260 yX11_mix, Cond.instanceMethod yX11_mix, Cond.selects RX11 yX11_mix yX11_mix, Cond.code yX11_mix cX11_mix 3 none, Cond.constantLong RX11 255 (31), Cond.methodLink RX11 266 yX11_mixHedge, Cond.instanceMethod yX11_mixHedge]
def wsX11_digest_r4 : List Cond := [Cond.selects RX11 yX11_mixHedge yX11_mixHedge, Cond.code yX11_mixHedge cX11_mixHedge 2 none, Cond.fieldLink RX11 35 "HedgeGameModel" "worthBy" "[I", Cond.methodLink RX11 150 yX11_winsNow, Cond.instanceMethod yX11_winsNow, Cond.selects RX11 yX11_winsNow yX11_winsNow, Cond.code yX11_winsNow cX11_winsNow 2 (some .int), Cond.methodLink RX11 153 yX11_bestNow, Cond.instanceMethod yX11_bestNow, Cond.selects RX11 yX11_bestNow yX11_bestNow, Cond.code yX11_bestNow cX11_bestNow 6 (some .int), Cond.fieldLink RX11 32 "HedgeGameModel" "lasting" "[I", Cond.methodLink RX11 144 yX11_layLasting, Cond.instanceMethod yX11_layLasting, Cond.selects RX11 yX11_layLasting yX11_layLasting, Cond.code yX11_layLasting cX11_layLasting 2 none, Cond.methodLink RX11 141 yX11_lastingFrom, Cond.instanceMethod yX11_lastingFrom, Cond.selects RX11 yX11_lastingFrom yX11_lastingFrom, Cond.code yX11_lastingFrom cX11_lastingFrom 9 (some .int), Cond.constant RX11 134 (1048576), Cond.methodLink RX11 156 yX11_lastsNow, Cond.instanceMethod yX11_lastsNow, Cond.selects RX11 yX11_lastsNow yX11_lastsNow]
def wsX11_digest_r5 : List Cond := [Cond.code yX11_lastsNow cX11_lastsNow 2 (some .int), Cond.methodLink RX11 190 yX11_likelyNow, Cond.instanceMethod yX11_likelyNow, Cond.selects RX11 yX11_likelyNow yX11_likelyNow, Cond.code yX11_likelyNow cX11_likelyNow 3 (some .int), Cond.fieldLink RX11 38 "HedgeGameModel" "partsBy" "[J", Cond.constantLong RX11 188 (1000000), Cond.constantLong RX11 182 (182891520000), Cond.methodLink RX11 184 yX11_partsFrom, Cond.instanceMethod yX11_partsFrom, Cond.selects RX11 yX11_partsFrom yX11_partsFrom, Cond.code yX11_partsFrom cX11_partsFrom 7 (some .long), Cond.methodLink RX11 166 yX11_layWorth, Cond.instanceMethod yX11_layWorth, Cond.selects RX11 yX11_layWorth yX11_layWorth, Cond.code yX11_layWorth cX11_layWorth 2 none, Cond.methodLink RX11 163 yX11_worthFrom, Cond.instanceMethod yX11_worthFrom, Cond.selects RX11 yX11_worthFrom yX11_worthFrom, Cond.code yX11_worthFrom cX11_worthFrom 8 (some .int), Cond.constant RX11 159 (-1048576), Cond.methodLink RX11 160 yX11_simplest, Cond.static yX11_simplest, Cond.code yX11_simplest cX11_simplest 5 (some .int)]
def wsX11_digest_r6 : List Cond := [Cond.methodLink RX11 252 yX11_howMany, Cond.instanceMethod yX11_howMany, Cond.selects RX11 yX11_howMany yX11_howMany, Cond.code yX11_howMany cX11_howMany 2 (some .int), Cond.fieldLink RX11 89 "HedgeGameModel" "turn" "I", Cond.fieldLink RX11 92 "HedgeGameModel" "cuts" "I", Cond.fieldLink RX11 95 "HedgeGameModel" "hedges" "I", Cond.fieldLink RX11 176 "HedgeGameModel" "asks" "I", Cond.methodLink RX11 212 yX11_mayCuts, Cond.instanceMethod yX11_mayCuts, Cond.selects RX11 yX11_mayCuts yX11_mayCuts, Cond.code yX11_mayCuts cX11_mayCuts 5 (some .int), Cond.methodLink RX11 249 yX11_onGround, Cond.instanceMethod yX11_onGround, Cond.selects RX11 yX11_onGround yX11_onGround, Cond.code yX11_onGround cX11_onGround 3 (some .int)]
def wsX11_digest : List Cond := .code yX11_digest cX11_digest 3 (some .long) :: ((wsX11_digest_r1 ++ (wsX11_digest_r2 ++ (wsX11_digest_r3 ++ (wsX11_digest_r4 ++ (wsX11_digest_r5 ++ wsX11_digest_r6))))) ++ wsX110)
def wsJ9_max_7cf53 : List Cond := .code yJ9_max_7cf53 cJ9_max_7cf53 2 (some .int) :: ([])
def wsJ9_min_7cf53 : List Cond := .code yJ9_min_7cf53 cJ9_min_7cf53 2 (some .int) :: ([])
def wsL_law_r1 : List Cond := [Cond.classLink RL 7 RX10, Cond.instantiable RX10 14, Cond.initialized RX10, Cond.classLink RL 10 RX11, Cond.instantiable RX11 34, Cond.initialized RX11, Cond.methodLink RL 9 yX10_init, Cond.instanceMethod yX10_init, Cond.code yX10_init cX10_init 1 none, Cond.methodLink RX10 1 objectInit, Cond.instanceMethod objectInit, Cond.code objectInit ⟨#[0xb1]⟩ 1 none, Cond.classLink RX10 7 RX5, Cond.instantiable RX5 2, Cond.initialized RX5, Cond.fieldLink RX10 10 "HedgeGame" "page" "LHedgeGame$Page;", Cond.classLink RX10 16 RX8, Cond.instantiable RX8 5, Cond.initialized RX8, Cond.fieldLink RX10 19 "HedgeGame" "shape" "LHedgeGame$Shape;", Cond.classLink RX10 23 RX3, Cond.instantiable RX3 5, Cond.initialized RX3, Cond.fieldLink RX10 26 "HedgeGame" "now" "LHedgeGame$Moment;"]
def wsL_law_r2 : List Cond := [Cond.fieldLink RX10 30 "HedgeGame" "kept" "LHedgeGame$Moment;", Cond.classLink RX10 33 RX6, Cond.instantiable RX6 2, Cond.initialized RX6, Cond.fieldLink RX10 38 "HedgeGame" "rules" "LHedgeGame$Rules;", Cond.classLink RX10 42 RX4, Cond.instantiable RX4 2, Cond.initialized RX4, Cond.fieldLink RX10 47 "HedgeGame" "outcomes" "LHedgeGame$Outcomes;", Cond.classLink RX10 51 RX1, Cond.instantiable RX1 3, Cond.initialized RX1, Cond.fieldLink RX10 56 "HedgeGame" "lengths" "LHedgeGame$Lengths;", Cond.classLink RX10 60 RX9, Cond.instantiable RX9 2, Cond.initialized RX9, Cond.fieldLink RX10 63 "HedgeGame" "values" "LHedgeGame$Values;", Cond.classLink RX10 67 RX0, Cond.instantiable RX0 2, Cond.initialized RX0, Cond.fieldLink RX10 70 "HedgeGame" "chances" "LHedgeGame$Chances;", Cond.classLink RX10 74 RX2, Cond.instantiable RX2 4, Cond.initialized RX2]
def wsL_law_r3 : List Cond := [Cond.fieldLink RX10 77 "HedgeGame" "lottery" "LHedgeGame$Lottery;", Cond.fieldLink RX10 81 "HedgeGame" "isCharted" "Z", Cond.fieldLink RX10 85 "HedgeGame" "isKept" "Z", Cond.fieldLink RX10 88 "HedgeGame" "hedgesRead" "I", Cond.fieldLink RX10 92 "HedgeGame" "evensDone" "I", Cond.methodLink RX10 9 yX5_init, Cond.instanceMethod yX5_init, Cond.code yX5_init cX5_init 1 none, Cond.methodLink RX5 3 objectInit, Cond.arrayClass .char, Cond.fieldLink RX5 9 "HedgeGame$Page" "letters" "[C", Cond.fieldLink RX5 15 "HedgeGame$Page" "length" "I", Cond.methodLink RX10 18 yX8_init, Cond.instanceMethod yX8_init, Cond.code yX8_init cX8_init 1 none, Cond.methodLink RX8 3 objectInit, Cond.fieldLink RX8 9 "HedgeGame$Shape" "number" "I", Cond.arrayClass .int, Cond.fieldLink RX8 15 "HedgeGame$Shape" "on" "[I", Cond.fieldLink RX8 19 "HedgeGame$Shape" "above" "[I", Cond.fieldLink RX8 22 "HedgeGame$Shape" "sets" "[I", Cond.fieldLink RX8 25 "HedgeGame$Shape" "setCount" "I", Cond.methodLink RX10 25 yX3_init, Cond.instanceMethod yX3_init]
def wsL_law_r4 : List Cond := [Cond.code yX3_init cX3_init 1 none, Cond.methodLink RX3 3 objectInit, Cond.fieldLink RX3 9 "HedgeGame$Moment" "kinds" "[I", Cond.fieldLink RX3 15 "HedgeGame$Moment" "standing" "I", Cond.fieldLink RX3 19 "HedgeGame$Moment" "turn" "I", Cond.fieldLink RX3 22 "HedgeGame$Moment" "cuts" "I", Cond.classLink RX3 25 RX7, Cond.instantiable RX7 4, Cond.initialized RX7, Cond.fieldLink RX3 28 "HedgeGame$Moment" "seen" "LHedgeGame$Seen;", Cond.methodLink RX3 27 yX7_init, Cond.instanceMethod yX7_init, Cond.code yX7_init cX7_init 1 none, Cond.methodLink RX7 3 objectInit, Cond.fieldLink RX7 9 "HedgeGame$Seen" "size" "I", Cond.fieldLink RX7 15 "HedgeGame$Seen" "branches" "[I", Cond.fieldLink RX7 19 "HedgeGame$Seen" "beginners" "[I", Cond.arrayClass .boolean, Cond.fieldLink RX7 22 "HedgeGame$Seen" "won" "[Z", Cond.methodLink RX10 35 yX6_init, Cond.instanceMethod yX6_init, Cond.code yX6_init cX6_init 3 none, Cond.methodLink RX6 3 objectInit, Cond.fieldLink RX6 9 "HedgeGame$Rules" "shape" "LHedgeGame$Shape;"]
def wsL_law_r5 : List Cond := [Cond.fieldLink RX6 15 "HedgeGame$Rules" "now" "LHedgeGame$Moment;", Cond.methodLink RX10 44 yX4_init, Cond.instanceMethod yX4_init, Cond.code yX4_init cX4_init 2 none, Cond.methodLink RX4 5 objectInit, Cond.arrayClass .long, Cond.fieldLink RX4 11 "HedgeGame$Outcomes" "won" "[J", Cond.fieldLink RX4 15 "HedgeGame$Outcomes" "rules" "LHedgeGame$Rules;", Cond.methodLink RX10 53 yX1_init, Cond.instanceMethod yX1_init, Cond.code yX1_init cX1_init 3 none, Cond.methodLink RX1 3 objectInit, Cond.fieldLink RX1 9 "HedgeGame$Lengths" "cuts" "[I", Cond.fieldLink RX1 15 "HedgeGame$Lengths" "rules" "LHedgeGame$Rules;", Cond.fieldLink RX1 19 "HedgeGame$Lengths" "outcomes" "LHedgeGame$Outcomes;", Cond.methodLink RX10 62 yX9_init, Cond.instanceMethod yX9_init, Cond.code yX9_init cX9_init 2 none, Cond.methodLink RX9 3 objectInit, Cond.fieldLink RX9 9 "HedgeGame$Values" "value" "[I", Cond.fieldLink RX9 15 "HedgeGame$Values" "rules" "LHedgeGame$Rules;", Cond.methodLink RX10 69 yX0_init, Cond.instanceMethod yX0_init, Cond.code yX0_init cX0_init 2 none]
def wsL_law_r6 : List Cond := [Cond.methodLink RX0 3 objectInit, Cond.fieldLink RX0 9 "HedgeGame$Chances" "chance" "[J", Cond.fieldLink RX0 15 "HedgeGame$Chances" "rules" "LHedgeGame$Rules;", Cond.methodLink RX10 76 yX2_init, Cond.instanceMethod yX2_init, Cond.code yX2_init cX2_init 2 none, Cond.methodLink RX2 3 objectInit, Cond.fieldLink RX2 9 "HedgeGame$Lottery" "seed" "I", Cond.fieldLink RX2 15 "HedgeGame$Lottery" "whiteWon" "I", Cond.fieldLink RX2 18 "HedgeGame$Lottery" "cutsDone" "I", Cond.fieldLink RX2 21 "HedgeGame$Lottery" "rules" "LHedgeGame$Rules;", Cond.methodLink RL 12 yX11_init, Cond.instanceMethod yX11_init, Cond.code yX11_init cX11_init 1 none, Cond.methodLink RX11 1 objectInit, Cond.fieldLink RX11 7 "HedgeGameModel" "kindOf" "[I", Cond.fieldLink RX11 13 "HedgeGameModel" "onOf" "[I", Cond.fieldLink RX11 16 "HedgeGameModel" "seenBranch" "[I", Cond.fieldLink RX11 19 "HedgeGameModel" "seenBegins" "[I", Cond.fieldLink RX11 22 "HedgeGameModel" "seenWins" "[I", Cond.arrayClass .byte, Cond.fieldLink RX11 25 "HedgeGameModel" "page" "[B", Cond.fieldLink RX11 29 "HedgeGameModel" "winner" "[I", Cond.fieldLink RX11 32 "HedgeGameModel" "lasting" "[I"]
def wsL_law_r7 : List Cond := [Cond.fieldLink RX11 35 "HedgeGameModel" "worthBy" "[I", Cond.fieldLink RX11 38 "HedgeGameModel" "partsBy" "[J", Cond.fieldLink RX11 42 "HedgeGameModel" "wonBy" "[I", Cond.fieldLink RX11 45 "HedgeGameModel" "keptKind" "[I", Cond.fieldLink RX11 48 "HedgeGameModel" "keptBranch" "[I", Cond.fieldLink RX11 51 "HedgeGameModel" "keptBegins" "[I", Cond.fieldLink RX11 54 "HedgeGameModel" "keptWins" "[I", Cond.methodLink RL 13 yX10_letter, Cond.instanceMethod yX10_letter, Cond.selects RX10 yX10_letter yX10_letter, Cond.code yX10_letter cX10_letter 2 (some .int), Cond.methodLink RX10 95 yX5_size, Cond.instanceMethod yX5_size, Cond.selects RX5 yX5_size yX5_size, Cond.code yX5_size cX5_size 1 (some .int), Cond.methodLink RX10 99 yX5_add, Cond.instanceMethod yX5_add, Cond.selects RX5 yX5_add yX5_add, Cond.code yX5_add cX5_add 2 none, Cond.methodLink RL 17 yX11_letter, Cond.instanceMethod yX11_letter, Cond.selects RX11 yX11_letter yX11_letter, Cond.code yX11_letter cX11_letter 2 (some .int), Cond.fieldLink RX11 61 "HedgeGameModel" "pageLength" "I"]
def wsL_law_r8 : List Cond := [Cond.methodLink RX11 57 yX11_within, Cond.static yX11_within, Cond.code yX11_within cX11_within 3 (some .boolean), Cond.methodLink RL 18 yX10_blank, Cond.instanceMethod yX10_blank, Cond.selects RX10 yX10_blank yX10_blank, Cond.code yX10_blank cX10_blank 2 (some .int), Cond.methodLink RX10 103 yX5_wipe, Cond.instanceMethod yX5_wipe, Cond.selects RX5 yX5_wipe yX5_wipe, Cond.code yX5_wipe cX5_wipe 1 none, Cond.methodLink RL 22 yX11_blank, Cond.instanceMethod yX11_blank, Cond.selects RX11 yX11_blank yX11_blank, Cond.code yX11_blank cX11_blank 2 (some .int), Cond.methodLink RL 23 yX10_fault, Cond.instanceMethod yX10_fault, Cond.selects RX10 yX10_fault yX10_fault, Cond.code yX10_fault cX10_fault 1 (some .int), Cond.methodLink RX10 106 yX5_firstWrong, Cond.instanceMethod yX5_firstWrong, Cond.selects RX5 yX5_firstWrong yX5_firstWrong, Cond.code yX5_firstWrong cX5_firstWrong 2 (some .int), Cond.methodLink RX5 19 yX5_fits]
def wsL_law_r9 : List Cond := [Cond.instanceMethod yX5_fits, Cond.selects RX5 yX5_fits yX5_fits, Cond.code yX5_fits cX5_fits 3 (some .boolean), Cond.methodLink RX5 29 yX5_at, Cond.instanceMethod yX5_at, Cond.selects RX5 yX5_at yX5_at, Cond.code yX5_at cX5_at 2 (some .char), Cond.methodLink RX5 33 yJ0_indexOf_0f7a4, Cond.instanceMethod yJ0_indexOf_0f7a4, Cond.selects RJ0 yJ0_indexOf_0f7a4 yJ0_indexOf_0f7a4, Cond.initialized RJ0, Cond.code yJ0_indexOf_0f7a4 cJ0_indexOf_0f7a4 2 (some .int), Cond.methodLink RJ0 633 yJ0_indexOf_7cf53, Cond.instanceMethod yJ0_indexOf_7cf53, Cond.selects RJ0 yJ0_indexOf_7cf53 yJ0_indexOf_7cf53, Cond.code yJ0_indexOf_7cf53 cJ0_indexOf_7cf53 3 (some .int), Cond.fieldLink RJ0 9 "java/lang/String" "value" "[B", Cond.methodLink RJ0 492 yJ0_isLatin1_aae02, Cond.instanceMethod yJ0_isLatin1_aae02, Cond.selects RJ0 yJ0_isLatin1_aae02 yJ0_isLatin1_aae02, Cond.code yJ0_isLatin1_aae02 cJ0_isLatin1_aae02 1 (some .boolean), Cond.fieldLink RJ0 38 "java/lang/String" "COMPACT_STRINGS" "Z", Cond.fieldLink RJ0 15 "java/lang/String" "coder" "B", Cond.methodLink RJ0 505 yJ0_length_8abf5]
def wsL_law_r10 : List Cond := [Cond.instanceMethod yJ0_length_8abf5, Cond.selects RJ0 yJ0_length_8abf5 yJ0_length_8abf5, Cond.code yJ0_length_8abf5 cJ0_length_8abf5 1 (some .int), Cond.methodLink RJ0 335 yJ0_coder_7d493, Cond.instanceMethod yJ0_coder_7d493, Cond.selects RJ0 yJ0_coder_7d493 yJ0_coder_7d493, Cond.code yJ0_coder_7d493 cJ0_coder_7d493 1 (some .byte), Cond.methodLink RJ0 637 yJ1_indexOf_4cfef, Cond.static yJ1_indexOf_4cfef, Cond.initialized RJ1, Cond.code yJ1_indexOf_4cfef cJ1_indexOf_4cfef 4 (some .int), Cond.methodLink RJ1 92 Lib.Math.max.name, Cond.static Lib.Math.max.name, Cond.initialized "java/lang/Math", Cond.code Lib.Math.max.name Lib.Math.max.code 2 (some .int), Cond.methodLink RJ1 38 Lib.Math.min.name, Cond.static Lib.Math.min.name, Cond.code Lib.Math.min.name Lib.Math.min.code 2 (some .int), Cond.methodLink RJ1 88 yJ1_canEncode_9a6ad, Cond.static yJ1_canEncode_9a6ad, Cond.code yJ1_canEncode_9a6ad cJ1_canEncode_9a6ad 1 (some .boolean), Cond.methodLink RJ1 95 yJ1_indexOfChar_4cfef, Cond.static yJ1_indexOfChar_4cfef, Cond.code yJ1_indexOfChar_4cfef cJ1_indexOfChar_4cfef 6 (some .int)]
def wsL_law_r11 : List Cond := [Cond.methodLink RJ0 640 yJ2_indexOf_4cfef, Cond.static yJ2_indexOf_4cfef, Cond.initialized RJ2, Cond.code yJ2_indexOf_4cfef cJ2_indexOf_4cfef 4 (some .int), Cond.methodLink RJ2 224 Lib.Math.max.name, Cond.methodLink RJ2 183 Lib.Math.min.name, Cond.constant RJ2 227 (65536), Cond.methodLink RJ2 228 yJ2_indexOfChar_4cfef, Cond.static yJ2_indexOfChar_4cfef, Cond.code yJ2_indexOfChar_4cfef cJ2_indexOfChar_4cfef 4 (some .int), Cond.methodLink RJ2 96 yJ2_checkBoundsBeginEnd_d044e, Cond.static yJ2_checkBoundsBeginEnd_d044e, Cond.code yJ2_checkBoundsBeginEnd_d044e cJ2_checkBoundsBeginEnd_d044e 3 none, Cond.methodLink RJ2 48 yJ2_length_9d52b, Cond.static yJ2_length_9d52b, Cond.code yJ2_length_9d52b cJ2_length_9d52b 1 (some .int), Cond.methodLink RJ2 241 yJ0_checkBoundsBeginEnd_23922, Cond.static yJ0_checkBoundsBeginEnd_23922, Cond.code yJ0_checkBoundsBeginEnd_23922 cJ0_checkBoundsBeginEnd_23922 3 none, Cond.fieldLink RJ0 1053 "jdk/internal/util/Preconditions" "SIOOBE_FORMATTER" "Ljava/util/function/BiFunction;", Cond.methodLink RJ0 1062 yJ3_checkFromToIndex_8c36e, Cond.static yJ3_checkFromToIndex_8c36e, Cond.initialized RJ3, Cond.code yJ3_checkFromToIndex_8c36e cJ3_checkFromToIndex_8c36e 4 (some .int)]
def wsL_law_r12 : List Cond := [Cond.methodLink RJ2 244 yJ2_indexOfCharUnsafe_4cfef, Cond.static yJ2_indexOfCharUnsafe_4cfef, Cond.code yJ2_indexOfCharUnsafe_4cfef cJ2_indexOfCharUnsafe_4cfef 5 (some .int), Cond.methodLink RJ2 71 yJ2_getChar_3b067, Cond.static yJ2_getChar_3b067, Cond.code yJ2_getChar_3b067 cJ2_getChar_3b067 2 (some .char), Cond.fieldLink RJ2 44 "java/lang/StringUTF16" "$assertionsDisabled" "Z", Cond.fieldLink RJ2 59 "java/lang/StringUTF16" "HI_BYTE_SHIFT" "I", Cond.fieldLink RJ2 63 "java/lang/StringUTF16" "LO_BYTE_SHIFT" "I", Cond.methodLink RJ2 232 yJ2_indexOfSupplementary_4cfef, Cond.static yJ2_indexOfSupplementary_4cfef, Cond.code yJ2_indexOfSupplementary_4cfef cJ2_indexOfSupplementary_4cfef 7 (some .int), Cond.methodLink RJ2 164 yJ11_isValidCodePoint_9a6ad, Cond.static yJ11_isValidCodePoint_9a6ad, Cond.initialized RJ11, Cond.code yJ11_isValidCodePoint_9a6ad cJ11_isValidCodePoint_9a6ad 2 (some .boolean), Cond.methodLink RJ2 157 yJ11_highSurrogate_5068e, Cond.static yJ11_highSurrogate_5068e, Cond.code yJ11_highSurrogate_5068e cJ11_highSurrogate_5068e 1 (some .char), Cond.constant RJ11 110 (55232), Cond.methodLink RJ2 161 yJ11_lowSurrogate_5068e, Cond.static yJ11_lowSurrogate_5068e, Cond.code yJ11_lowSurrogate_5068e cJ11_lowSurrogate_5068e 1 (some .char), Cond.constant RJ11 76 (56320)]
def wsL_law_r13 : List Cond := [Cond.methodLink RL 26 yX11_fault, Cond.instanceMethod yX11_fault, Cond.selects RX11 yX11_fault yX11_fault, Cond.code yX11_fault cX11_fault 1 (some .int), Cond.methodLink RX11 79 yX11_read, Cond.instanceMethod yX11_read, Cond.selects RX11 yX11_read yX11_read, Cond.code yX11_read cX11_read 2 (some .int), Cond.fieldLink RX11 65 "HedgeGameModel" "isWhole" "Z", Cond.fieldLink RX11 69 "HedgeGameModel" "newBranches" "I", Cond.methodLink RX11 72 yX11_at, Cond.instanceMethod yX11_at, Cond.selects RX11 yX11_at yX11_at, Cond.code yX11_at cX11_at 2 (some .int), Cond.methodLink RX11 76 yX11_kindBy, Cond.static yX11_kindBy, Cond.code yX11_kindBy cX11_kindBy 1 (some .int), Cond.methodLink RL 27 yX10_hedge, Cond.instanceMethod yX10_hedge, Cond.selects RX10 yX10_hedge yX10_hedge, Cond.code yX10_hedge cX10_hedge 1 (some .int), Cond.methodLink RX10 109 yX5_isWhole, Cond.instanceMethod yX5_isWhole, Cond.selects RX5 yX5_isWhole yX5_isWhole]
def wsL_law_r14 : List Cond := [Cond.code yX5_isWhole cX5_isWhole 1 (some .boolean), Cond.methodLink RX5 23 yX5_firstWrong, Cond.methodLink RX10 113 yX8_readFrom, Cond.instanceMethod yX8_readFrom, Cond.selects RX8 yX8_readFrom yX8_readFrom, Cond.code yX8_readFrom cX8_readFrom 4 none, Cond.methodLink RX8 34 Lib.Math.min.name, Cond.methodLink RX8 28 yX5_branches, Cond.instanceMethod yX5_branches, Cond.selects RX5 yX5_branches yX5_branches, Cond.code yX5_branches cX5_branches 1 (some .int), Cond.methodLink RX8 40 yX5_groundAt, Cond.instanceMethod yX5_groundAt, Cond.selects RX5 yX5_groundAt yX5_groundAt, Cond.code yX5_groundAt cX5_groundAt 3 (some .int), Cond.methodLink RX8 44 yX8_withAllOn, Cond.instanceMethod yX8_withAllOn, Cond.selects RX8 yX8_withAllOn yX8_withAllOn, Cond.code yX8_withAllOn cX8_withAllOn 2 (some .int), Cond.methodLink RX8 47 yX8_findSets, Cond.instanceMethod yX8_findSets, Cond.selects RX8 yX8_findSets yX8_findSets, Cond.code yX8_findSets cX8_findSets 2 none, Cond.methodLink RX8 50 yX8_canStand]
def wsL_law_r15 : List Cond := [Cond.instanceMethod yX8_canStand, Cond.selects RX8 yX8_canStand yX8_canStand, Cond.code yX8_canStand cX8_canStand 3 (some .boolean), Cond.methodLink RX8 54 yX8_hasFooting, Cond.instanceMethod yX8_hasFooting, Cond.selects RX8 yX8_hasFooting yX8_hasFooting, Cond.code yX8_hasFooting cX8_hasFooting 3 (some .boolean), Cond.methodLink RX10 120 yX3_beginWith, Cond.instanceMethod yX3_beginWith, Cond.selects RX3 yX3_beginWith yX3_beginWith, Cond.code yX3_beginWith cX3_beginWith 4 none, Cond.methodLink RX3 32 yX5_kindAt, Cond.instanceMethod yX5_kindAt, Cond.selects RX5 yX5_kindAt yX5_kindAt, Cond.code yX5_kindAt cX5_kindAt 2 (some .int), Cond.methodLink RX5 39 Lib.Math.max.name, Cond.methodLink RL 30 yX11_hedge, Cond.instanceMethod yX11_hedge, Cond.selects RX11 yX11_hedge yX11_hedge, Cond.code yX11_hedge cX11_hedge 2 (some .int), Cond.fieldLink RX11 83 "HedgeGameModel" "branches" "I", Cond.fieldLink RX11 86 "HedgeGameModel" "stand" "I", Cond.fieldLink RX11 89 "HedgeGameModel" "turn" "I", Cond.fieldLink RX11 92 "HedgeGameModel" "cuts" "I"]
def wsL_law_r16 : List Cond := [Cond.fieldLink RX11 95 "HedgeGameModel" "hedges" "I", Cond.fieldLink RX11 98 "HedgeGameModel" "seen" "I", Cond.methodLink RL 31 yX10_branch, Cond.instanceMethod yX10_branch, Cond.selects RX10 yX10_branch yX10_branch, Cond.code yX10_branch cX10_branch 3 (some .int), Cond.methodLink RX10 124 yX10_isUnknown, Cond.instanceMethod yX10_isUnknown, Cond.selects RX10 yX10_isUnknown yX10_isUnknown, Cond.code yX10_isUnknown cX10_isUnknown 2 (some .boolean), Cond.methodLink RX10 138 yX6_choices, Cond.instanceMethod yX6_choices, Cond.selects RX6 yX6_choices yX6_choices, Cond.code yX6_choices cX6_choices 5 (some .int), Cond.methodLink RX6 29 yX6_kindsCutBy, Cond.instanceMethod yX6_kindsCutBy, Cond.selects RX6 yX6_kindsCutBy yX6_kindsCutBy, Cond.code yX6_kindsCutBy cX6_kindsCutBy 5 (some .int), Cond.methodLink RX10 145 yX10_chart, Cond.instanceMethod yX10_chart, Cond.selects RX10 yX10_chart yX10_chart, Cond.code yX10_chart cX10_chart 5 none, Cond.methodLink RX10 276 yX4_enter, Cond.instanceMethod yX4_enter]
def wsL_law_r17 : List Cond := [Cond.selects RX4 yX4_enter yX4_enter, Cond.code yX4_enter cX4_enter 8 none, Cond.constantLong RX4 40 (-1), Cond.methodLink RX4 37 yX6_leftBy, Cond.instanceMethod yX6_leftBy, Cond.selects RX6 yX6_leftBy yX6_leftBy, Cond.code yX6_leftBy cX6_leftBy 3 (some .int), Cond.static yX10_place, Cond.code yX10_place cX10_place 2 (some .int), Cond.methodLink RX4 42 yX4_hedgesWithCut, Cond.instanceMethod yX4_hedgesWithCut, Cond.selects RX4 yX4_hedgesWithCut yX4_hedgesWithCut, Cond.code yX4_hedgesWithCut cX4_hedgesWithCut 9 (some .long), Cond.constantLong RX4 50 (31), Cond.constantLong RX4 62 (2199023255551), Cond.methodLink RX4 46 yX6_kindsCutBy, Cond.methodLink RX10 280 yX1_enter, Cond.instanceMethod yX1_enter, Cond.selects RX1 yX1_enter yX1_enter, Cond.code yX1_enter cX1_enter 9 none, Cond.methodLink RX1 51 Lib.Math.max.name, Cond.methodLink RX1 56 Lib.Math.min.name, Cond.methodLink RX1 27 yX4_isWonBy, Cond.instanceMethod yX4_isWonBy]
def wsL_law_r18 : List Cond := [Cond.selects RX4 yX4_isWonBy yX4_isWonBy, Cond.code yX4_isWonBy cX4_isWonBy 3 (some .boolean), Cond.constantLong RX4 23 (1099511627776), Cond.methodLink RX1 48 yX6_leftBy, Cond.methodLink RX10 282 yX9_enter, Cond.instanceMethod yX9_enter, Cond.selects RX9 yX9_enter yX9_enter, Cond.code yX9_enter cX9_enter 4 none, Cond.methodLink RX9 19 yX9_simplestOf, Cond.instanceMethod yX9_simplestOf, Cond.selects RX9 yX9_simplestOf yX9_simplestOf, Cond.code yX9_simplestOf cX9_simplestOf 8 (some .int), Cond.constant RX9 23 (-1048576), Cond.constant RX9 24 (1048576), Cond.methodLink RX9 41 Lib.Math.max.name, Cond.methodLink RX9 46 Lib.Math.min.name, Cond.methodLink RX9 37 yX6_leftBy, Cond.methodLink RX9 49 yX9_simplestBetween, Cond.static yX9_simplestBetween, Cond.code yX9_simplestBetween cX9_simplestBetween 7 (some .int), Cond.methodLink RX10 283 yX0_enter, Cond.instanceMethod yX0_enter, Cond.selects RX0 yX0_enter yX0_enter, Cond.code yX0_enter cX0_enter 8 none]
def wsL_law_r19 : List Cond := [Cond.constantLong RX0 25 (182891520000), Cond.methodLink RX0 27 yJ6_bitCount_0f7a4, Cond.static yJ6_bitCount_0f7a4, Cond.initialized RJ6, Cond.code yJ6_bitCount_0f7a4 cJ6_bitCount_0f7a4 1 (some .int), Cond.constant RJ6 265 (1431655765), Cond.constant RJ6 266 (858993459), Cond.constant RJ6 267 (252645135), Cond.methodLink RX0 45 yX6_leftBy, Cond.methodLink RX10 148 yX10_sortsOf, Cond.instanceMethod yX10_sortsOf, Cond.selects RX10 yX10_sortsOf yX10_sortsOf, Cond.code yX10_sortsOf cX10_sortsOf 5 (some .int), Cond.methodLink RX10 284 yX4_winningKinds, Cond.instanceMethod yX4_winningKinds, Cond.selects RX4 yX4_winningKinds yX4_winningKinds, Cond.code yX4_winningKinds cX4_winningKinds 4 (some .int), Cond.methodLink RX10 152 yX10_whomToLetBegin, Cond.instanceMethod yX10_whomToLetBegin, Cond.selects RX10 yX10_whomToLetBegin yX10_whomToLetBegin, Cond.code yX10_whomToLetBegin cX10_whomToLetBegin 5 (some .int), Cond.methodLink RX10 298 yX10_mostLeft, Cond.static yX10_mostLeft, Cond.code yX10_mostLeft cX10_mostLeft 2 (some .int)]
def wsL_law_r20 : List Cond := [Cond.methodLink RX10 301 Lib.Math.max.name, Cond.methodLink RX10 164 yJ6_bitCount_0f7a4, Cond.methodLink RL 35 yX11_branch, Cond.instanceMethod yX11_branch, Cond.selects RX11 yX11_branch yX11_branch, Cond.code yX11_branch cX11_branch 3 (some .int), Cond.methodLink RX11 120 yX11_isBranch, Cond.instanceMethod yX11_isBranch, Cond.selects RX11 yX11_isBranch yX11_isBranch, Cond.code yX11_isBranch cX11_isBranch 2 (some .boolean), Cond.methodLink RX11 124 yX11_branchNow, Cond.instanceMethod yX11_branchNow, Cond.selects RX11 yX11_branchNow yX11_branchNow, Cond.code yX11_branchNow cX11_branchNow 3 (some .int), Cond.methodLink RX11 101 yX11_isIn, Cond.static yX11_isIn, Cond.code yX11_isIn cX11_isIn 2 (some .boolean), Cond.methodLink RX11 111 yX11_mayCut, Cond.instanceMethod yX11_mayCut, Cond.selects RX11 yX11_mayCut yX11_mayCut, Cond.code yX11_mayCut cX11_mayCut 4 (some .boolean), Cond.methodLink RX11 105 yX11_isBare, Cond.instanceMethod yX11_isBare, Cond.selects RX11 yX11_isBare yX11_isBare]
def wsL_law_r21 : List Cond := [Cond.code yX11_isBare cX11_isBare 5 (some .boolean), Cond.methodLink RX11 108 yX11_above, Cond.instanceMethod yX11_above, Cond.selects RX11 yX11_above yX11_above, Cond.code yX11_above cX11_above 4 (some .int), Cond.methodLink RX11 114 yX11_sortsOf, Cond.instanceMethod yX11_sortsOf, Cond.selects RX11 yX11_sortsOf yX11_sortsOf, Cond.code yX11_sortsOf cX11_sortsOf 6 (some .int), Cond.methodLink RX11 193 yX11_laySorts, Cond.instanceMethod yX11_laySorts, Cond.selects RX11 yX11_laySorts yX11_laySorts, Cond.code yX11_laySorts cX11_laySorts 4 none, Cond.methodLink RX11 138 yX11_layWinners, Cond.instanceMethod yX11_layWinners, Cond.selects RX11 yX11_layWinners yX11_layWinners, Cond.code yX11_layWinners cX11_layWinners 2 none, Cond.methodLink RX11 135 yX11_winnerFrom, Cond.instanceMethod yX11_winnerFrom, Cond.selects RX11 yX11_winnerFrom yX11_winnerFrom, Cond.code yX11_winnerFrom cX11_winnerFrom 4 (some .int), Cond.methodLink RX11 128 yX11_leaves, Cond.instanceMethod yX11_leaves, Cond.selects RX11 yX11_leaves yX11_leaves]
def wsL_law_r22 : List Cond := [Cond.code yX11_leaves cX11_leaves 3 (some .int), Cond.methodLink RX11 117 yX11_letOf, Cond.instanceMethod yX11_letOf, Cond.selects RX11 yX11_letOf yX11_letOf, Cond.code yX11_letOf cX11_letOf 3 (some .int), Cond.methodLink RX11 197 yX11_worstBy, Cond.instanceMethod yX11_worstBy, Cond.selects RX11 yX11_worstBy yX11_worstBy, Cond.code yX11_worstBy cX11_worstBy 5 (some .int), Cond.methodLink RX11 131 yX11_size, Cond.static yX11_size, Cond.code yX11_size cX11_size 3 (some .int), Cond.methodLink RL 36 yX10_as, Cond.instanceMethod yX10_as, Cond.selects RX10 yX10_as yX10_as, Cond.code yX10_as cX10_as 3 (some .int), Cond.fieldLink RX10 155 "HedgeGame" "SUCH_KINDS" "[I", Cond.methodLink RL 39 yX11_as, Cond.instanceMethod yX11_as, Cond.selects RX11 yX11_as yX11_as, Cond.code yX11_as cX11_as 4 (some .int), Cond.methodLink RL 40 yX10_cut, Cond.instanceMethod yX10_cut, Cond.selects RX10 yX10_cut yX10_cut]
def wsL_law_r23 : List Cond := [Cond.code yX10_cut cX10_cut 3 (some .int), Cond.methodLink RX10 169 yX6_leftBy, Cond.methodLink RL 43 yX11_cut, Cond.instanceMethod yX11_cut, Cond.selects RX11 yX11_cut yX11_cut, Cond.code yX11_cut cX11_cut 4 (some .int), Cond.methodLink RL 44 yX10_grow, Cond.instanceMethod yX10_grow, Cond.selects RX10 yX10_grow yX10_grow, Cond.code yX10_grow cX10_grow 2 (some .int), Cond.methodLink RX10 172 yX8_hasFooting, Cond.methodLink RL 47 yX11_grow, Cond.instanceMethod yX11_grow, Cond.selects RX11 yX11_grow yX11_grow, Cond.code yX11_grow cX11_grow 2 (some .int), Cond.methodLink RL 48 yX10_pass, Cond.instanceMethod yX10_pass, Cond.selects RX10 yX10_pass yX10_pass, Cond.code yX10_pass cX10_pass 2 (some .int), Cond.methodLink RX10 176 yX10_hasNoHedge, Cond.instanceMethod yX10_hasNoHedge, Cond.selects RX10 yX10_hasNoHedge yX10_hasNoHedge, Cond.code yX10_hasNoHedge cX10_hasNoHedge 1 (some .boolean), Cond.methodLink RL 51 yX11_pass]
def wsL_law_r24 : List Cond := [Cond.instanceMethod yX11_pass, Cond.selects RX11 yX11_pass yX11_pass, Cond.code yX11_pass cX11_pass 1 (some .int), Cond.methodLink RL 52 yX10_graft, Cond.instanceMethod yX10_graft, Cond.selects RX10 yX10_graft yX10_graft, Cond.code yX10_graft cX10_graft 4 (some .int), Cond.methodLink RL 55 yX11_graft, Cond.instanceMethod yX11_graft, Cond.selects RX11 yX11_graft yX11_graft, Cond.code yX11_graft cX11_graft 4 (some .int), Cond.methodLink RL 56 yX10_wins, Cond.instanceMethod yX10_wins, Cond.selects RX10 yX10_wins yX10_wins, Cond.code yX10_wins cX10_wins 2 (some .int), Cond.methodLink RX10 179 yX10_isNoSide, Cond.static yX10_isNoSide, Cond.code yX10_isNoSide cX10_isNoSide 1 (some .boolean), Cond.methodLink RX10 182 yX4_isWonBy, Cond.methodLink RL 59 yX11_wins, Cond.instanceMethod yX11_wins, Cond.selects RX11 yX11_wins yX11_wins, Cond.code yX11_wins cX11_wins 2 (some .int), Cond.methodLink RX11 147 yX11_refused]
def wsL_law_r25 : List Cond := [Cond.instanceMethod yX11_refused, Cond.selects RX11 yX11_refused yX11_refused, Cond.code yX11_refused cX11_refused 2 (some .int), Cond.methodLink RX11 150 yX11_winsNow, Cond.instanceMethod yX11_winsNow, Cond.selects RX11 yX11_winsNow yX11_winsNow, Cond.code yX11_winsNow cX11_winsNow 2 (some .int), Cond.methodLink RL 60 yX10_best, Cond.instanceMethod yX10_best, Cond.selects RX10 yX10_best yX10_best, Cond.code yX10_best cX10_best 2 (some .int), Cond.methodLink RX10 185 yX1_bestCut, Cond.instanceMethod yX1_bestCut, Cond.selects RX1 yX1_bestCut yX1_bestCut, Cond.code yX1_bestCut cX1_bestCut 9 (some .int), Cond.methodLink RX1 33 yX6_choices, Cond.methodLink RL 63 yX11_best, Cond.instanceMethod yX11_best, Cond.selects RX11 yX11_best yX11_best, Cond.code yX11_best cX11_best 2 (some .int), Cond.methodLink RX11 153 yX11_bestNow, Cond.instanceMethod yX11_bestNow, Cond.selects RX11 yX11_bestNow yX11_bestNow, Cond.code yX11_bestNow cX11_bestNow 6 (some .int)]
def wsL_law_r26 : List Cond := [Cond.methodLink RX11 144 yX11_layLasting, Cond.instanceMethod yX11_layLasting, Cond.selects RX11 yX11_layLasting yX11_layLasting, Cond.code yX11_layLasting cX11_layLasting 2 none, Cond.methodLink RX11 141 yX11_lastingFrom, Cond.instanceMethod yX11_lastingFrom, Cond.selects RX11 yX11_lastingFrom yX11_lastingFrom, Cond.code yX11_lastingFrom cX11_lastingFrom 9 (some .int), Cond.constant RX11 134 (1048576), Cond.methodLink RL 64 yX10_lasts, Cond.instanceMethod yX10_lasts, Cond.selects RX10 yX10_lasts yX10_lasts, Cond.code yX10_lasts cX10_lasts 2 (some .int), Cond.methodLink RX10 188 yX1_cutsFrom, Cond.instanceMethod yX1_cutsFrom, Cond.selects RX1 yX1_cutsFrom yX1_cutsFrom, Cond.code yX1_cutsFrom cX1_cutsFrom 3 (some .int), Cond.methodLink RL 67 yX11_lasts, Cond.instanceMethod yX11_lasts, Cond.selects RX11 yX11_lasts yX11_lasts, Cond.code yX11_lasts cX11_lasts 2 (some .int), Cond.methodLink RX11 156 yX11_lastsNow, Cond.instanceMethod yX11_lastsNow, Cond.selects RX11 yX11_lastsNow yX11_lastsNow]
def wsL_law_r27 : List Cond := [Cond.code yX11_lastsNow cX11_lastsNow 2 (some .int), Cond.methodLink RL 68 yX10_worth, Cond.instanceMethod yX10_worth, Cond.selects RX10 yX10_worth yX10_worth, Cond.code yX10_worth cX10_worth 1 (some .int), Cond.methodLink RX10 191 yX9_valueOf, Cond.instanceMethod yX9_valueOf, Cond.selects RX9 yX9_valueOf yX9_valueOf, Cond.code yX9_valueOf cX9_valueOf 2 (some .int), Cond.methodLink RL 71 yX11_worth, Cond.instanceMethod yX11_worth, Cond.selects RX11 yX11_worth yX11_worth, Cond.code yX11_worth cX11_worth 1 (some .int), Cond.methodLink RX11 166 yX11_layWorth, Cond.instanceMethod yX11_layWorth, Cond.selects RX11 yX11_layWorth yX11_layWorth, Cond.code yX11_layWorth cX11_layWorth 2 none, Cond.methodLink RX11 163 yX11_worthFrom, Cond.instanceMethod yX11_worthFrom, Cond.selects RX11 yX11_worthFrom yX11_worthFrom, Cond.code yX11_worthFrom cX11_worthFrom 8 (some .int), Cond.constant RX11 159 (-1048576), Cond.methodLink RX11 160 yX11_simplest, Cond.static yX11_simplest]
def wsL_law_r28 : List Cond := [Cond.code yX11_simplest cX11_simplest 5 (some .int), Cond.methodLink RL 72 yX10_tree, Cond.instanceMethod yX10_tree, Cond.selects RX10 yX10_tree yX10_tree, Cond.code yX10_tree cX10_tree 2 (some .int), Cond.methodLink RX10 194 yX8_withAllOn, Cond.methodLink RL 75 yX11_tree, Cond.instanceMethod yX11_tree, Cond.selects RX11 yX11_tree yX11_tree, Cond.code yX11_tree cX11_tree 2 (some .int), Cond.methodLink RX11 169 yX11_treeNow, Cond.instanceMethod yX11_treeNow, Cond.selects RX11 yX11_treeNow yX11_treeNow, Cond.code yX11_treeNow cX11_treeNow 2 (some .int), Cond.methodLink RL 76 yX10_even, Cond.instanceMethod yX10_even, Cond.selects RX10 yX10_even yX10_even, Cond.code yX10_even cX10_even 1 (some .int), Cond.methodLink RX10 197 yX10_evenBy, Cond.instanceMethod yX10_evenBy, Cond.selects RX10 yX10_evenBy yX10_evenBy, Cond.code yX10_evenBy cX10_evenBy 5 (some .int), Cond.methodLink RL 79 yX11_even, Cond.instanceMethod yX11_even]
def wsL_law_r29 : List Cond := [Cond.selects RX11 yX11_even yX11_even, Cond.code yX11_even cX11_even 1 (some .int), Cond.fieldLink RX11 176 "HedgeGameModel" "asks" "I", Cond.methodLink RX11 179 yX11_evenNow, Cond.instanceMethod yX11_evenNow, Cond.selects RX11 yX11_evenNow yX11_evenNow, Cond.code yX11_evenNow cX11_evenNow 5 (some .int), Cond.methodLink RX11 172 yX11_isEven, Cond.instanceMethod yX11_isEven, Cond.selects RX11 yX11_isEven yX11_isEven, Cond.code yX11_isEven cX11_isEven 1 (some .boolean), Cond.methodLink RL 80 yX10_likely, Cond.instanceMethod yX10_likely, Cond.selects RX10 yX10_likely yX10_likely, Cond.code yX10_likely cX10_likely 2 (some .int), Cond.methodLink RX10 200 yX0_millionths, Cond.instanceMethod yX0_millionths, Cond.selects RX0 yX0_millionths yX0_millionths, Cond.code yX0_millionths cX0_millionths 3 (some .int), Cond.constantLong RX0 23 (1000000), Cond.methodLink RL 83 yX11_likely, Cond.instanceMethod yX11_likely, Cond.selects RX11 yX11_likely yX11_likely, Cond.code yX11_likely cX11_likely 2 (some .int)]
def wsL_law_r30 : List Cond := [Cond.methodLink RX11 190 yX11_likelyNow, Cond.instanceMethod yX11_likelyNow, Cond.selects RX11 yX11_likelyNow yX11_likelyNow, Cond.code yX11_likelyNow cX11_likelyNow 3 (some .int), Cond.constantLong RX11 188 (1000000), Cond.constantLong RX11 182 (182891520000), Cond.methodLink RX11 184 yX11_partsFrom, Cond.instanceMethod yX11_partsFrom, Cond.selects RX11 yX11_partsFrom yX11_partsFrom, Cond.code yX11_partsFrom cX11_partsFrom 7 (some .long), Cond.methodLink RL 84 yX10_see, Cond.instanceMethod yX10_see, Cond.selects RX10 yX10_see yX10_see, Cond.code yX10_see cX10_see 4 (some .int), Cond.methodLink RX10 211 yX7_add, Cond.instanceMethod yX7_add, Cond.selects RX7 yX7_add yX7_add, Cond.code yX7_add cX7_add 4 none, Cond.methodLink RL 88 yX11_see, Cond.instanceMethod yX11_see, Cond.selects RX11 yX11_see yX11_see, Cond.code yX11_see cX11_see 4 (some .int), Cond.methodLink RL 89 yX10_forget, Cond.instanceMethod yX10_forget]
def wsL_law_r31 : List Cond := [Cond.selects RX10 yX10_forget yX10_forget, Cond.code yX10_forget cX10_forget 2 (some .int), Cond.methodLink RL 92 yX11_forget, Cond.instanceMethod yX11_forget, Cond.selects RX11 yX11_forget yX11_forget, Cond.code yX11_forget cX11_forget 2 (some .int), Cond.methodLink RL 93 yX10_games, Cond.instanceMethod yX10_games, Cond.selects RX10 yX10_games yX10_games, Cond.code yX10_games cX10_games 4 (some .int), Cond.methodLink RX10 214 yX2_playAll, Cond.instanceMethod yX2_playAll, Cond.selects RX2 yX2_playAll yX2_playAll, Cond.code yX2_playAll cX2_playAll 5 none, Cond.methodLink RX2 25 yX2_winnerOf, Cond.instanceMethod yX2_winnerOf, Cond.selects RX2 yX2_winnerOf yX2_winnerOf, Cond.code yX2_winnerOf cX2_winnerOf 7 (some .int), Cond.methodLink RX2 29 yX6_choices, Cond.methodLink RX2 34 yX2_drawFrom, Cond.instanceMethod yX2_drawFrom, Cond.selects RX2 yX2_drawFrom yX2_drawFrom, Cond.code yX2_drawFrom cX2_drawFrom 4 (some .int), Cond.methodLink RX2 41 yJ6_bitCount_0f7a4]
def wsL_law_r32 : List Cond := [Cond.methodLink RX2 46 yX2_draw, Cond.instanceMethod yX2_draw, Cond.selects RX2 yX2_draw yX2_draw, Cond.code yX2_draw cX2_draw 2 (some .int), Cond.constantLong RX2 49 (1103515245), Cond.constantLong RX2 51 (12345), Cond.constantLong RX2 53 (2147483648), Cond.constant RX2 55 (65536), Cond.methodLink RX2 38 yX6_leftBy, Cond.methodLink RL 97 yX11_games, Cond.instanceMethod yX11_games, Cond.selects RX11 yX11_games yX11_games, Cond.code yX11_games cX11_games 4 (some .int), Cond.methodLink RX11 227 yX11_gamesNow, Cond.instanceMethod yX11_gamesNow, Cond.selects RX11 yX11_gamesNow yX11_gamesNow, Cond.code yX11_gamesNow cX11_gamesNow 6 (some .int), Cond.fieldLink RX11 202 "HedgeGameModel" "seedNow" "J", Cond.fieldLink RX11 221 "HedgeGameModel" "gameCuts" "I", Cond.methodLink RX11 224 yX11_play, Cond.instanceMethod yX11_play, Cond.selects RX11 yX11_play yX11_play, Cond.code yX11_play cX11_play 5 (some .int), Cond.methodLink RX11 212 yX11_mayCuts]
def wsL_law_r33 : List Cond := [Cond.instanceMethod yX11_mayCuts, Cond.selects RX11 yX11_mayCuts yX11_mayCuts, Cond.code yX11_mayCuts cX11_mayCuts 5 (some .int), Cond.methodLink RX11 215 yX11_draw, Cond.instanceMethod yX11_draw, Cond.selects RX11 yX11_draw yX11_draw, Cond.code yX11_draw cX11_draw 2 (some .int), Cond.constantLong RX11 200 (1103515245), Cond.constantLong RX11 206 (12345), Cond.constantLong RX11 208 (2147483647), Cond.constantLong RX11 210 (65536), Cond.methodLink RX11 218 yX11_ofSet, Cond.static yX11_ofSet, Cond.code yX11_ofSet cX11_ofSet 4 (some .int), Cond.methodLink RL 98 yX10_image, Cond.instanceMethod yX10_image, Cond.selects RX10 yX10_image yX10_image, Cond.code yX10_image cX10_image 1 (some .int), Cond.methodLink RX10 227 yX3_copyFrom, Cond.instanceMethod yX3_copyFrom, Cond.selects RX3 yX3_copyFrom yX3_copyFrom, Cond.code yX3_copyFrom cX3_copyFrom 2 none, Cond.methodLink RX3 41 arraycopyName, Cond.native arraycopyName]
def wsL_law_r34 : List Cond := [Cond.static arraycopyName, Cond.initialized "java/lang/System", Cond.methodLink RX3 47 yX7_copyFrom, Cond.instanceMethod yX7_copyFrom, Cond.selects RX7 yX7_copyFrom yX7_copyFrom, Cond.code yX7_copyFrom cX7_copyFrom 3 none, Cond.methodLink RL 101 yX11_image, Cond.instanceMethod yX11_image, Cond.selects RX11 yX11_image yX11_image, Cond.code yX11_image cX11_image 2 (some .int), Cond.fieldLink RX11 231 "HedgeGameModel" "isKept" "Z", Cond.fieldLink RX11 234 "HedgeGameModel" "keptHedge" "I", Cond.fieldLink RX11 237 "HedgeGameModel" "keptStand" "I", Cond.fieldLink RX11 240 "HedgeGameModel" "keptTurn" "I", Cond.fieldLink RX11 243 "HedgeGameModel" "keptCuts" "I", Cond.fieldLink RX11 246 "HedgeGameModel" "keptSeen" "I", Cond.methodLink RL 102 yX10_restore, Cond.instanceMethod yX10_restore, Cond.selects RX10 yX10_restore yX10_restore, Cond.code yX10_restore cX10_restore 1 (some .int), Cond.methodLink RL 105 yX11_restore, Cond.instanceMethod yX11_restore, Cond.selects RX11 yX11_restore yX11_restore, Cond.code yX11_restore cX11_restore 2 (some .int)]
def wsL_law_r35 : List Cond := [Cond.methodLink RL 106 yX10_count, Cond.instanceMethod yX10_count, Cond.selects RX10 yX10_count yX10_count, Cond.code yX10_count cX10_count 2 (some .int), Cond.methodLink RX10 231 yX8_onTheGround, Cond.instanceMethod yX8_onTheGround, Cond.selects RX8 yX8_onTheGround yX8_onTheGround, Cond.code yX8_onTheGround cX8_onTheGround 3 (some .int), Cond.methodLink RL 109 yX11_count, Cond.instanceMethod yX11_count, Cond.selects RX11 yX11_count yX11_count, Cond.code yX11_count cX11_count 2 (some .int), Cond.methodLink RX11 252 yX11_howMany, Cond.instanceMethod yX11_howMany, Cond.selects RX11 yX11_howMany yX11_howMany, Cond.code yX11_howMany cX11_howMany 2 (some .int), Cond.methodLink RX11 249 yX11_onGround, Cond.instanceMethod yX11_onGround, Cond.selects RX11 yX11_onGround yX11_onGround, Cond.code yX11_onGround cX11_onGround 3 (some .int), Cond.methodLink RL 110 yX10_digest, Cond.instanceMethod yX10_digest, Cond.selects RX10 yX10_digest yX10_digest, Cond.code yX10_digest cX10_digest 5 (some .long)]
def wsL_law_r36 : List Cond := [Cond.constantLong RX10 234 (1283), Cond.constantLong RX10 236 (31), Cond.methodLink RX10 238 yX10_branch, Cond.methodLink RX10 241 yX10_digestOutlook, Cond.instanceMethod yX10_digestOutlook, Cond.selects RX10 yX10_digestOutlook yX10_digestOutlook, Cond.code yX10_digestOutlook cX10_digestOutlook 6 (some .long), Cond.methodLink RX10 252 yX10_wins, Cond.methodLink RX10 255 yX10_best, Cond.methodLink RX10 258 yX10_lasts, Cond.methodLink RX10 261 yX10_likely, Cond.methodLink RX10 264 yX10_worth, Cond.methodLink RX10 267 yX10_tree, Cond.methodLink RX10 245 yX5_at, Cond.methodLink RX10 249 yX10_count, Cond.methodLink RL 114 yX11_digest, Cond.instanceMethod yX11_digest, Cond.selects RX11 yX11_digest yX11_digest, Cond.code yX11_digest cX11_digest 3 (some .long), Cond.constantLong RX11 264 (1283), Cond.fieldLink RX11 257 "HedgeGameModel" "h" "J", Cond.methodLink RX11 260 yX11_mix, Cond.instanceMethod yX11_mix, Cond.selects RX11 yX11_mix yX11_mix]
def wsL_law_r37 : List Cond := [Cond.code yX11_mix cX11_mix 3 none, Cond.constantLong RX11 255 (31), Cond.methodLink RX11 266 yX11_mixHedge, Cond.instanceMethod yX11_mixHedge, Cond.selects RX11 yX11_mixHedge yX11_mixHedge, Cond.code yX11_mixHedge cX11_mixHedge 2 none]
def wsL_law : List Cond := (wsL_law_r1 ++ (wsL_law_r2 ++ (wsL_law_r3 ++ (wsL_law_r4 ++ (wsL_law_r5 ++ (wsL_law_r6 ++ (wsL_law_r7 ++ (wsL_law_r8 ++ (wsL_law_r9 ++ (wsL_law_r10 ++ (wsL_law_r11 ++ (wsL_law_r12 ++ (wsL_law_r13 ++ (wsL_law_r14 ++ (wsL_law_r15 ++ (wsL_law_r16 ++ (wsL_law_r17 ++ (wsL_law_r18 ++ (wsL_law_r19 ++ (wsL_law_r20 ++ (wsL_law_r21 ++ (wsL_law_r22 ++ (wsL_law_r23 ++ (wsL_law_r24 ++ (wsL_law_r25 ++ (wsL_law_r26 ++ (wsL_law_r27 ++ (wsL_law_r28 ++ (wsL_law_r29 ++ (wsL_law_r30 ++ (wsL_law_r31 ++ (wsL_law_r32 ++ (wsL_law_r33 ++ (wsL_law_r34 ++ (wsL_law_r35 ++ (wsL_law_r36 ++ wsL_law_r37)))))))))))))))))))))))))))))))))))) ++ wsX100 ++ wsX110 ++ wsX50 ++ wsX80 ++ wsX30 ++ wsX60 ++ wsX40 ++ wsX10 ++ wsX90 ++ wsX00 ++ wsX20 ++ wsX70 ++ ([] : List Cond)
end
section
abbrev vwCl : List vw_C := [(RX0, TX0, 2), (RX1, TX1, 3), (RX2, TX2, 4), (RX3, TX3, 5), (RX4, TX4, 2), (RX5, TX5, 2), (RX6, TX6, 2), (RX7, TX7, 4), (RX8, TX8, 5), (RX9, TX9, 2), (RX10, TX10, 14), (RX11, TX11, 34)]
theorem dX0_init_0 : decode cX0_init 0 = .ok (.aload_n 0, 1) := by decide +kernel
theorem dX0_init_1 : decode cX0_init 1 = .ok (.invokespecial 3, 3) := by decide +kernel
theorem dX0_init_4 : decode cX0_init 4 = .ok (.aload_n 0, 1) := by decide +kernel
theorem dX0_init_5 : decode cX0_init 5 = .ok (.sipush 512, 3) := by decide +kernel
theorem dX0_init_8 : decode cX0_init 8 = .ok (.newarray .long, 2) := by decide +kernel
theorem dX0_init_10 : decode cX0_init 10 = .ok (.putfield 9, 3) := by decide +kernel
theorem dX0_init_13 : decode cX0_init 13 = .ok (.aload_n 0, 1) := by decide +kernel
theorem dX0_init_14 : decode cX0_init 14 = .ok (.aload_n 1, 1) := by decide +kernel
theorem dX0_init_15 : decode cX0_init 15 = .ok (.putfield 15, 3) := by decide +kernel
theorem dX0_init_18 : decode cX0_init 18 = .ok (.return_, 1) := by decide +kernel
set_option maxRecDepth 20000 in
theorem ggX0_millionths_X10_place : GoodIn wsX0_millionths wsX10_place := goodIn_r _ [6] (by decide +kernel) (by decide +kernel)
set_option maxRecDepth 20000 in
theorem gX0_millionths_X10_place_n19 : GoodIn wsX0_millionths (wsX10_place) := ggX0_millionths_X10_place
theorem dX0_millionths_0 : decode cX0_millionths 0 = .ok (.aload_n 0, 1) := by decide +kernel
theorem dX0_millionths_1 : decode cX0_millionths 1 = .ok (.getfield 9, 3) := by decide +kernel
theorem dX0_millionths_4 : decode cX0_millionths 4 = .ok (.iload_n 1, 1) := by decide +kernel
theorem dX0_millionths_5 : decode cX0_millionths 5 = .ok (.iload_n 2, 1) := by decide +kernel
theorem dX0_millionths_6 : decode cX0_millionths 6 = .ok (.invokestatic 19, 3) := by decide +kernel
theorem dX0_millionths_9 : decode cX0_millionths 9 = .ok (.laload, 1) := by decide +kernel
theorem dX0_millionths_10 : decode cX0_millionths 10 = .ok (.ldc2_w 23, 3) := by decide +kernel
theorem dX0_millionths_13 : decode cX0_millionths 13 = .ok (.lmul, 1) := by decide +kernel
theorem dX0_millionths_14 : decode cX0_millionths 14 = .ok (.ldc2_w 25, 3) := by decide +kernel
theorem dX0_millionths_17 : decode cX0_millionths 17 = .ok (.ldiv, 1) := by decide +kernel
theorem dX0_millionths_18 : decode cX0_millionths 18 = .ok (.l2i, 1) := by decide +kernel
theorem dX0_millionths_19 : decode cX0_millionths 19 = .ok (.ireturn, 1) := by decide +kernel
set_option maxRecDepth 20000 in
theorem ggX0_enter_J6_bitCount_0f7a4 : GoodIn wsX0_enter wsJ6_bitCount_0f7a4 := goodIn_r _ [7, 8, 9, 10] (by decide +kernel) (by decide +kernel)
set_option maxRecDepth 20000 in
theorem gX0_enter_J6_bitCount_0f7a4 : GoodIn wsX0_enter (va_wsS RX0 27 yJ6_bitCount_0f7a4 wsJ6_bitCount_0f7a4) := goodIn_app (goodIn_of _ (by decide +kernel)) ggX0_enter_J6_bitCount_0f7a4
set_option maxRecDepth 20000 in
theorem ggX0_enter_X10_place : GoodIn wsX0_enter wsX10_place := goodIn_r _ [13] (by decide +kernel) (by decide +kernel)
set_option maxRecDepth 20000 in
theorem gX0_enter_X10_place_n19 : GoodIn wsX0_enter (wsX10_place) := ggX0_enter_X10_place
set_option maxRecDepth 20000 in
theorem ggX0_enter_X6_leftBy : GoodIn wsX0_enter wsX6_leftBy := goodIn_r _ [18, 19, 22, 23, 24, 25, 26, 27, 28] (by decide +kernel) (by decide +kernel)
set_option maxRecDepth 20000 in
theorem gX0_enter_X6_leftBy : GoodIn wsX0_enter (wsV RX0 45 RX6 yX6_leftBy wsX6_leftBy) := goodIn_app (goodIn_of _ (by decide +kernel)) ggX0_enter_X6_leftBy
theorem dX0_enter_0 : decode cX0_enter 0 = .ok (.iload_n 3, 1) := by decide +kernel
theorem dX0_enter_1 : decode cX0_enter 1 = .ok (.invokestatic 27, 3) := by decide +kernel
theorem dX0_enter_4 : decode cX0_enter 4 = .ok (.istore 4, 2) := by decide +kernel
theorem dX0_enter_6 : decode cX0_enter 6 = .ok (.iload 4, 2) := by decide +kernel
theorem dX0_enter_8 : decode cX0_enter 8 = .ok (.ifCond .ne 26, 3) := by decide +kernel
theorem dX0_enter_11 : decode cX0_enter 11 = .ok (.aload_n 0, 1) := by decide +kernel
theorem dX0_enter_12 : decode cX0_enter 12 = .ok (.getfield 9, 3) := by decide +kernel
theorem dX0_enter_15 : decode cX0_enter 15 = .ok (.iload_n 1, 1) := by decide +kernel
theorem dX0_enter_16 : decode cX0_enter 16 = .ok (.iload_n 2, 1) := by decide +kernel
theorem dX0_enter_17 : decode cX0_enter 17 = .ok (.invokestatic 19, 3) := by decide +kernel
theorem dX0_enter_20 : decode cX0_enter 20 = .ok (.iload_n 1, 1) := by decide +kernel
theorem dX0_enter_21 : decode cX0_enter 21 = .ok (.iconst 1, 1) := by decide +kernel
theorem dX0_enter_22 : decode cX0_enter 22 = .ok (.if_icmp .ne 9, 3) := by decide +kernel
theorem dX0_enter_25 : decode cX0_enter 25 = .ok (.ldc2_w 25, 3) := by decide +kernel
theorem dX0_enter_28 : decode cX0_enter 28 = .ok (.goto 4, 3) := by decide +kernel
theorem dX0_enter_31 : decode cX0_enter 31 = .ok (.lconst 0, 1) := by decide +kernel
theorem dX0_enter_32 : decode cX0_enter 32 = .ok (.lastore, 1) := by decide +kernel
theorem dX0_enter_33 : decode cX0_enter 33 = .ok (.return_, 1) := by decide +kernel
theorem dX0_enter_34 : decode cX0_enter 34 = .ok (.lconst 0, 1) := by decide +kernel
theorem dX0_enter_35 : decode cX0_enter 35 = .ok (.lstore 5, 2) := by decide +kernel
theorem dX0_enter_37 : decode cX0_enter 37 = .ok (.iconst 0, 1) := by decide +kernel
theorem dX0_enter_38 : decode cX0_enter 38 = .ok (.istore 7, 2) := by decide +kernel
theorem dX0_enter_40 : decode cX0_enter 40 = .ok (.iload 7, 2) := by decide +kernel
theorem dX0_enter_42 : decode cX0_enter 42 = .ok (.aload_n 0, 1) := by decide +kernel
theorem dX0_enter_43 : decode cX0_enter 43 = .ok (.getfield 15, 3) := by decide +kernel
theorem dX0_enter_46 : decode cX0_enter 46 = .ok (.getfield 33, 3) := by decide +kernel
theorem dX0_enter_49 : decode cX0_enter 49 = .ok (.getfield 39, 3) := by decide +kernel
theorem dX0_enter_52 : decode cX0_enter 52 = .ok (.if_icmp .ge 44, 3) := by decide +kernel
theorem dX0_enter_55 : decode cX0_enter 55 = .ok (.iload_n 3, 1) := by decide +kernel
theorem dX0_enter_56 : decode cX0_enter 56 = .ok (.iload 7, 2) := by decide +kernel
theorem dX0_enter_58 : decode cX0_enter 58 = .ok (.ishr, 1) := by decide +kernel
theorem dX0_enter_59 : decode cX0_enter 59 = .ok (.iconst 1, 1) := by decide +kernel
theorem dX0_enter_60 : decode cX0_enter 60 = .ok (.iand, 1) := by decide +kernel
theorem dX0_enter_61 : decode cX0_enter 61 = .ok (.ifCond .eq 29, 3) := by decide +kernel
theorem dX0_enter_64 : decode cX0_enter 64 = .ok (.lload 5, 2) := by decide +kernel
theorem dX0_enter_66 : decode cX0_enter 66 = .ok (.aload_n 0, 1) := by decide +kernel
theorem dX0_enter_67 : decode cX0_enter 67 = .ok (.getfield 9, 3) := by decide +kernel
theorem dX0_enter_70 : decode cX0_enter 70 = .ok (.iconst 1, 1) := by decide +kernel
theorem dX0_enter_71 : decode cX0_enter 71 = .ok (.iload_n 1, 1) := by decide +kernel
theorem dX0_enter_72 : decode cX0_enter 72 = .ok (.isub, 1) := by decide +kernel
theorem dX0_enter_73 : decode cX0_enter 73 = .ok (.aload_n 0, 1) := by decide +kernel
theorem dX0_enter_74 : decode cX0_enter 74 = .ok (.getfield 15, 3) := by decide +kernel
theorem dX0_enter_77 : decode cX0_enter 77 = .ok (.iload 7, 2) := by decide +kernel
theorem dX0_enter_79 : decode cX0_enter 79 = .ok (.iload_n 2, 1) := by decide +kernel
theorem dX0_enter_80 : decode cX0_enter 80 = .ok (.invokevirtual 45, 3) := by decide +kernel
theorem dX0_enter_83 : decode cX0_enter 83 = .ok (.invokestatic 19, 3) := by decide +kernel
theorem dX0_enter_86 : decode cX0_enter 86 = .ok (.laload, 1) := by decide +kernel
theorem dX0_enter_87 : decode cX0_enter 87 = .ok (.ladd, 1) := by decide +kernel
theorem dX0_enter_88 : decode cX0_enter 88 = .ok (.lstore 5, 2) := by decide +kernel
theorem dX0_enter_90 : decode cX0_enter 90 = .ok (.iinc 7 1, 3) := by decide +kernel
theorem dX0_enter_93 : decode cX0_enter 93 = .ok (.goto (-53), 3) := by decide +kernel
theorem dX0_enter_96 : decode cX0_enter 96 = .ok (.aload_n 0, 1) := by decide +kernel
theorem dX0_enter_97 : decode cX0_enter 97 = .ok (.getfield 9, 3) := by decide +kernel
theorem dX0_enter_100 : decode cX0_enter 100 = .ok (.iload_n 1, 1) := by decide +kernel
theorem dX0_enter_101 : decode cX0_enter 101 = .ok (.iload_n 2, 1) := by decide +kernel
theorem dX0_enter_102 : decode cX0_enter 102 = .ok (.invokestatic 19, 3) := by decide +kernel
theorem dX0_enter_105 : decode cX0_enter 105 = .ok (.lload 5, 2) := by decide +kernel
theorem dX0_enter_107 : decode cX0_enter 107 = .ok (.iload 4, 2) := by decide +kernel
theorem dX0_enter_109 : decode cX0_enter 109 = .ok (.i2l, 1) := by decide +kernel
theorem dX0_enter_110 : decode cX0_enter 110 = .ok (.ldiv, 1) := by decide +kernel
theorem dX0_enter_111 : decode cX0_enter 111 = .ok (.lastore, 1) := by decide +kernel
theorem dX0_enter_112 : decode cX0_enter 112 = .ok (.return_, 1) := by decide +kernel
theorem dX1_init_0 : decode cX1_init 0 = .ok (.aload_n 0, 1) := by decide +kernel
theorem dX1_init_1 : decode cX1_init 1 = .ok (.invokespecial 3, 3) := by decide +kernel
theorem dX1_init_4 : decode cX1_init 4 = .ok (.aload_n 0, 1) := by decide +kernel
theorem dX1_init_5 : decode cX1_init 5 = .ok (.sipush 512, 3) := by decide +kernel
theorem dX1_init_8 : decode cX1_init 8 = .ok (.newarray .int, 2) := by decide +kernel
theorem dX1_init_10 : decode cX1_init 10 = .ok (.putfield 9, 3) := by decide +kernel
theorem dX1_init_13 : decode cX1_init 13 = .ok (.aload_n 0, 1) := by decide +kernel
theorem dX1_init_14 : decode cX1_init 14 = .ok (.aload_n 1, 1) := by decide +kernel
theorem dX1_init_15 : decode cX1_init 15 = .ok (.putfield 15, 3) := by decide +kernel
theorem dX1_init_18 : decode cX1_init 18 = .ok (.aload_n 0, 1) := by decide +kernel
theorem dX1_init_19 : decode cX1_init 19 = .ok (.aload_n 2, 1) := by decide +kernel
theorem dX1_init_20 : decode cX1_init 20 = .ok (.putfield 19, 3) := by decide +kernel
theorem dX1_init_23 : decode cX1_init 23 = .ok (.return_, 1) := by decide +kernel
set_option maxRecDepth 20000 in
theorem ggX1_cutsFrom_X10_place : GoodIn wsX1_cutsFrom wsX10_place := goodIn_r _ [4] (by decide +kernel) (by decide +kernel)
set_option maxRecDepth 20000 in
theorem gX1_cutsFrom_X10_place_n23 : GoodIn wsX1_cutsFrom (wsX10_place) := ggX1_cutsFrom_X10_place
theorem dX1_cutsFrom_0 : decode cX1_cutsFrom 0 = .ok (.aload_n 0, 1) := by decide +kernel
theorem dX1_cutsFrom_1 : decode cX1_cutsFrom 1 = .ok (.getfield 9, 3) := by decide +kernel
theorem dX1_cutsFrom_4 : decode cX1_cutsFrom 4 = .ok (.iload_n 1, 1) := by decide +kernel
theorem dX1_cutsFrom_5 : decode cX1_cutsFrom 5 = .ok (.iload_n 2, 1) := by decide +kernel
theorem dX1_cutsFrom_6 : decode cX1_cutsFrom 6 = .ok (.invokestatic 23, 3) := by decide +kernel
theorem dX1_cutsFrom_9 : decode cX1_cutsFrom 9 = .ok (.iaload, 1) := by decide +kernel
theorem dX1_cutsFrom_10 : decode cX1_cutsFrom 10 = .ok (.ireturn, 1) := by decide +kernel
set_option maxRecDepth 20000 in
theorem ggX1_bestCut_X4_isWonBy : GoodIn wsX1_bestCut wsX4_isWonBy := goodIn_r _ [8, 9, 10, 11, 12, 13, 39, 40] (by decide +kernel) (by decide +kernel)
set_option maxRecDepth 20000 in
theorem gX1_bestCut_X4_isWonBy : GoodIn wsX1_bestCut (wsV RX1 27 RX4 yX4_isWonBy wsX4_isWonBy) := goodIn_app (goodIn_of _ (by decide +kernel)) ggX1_bestCut_X4_isWonBy
set_option maxRecDepth 20000 in
theorem ggX1_bestCut_X6_choices : GoodIn wsX1_bestCut wsX6_choices := goodIn_r _ [18, 19, 20, 21, 22, 23, 17, 24, 32, 33, 34, 35, 36, 37, 38, 41, 42, 43, 44, 45] (by decide +kernel) (by decide +kernel)
set_option maxRecDepth 20000 in
theorem gX1_bestCut_X6_choices : GoodIn wsX1_bestCut (wsV RX1 33 RX6 yX6_choices wsX6_choices) := goodIn_app (goodIn_of _ (by decide +kernel)) ggX1_bestCut_X6_choices
set_option maxRecDepth 20000 in
theorem ggX1_bestCut_X6_leftBy : GoodIn wsX1_bestCut wsX6_leftBy := goodIn_r _ [28, 19, 32, 33, 34, 35, 36, 37, 38] (by decide +kernel) (by decide +kernel)
set_option maxRecDepth 20000 in
theorem gX1_bestCut_X6_leftBy : GoodIn wsX1_bestCut (wsV RX1 48 RX6 yX6_leftBy wsX6_leftBy) := goodIn_app (goodIn_of _ (by decide +kernel)) ggX1_bestCut_X6_leftBy
set_option maxRecDepth 20000 in
theorem ggX1_bestCut_X10_place : GoodIn wsX1_bestCut wsX10_place := goodIn_r _ [13] (by decide +kernel) (by decide +kernel)
set_option maxRecDepth 20000 in
theorem gX1_bestCut_X10_place_n23 : GoodIn wsX1_bestCut (wsX10_place) := ggX1_bestCut_X10_place
theorem dX1_bestCut_0 : decode cX1_bestCut 0 = .ok (.aload_n 0, 1) := by decide +kernel
theorem dX1_bestCut_1 : decode cX1_bestCut 1 = .ok (.getfield 19, 3) := by decide +kernel
theorem dX1_bestCut_4 : decode cX1_bestCut 4 = .ok (.iload_n 1, 1) := by decide +kernel
theorem dX1_bestCut_5 : decode cX1_bestCut 5 = .ok (.iload_n 2, 1) := by decide +kernel
theorem dX1_bestCut_6 : decode cX1_bestCut 6 = .ok (.invokevirtual 27, 3) := by decide +kernel
theorem dX1_bestCut_9 : decode cX1_bestCut 9 = .ok (.istore_n 3, 1) := by decide +kernel
theorem dX1_bestCut_10 : decode cX1_bestCut 10 = .ok (.aload_n 0, 1) := by decide +kernel
theorem dX1_bestCut_11 : decode cX1_bestCut 11 = .ok (.getfield 15, 3) := by decide +kernel
theorem dX1_bestCut_14 : decode cX1_bestCut 14 = .ok (.iload_n 1, 1) := by decide +kernel
theorem dX1_bestCut_15 : decode cX1_bestCut 15 = .ok (.iload_n 2, 1) := by decide +kernel
theorem dX1_bestCut_16 : decode cX1_bestCut 16 = .ok (.invokevirtual 33, 3) := by decide +kernel
theorem dX1_bestCut_19 : decode cX1_bestCut 19 = .ok (.istore 4, 2) := by decide +kernel
theorem dX1_bestCut_21 : decode cX1_bestCut 21 = .ok (.iconst (-1), 1) := by decide +kernel
theorem dX1_bestCut_22 : decode cX1_bestCut 22 = .ok (.istore 5, 2) := by decide +kernel
theorem dX1_bestCut_24 : decode cX1_bestCut 24 = .ok (.iconst (-1), 1) := by decide +kernel
theorem dX1_bestCut_25 : decode cX1_bestCut 25 = .ok (.istore 6, 2) := by decide +kernel
theorem dX1_bestCut_27 : decode cX1_bestCut 27 = .ok (.iconst 0, 1) := by decide +kernel
theorem dX1_bestCut_28 : decode cX1_bestCut 28 = .ok (.istore 7, 2) := by decide +kernel
theorem dX1_bestCut_30 : decode cX1_bestCut 30 = .ok (.iload 7, 2) := by decide +kernel
theorem dX1_bestCut_32 : decode cX1_bestCut 32 = .ok (.aload_n 0, 1) := by decide +kernel
theorem dX1_bestCut_33 : decode cX1_bestCut 33 = .ok (.getfield 15, 3) := by decide +kernel
theorem dX1_bestCut_36 : decode cX1_bestCut 36 = .ok (.getfield 38, 3) := by decide +kernel
theorem dX1_bestCut_39 : decode cX1_bestCut 39 = .ok (.getfield 42, 3) := by decide +kernel
theorem dX1_bestCut_42 : decode cX1_bestCut 42 = .ok (.if_icmp .ge 90, 3) := by decide +kernel
theorem dX1_bestCut_45 : decode cX1_bestCut 45 = .ok (.iload 4, 2) := by decide +kernel
theorem dX1_bestCut_47 : decode cX1_bestCut 47 = .ok (.iload 7, 2) := by decide +kernel
theorem dX1_bestCut_49 : decode cX1_bestCut 49 = .ok (.ishr, 1) := by decide +kernel
theorem dX1_bestCut_50 : decode cX1_bestCut 50 = .ok (.iconst 1, 1) := by decide +kernel
theorem dX1_bestCut_51 : decode cX1_bestCut 51 = .ok (.iand, 1) := by decide +kernel
theorem dX1_bestCut_52 : decode cX1_bestCut 52 = .ok (.ifCond .eq 74, 3) := by decide +kernel
theorem dX1_bestCut_55 : decode cX1_bestCut 55 = .ok (.aload_n 0, 1) := by decide +kernel
theorem dX1_bestCut_56 : decode cX1_bestCut 56 = .ok (.getfield 15, 3) := by decide +kernel
theorem dX1_bestCut_59 : decode cX1_bestCut 59 = .ok (.iload 7, 2) := by decide +kernel
theorem dX1_bestCut_61 : decode cX1_bestCut 61 = .ok (.iload_n 2, 1) := by decide +kernel
theorem dX1_bestCut_62 : decode cX1_bestCut 62 = .ok (.invokevirtual 48, 3) := by decide +kernel
theorem dX1_bestCut_65 : decode cX1_bestCut 65 = .ok (.istore 8, 2) := by decide +kernel
theorem dX1_bestCut_67 : decode cX1_bestCut 67 = .ok (.iload_n 3, 1) := by decide +kernel
theorem dX1_bestCut_68 : decode cX1_bestCut 68 = .ok (.ifCond .eq 21, 3) := by decide +kernel
theorem dX1_bestCut_71 : decode cX1_bestCut 71 = .ok (.aload_n 0, 1) := by decide +kernel
theorem dX1_bestCut_72 : decode cX1_bestCut 72 = .ok (.getfield 19, 3) := by decide +kernel
theorem dX1_bestCut_75 : decode cX1_bestCut 75 = .ok (.iconst 1, 1) := by decide +kernel
theorem dX1_bestCut_76 : decode cX1_bestCut 76 = .ok (.iload_n 1, 1) := by decide +kernel
theorem dX1_bestCut_77 : decode cX1_bestCut 77 = .ok (.isub, 1) := by decide +kernel
theorem dX1_bestCut_78 : decode cX1_bestCut 78 = .ok (.iload 8, 2) := by decide +kernel
theorem dX1_bestCut_80 : decode cX1_bestCut 80 = .ok (.invokevirtual 27, 3) := by decide +kernel
theorem dX1_bestCut_83 : decode cX1_bestCut 83 = .ok (.ifCond .ne 6, 3) := by decide +kernel
theorem dX1_bestCut_86 : decode cX1_bestCut 86 = .ok (.iload 7, 2) := by decide +kernel
theorem dX1_bestCut_88 : decode cX1_bestCut 88 = .ok (.ireturn, 1) := by decide +kernel
theorem dX1_bestCut_89 : decode cX1_bestCut 89 = .ok (.aload_n 0, 1) := by decide +kernel
theorem dX1_bestCut_90 : decode cX1_bestCut 90 = .ok (.getfield 9, 3) := by decide +kernel
theorem dX1_bestCut_93 : decode cX1_bestCut 93 = .ok (.iconst 1, 1) := by decide +kernel
theorem dX1_bestCut_94 : decode cX1_bestCut 94 = .ok (.iload_n 1, 1) := by decide +kernel
theorem dX1_bestCut_95 : decode cX1_bestCut 95 = .ok (.isub, 1) := by decide +kernel
theorem dX1_bestCut_96 : decode cX1_bestCut 96 = .ok (.iload 8, 2) := by decide +kernel
theorem dX1_bestCut_98 : decode cX1_bestCut 98 = .ok (.invokestatic 23, 3) := by decide +kernel
theorem dX1_bestCut_101 : decode cX1_bestCut 101 = .ok (.iaload, 1) := by decide +kernel
theorem dX1_bestCut_102 : decode cX1_bestCut 102 = .ok (.iload 6, 2) := by decide +kernel
theorem dX1_bestCut_104 : decode cX1_bestCut 104 = .ok (.if_icmp .le 22, 3) := by decide +kernel
theorem dX1_bestCut_107 : decode cX1_bestCut 107 = .ok (.aload_n 0, 1) := by decide +kernel
theorem dX1_bestCut_108 : decode cX1_bestCut 108 = .ok (.getfield 9, 3) := by decide +kernel
theorem dX1_bestCut_111 : decode cX1_bestCut 111 = .ok (.iconst 1, 1) := by decide +kernel
theorem dX1_bestCut_112 : decode cX1_bestCut 112 = .ok (.iload_n 1, 1) := by decide +kernel
theorem dX1_bestCut_113 : decode cX1_bestCut 113 = .ok (.isub, 1) := by decide +kernel
theorem dX1_bestCut_114 : decode cX1_bestCut 114 = .ok (.iload 8, 2) := by decide +kernel
theorem dX1_bestCut_116 : decode cX1_bestCut 116 = .ok (.invokestatic 23, 3) := by decide +kernel
theorem dX1_bestCut_119 : decode cX1_bestCut 119 = .ok (.iaload, 1) := by decide +kernel
theorem dX1_bestCut_120 : decode cX1_bestCut 120 = .ok (.istore 6, 2) := by decide +kernel
theorem dX1_bestCut_122 : decode cX1_bestCut 122 = .ok (.iload 7, 2) := by decide +kernel
theorem dX1_bestCut_124 : decode cX1_bestCut 124 = .ok (.istore 5, 2) := by decide +kernel
theorem dX1_bestCut_126 : decode cX1_bestCut 126 = .ok (.iinc 7 1, 3) := by decide +kernel
theorem dX1_bestCut_129 : decode cX1_bestCut 129 = .ok (.goto (-99), 3) := by decide +kernel
theorem dX1_bestCut_132 : decode cX1_bestCut 132 = .ok (.iload 5, 2) := by decide +kernel
theorem dX1_bestCut_134 : decode cX1_bestCut 134 = .ok (.ireturn, 1) := by decide +kernel
set_option maxRecDepth 20000 in
theorem ggX1_enter_X4_isWonBy : GoodIn wsX1_enter wsX4_isWonBy := goodIn_r _ [15, 16, 17, 18, 19, 20, 37, 38] (by decide +kernel) (by decide +kernel)
set_option maxRecDepth 20000 in
theorem gX1_enter_X4_isWonBy : GoodIn wsX1_enter (wsV RX1 27 RX4 yX4_isWonBy wsX4_isWonBy) := goodIn_app (goodIn_of _ (by decide +kernel)) ggX1_enter_X4_isWonBy
set_option maxRecDepth 20000 in
theorem ggX1_enter_X6_leftBy : GoodIn wsX1_enter wsX6_leftBy := goodIn_r _ [25, 26, 30, 31, 32, 33, 34, 35, 36] (by decide +kernel) (by decide +kernel)
set_option maxRecDepth 20000 in
theorem gX1_enter_X6_leftBy : GoodIn wsX1_enter (wsV RX1 48 RX6 yX6_leftBy wsX6_leftBy) := goodIn_app (goodIn_of _ (by decide +kernel)) ggX1_enter_X6_leftBy
set_option maxRecDepth 20000 in
theorem ggX1_enter_X10_place : GoodIn wsX1_enter wsX10_place := goodIn_r _ [20] (by decide +kernel) (by decide +kernel)
set_option maxRecDepth 20000 in
theorem gX1_enter_X10_place_n23 : GoodIn wsX1_enter (wsX10_place) := ggX1_enter_X10_place
theorem dX1_enter_0 : decode cX1_enter 0 = .ok (.aload_n 0, 1) := by decide +kernel
theorem dX1_enter_1 : decode cX1_enter 1 = .ok (.getfield 19, 3) := by decide +kernel
theorem dX1_enter_4 : decode cX1_enter 4 = .ok (.iload_n 1, 1) := by decide +kernel
theorem dX1_enter_5 : decode cX1_enter 5 = .ok (.iload_n 2, 1) := by decide +kernel
theorem dX1_enter_6 : decode cX1_enter 6 = .ok (.invokevirtual 27, 3) := by decide +kernel
theorem dX1_enter_9 : decode cX1_enter 9 = .ok (.istore 4, 2) := by decide +kernel
theorem dX1_enter_11 : decode cX1_enter 11 = .ok (.iconst 0, 1) := by decide +kernel
theorem dX1_enter_12 : decode cX1_enter 12 = .ok (.istore 5, 2) := by decide +kernel
theorem dX1_enter_14 : decode cX1_enter 14 = .ok (.iconst 0, 1) := by decide +kernel
theorem dX1_enter_15 : decode cX1_enter 15 = .ok (.istore 6, 2) := by decide +kernel
theorem dX1_enter_17 : decode cX1_enter 17 = .ok (.iload 6, 2) := by decide +kernel
theorem dX1_enter_19 : decode cX1_enter 19 = .ok (.aload_n 0, 1) := by decide +kernel
theorem dX1_enter_20 : decode cX1_enter 20 = .ok (.getfield 15, 3) := by decide +kernel
theorem dX1_enter_23 : decode cX1_enter 23 = .ok (.getfield 38, 3) := by decide +kernel
theorem dX1_enter_26 : decode cX1_enter 26 = .ok (.getfield 42, 3) := by decide +kernel
theorem dX1_enter_29 : decode cX1_enter 29 = .ok (.if_icmp .ge 98, 3) := by decide +kernel
theorem dX1_enter_32 : decode cX1_enter 32 = .ok (.iload_n 3, 1) := by decide +kernel
theorem dX1_enter_33 : decode cX1_enter 33 = .ok (.iload 6, 2) := by decide +kernel
theorem dX1_enter_35 : decode cX1_enter 35 = .ok (.ishr, 1) := by decide +kernel
theorem dX1_enter_36 : decode cX1_enter 36 = .ok (.iconst 1, 1) := by decide +kernel
theorem dX1_enter_37 : decode cX1_enter 37 = .ok (.iand, 1) := by decide +kernel
theorem dX1_enter_38 : decode cX1_enter 38 = .ok (.ifCond .eq 83, 3) := by decide +kernel
theorem dX1_enter_41 : decode cX1_enter 41 = .ok (.aload_n 0, 1) := by decide +kernel
theorem dX1_enter_42 : decode cX1_enter 42 = .ok (.getfield 15, 3) := by decide +kernel
theorem dX1_enter_45 : decode cX1_enter 45 = .ok (.iload 6, 2) := by decide +kernel
theorem dX1_enter_47 : decode cX1_enter 47 = .ok (.iload_n 2, 1) := by decide +kernel
theorem dX1_enter_48 : decode cX1_enter 48 = .ok (.invokevirtual 48, 3) := by decide +kernel
theorem dX1_enter_51 : decode cX1_enter 51 = .ok (.istore 7, 2) := by decide +kernel
theorem dX1_enter_53 : decode cX1_enter 53 = .ok (.iconst 1, 1) := by decide +kernel
theorem dX1_enter_54 : decode cX1_enter 54 = .ok (.aload_n 0, 1) := by decide +kernel
theorem dX1_enter_55 : decode cX1_enter 55 = .ok (.getfield 9, 3) := by decide +kernel
theorem dX1_enter_58 : decode cX1_enter 58 = .ok (.iconst 1, 1) := by decide +kernel
theorem dX1_enter_59 : decode cX1_enter 59 = .ok (.iload_n 1, 1) := by decide +kernel
theorem dX1_enter_60 : decode cX1_enter 60 = .ok (.isub, 1) := by decide +kernel
theorem dX1_enter_61 : decode cX1_enter 61 = .ok (.iload 7, 2) := by decide +kernel
theorem dX1_enter_63 : decode cX1_enter 63 = .ok (.invokestatic 23, 3) := by decide +kernel
theorem dX1_enter_66 : decode cX1_enter 66 = .ok (.iaload, 1) := by decide +kernel
theorem dX1_enter_67 : decode cX1_enter 67 = .ok (.iadd, 1) := by decide +kernel
theorem dX1_enter_68 : decode cX1_enter 68 = .ok (.istore 8, 2) := by decide +kernel
theorem dX1_enter_70 : decode cX1_enter 70 = .ok (.iload 4, 2) := by decide +kernel
theorem dX1_enter_72 : decode cX1_enter 72 = .ok (.ifCond .ne 15, 3) := by decide +kernel
theorem dX1_enter_75 : decode cX1_enter 75 = .ok (.iload 5, 2) := by decide +kernel
theorem dX1_enter_77 : decode cX1_enter 77 = .ok (.iload 8, 2) := by decide +kernel
theorem dX1_enter_79 : decode cX1_enter 79 = .ok (.invokestatic 51, 3) := by decide +kernel
theorem dX1_enter_82 : decode cX1_enter 82 = .ok (.istore 5, 2) := by decide +kernel
theorem dX1_enter_84 : decode cX1_enter 84 = .ok (.goto 37, 3) := by decide +kernel
theorem dX1_enter_87 : decode cX1_enter 87 = .ok (.aload_n 0, 1) := by decide +kernel
theorem dX1_enter_88 : decode cX1_enter 88 = .ok (.getfield 19, 3) := by decide +kernel
theorem dX1_enter_91 : decode cX1_enter 91 = .ok (.iconst 1, 1) := by decide +kernel
theorem dX1_enter_92 : decode cX1_enter 92 = .ok (.iload_n 1, 1) := by decide +kernel
theorem dX1_enter_93 : decode cX1_enter 93 = .ok (.isub, 1) := by decide +kernel
theorem dX1_enter_94 : decode cX1_enter 94 = .ok (.iload 7, 2) := by decide +kernel
theorem dX1_enter_96 : decode cX1_enter 96 = .ok (.invokevirtual 27, 3) := by decide +kernel
theorem dX1_enter_99 : decode cX1_enter 99 = .ok (.ifCond .ne 22, 3) := by decide +kernel
theorem dX1_enter_102 : decode cX1_enter 102 = .ok (.iload 5, 2) := by decide +kernel
theorem dX1_enter_104 : decode cX1_enter 104 = .ok (.ifCond .ne 8, 3) := by decide +kernel
theorem dX1_enter_107 : decode cX1_enter 107 = .ok (.iload 8, 2) := by decide +kernel
theorem dX1_enter_109 : decode cX1_enter 109 = .ok (.goto 10, 3) := by decide +kernel
theorem dX1_enter_112 : decode cX1_enter 112 = .ok (.iload 5, 2) := by decide +kernel
theorem dX1_enter_114 : decode cX1_enter 114 = .ok (.iload 8, 2) := by decide +kernel
theorem dX1_enter_116 : decode cX1_enter 116 = .ok (.invokestatic 56, 3) := by decide +kernel
theorem dX1_enter_119 : decode cX1_enter 119 = .ok (.istore 5, 2) := by decide +kernel
theorem dX1_enter_121 : decode cX1_enter 121 = .ok (.iinc 6 1, 3) := by decide +kernel
theorem dX1_enter_124 : decode cX1_enter 124 = .ok (.goto (-107), 3) := by decide +kernel
theorem dX1_enter_127 : decode cX1_enter 127 = .ok (.aload_n 0, 1) := by decide +kernel
theorem dX1_enter_128 : decode cX1_enter 128 = .ok (.getfield 9, 3) := by decide +kernel
theorem dX1_enter_131 : decode cX1_enter 131 = .ok (.iload_n 1, 1) := by decide +kernel
theorem dX1_enter_132 : decode cX1_enter 132 = .ok (.iload_n 2, 1) := by decide +kernel
theorem dX1_enter_133 : decode cX1_enter 133 = .ok (.invokestatic 23, 3) := by decide +kernel
theorem dX1_enter_136 : decode cX1_enter 136 = .ok (.iload 5, 2) := by decide +kernel
theorem dX1_enter_138 : decode cX1_enter 138 = .ok (.iastore, 1) := by decide +kernel
theorem dX1_enter_139 : decode cX1_enter 139 = .ok (.return_, 1) := by decide +kernel
theorem dX2_init_0 : decode cX2_init 0 = .ok (.aload_n 0, 1) := by decide +kernel
theorem dX2_init_1 : decode cX2_init 1 = .ok (.invokespecial 3, 3) := by decide +kernel
theorem dX2_init_4 : decode cX2_init 4 = .ok (.aload_n 0, 1) := by decide +kernel
theorem dX2_init_5 : decode cX2_init 5 = .ok (.iconst 0, 1) := by decide +kernel
theorem dX2_init_6 : decode cX2_init 6 = .ok (.putfield 9, 3) := by decide +kernel
theorem dX2_init_9 : decode cX2_init 9 = .ok (.aload_n 0, 1) := by decide +kernel
theorem dX2_init_10 : decode cX2_init 10 = .ok (.iconst 0, 1) := by decide +kernel
theorem dX2_init_11 : decode cX2_init 11 = .ok (.putfield 15, 3) := by decide +kernel
theorem dX2_init_14 : decode cX2_init 14 = .ok (.aload_n 0, 1) := by decide +kernel
theorem dX2_init_15 : decode cX2_init 15 = .ok (.iconst 0, 1) := by decide +kernel
theorem dX2_init_16 : decode cX2_init 16 = .ok (.putfield 18, 3) := by decide +kernel
theorem dX2_init_19 : decode cX2_init 19 = .ok (.aload_n 0, 1) := by decide +kernel
theorem dX2_init_20 : decode cX2_init 20 = .ok (.aload_n 1, 1) := by decide +kernel
theorem dX2_init_21 : decode cX2_init 21 = .ok (.putfield 21, 3) := by decide +kernel
theorem dX2_init_24 : decode cX2_init 24 = .ok (.return_, 1) := by decide +kernel
set_option maxRecDepth 20000 in
theorem ggX2_playAll_X2_winnerOf : GoodIn wsX2_playAll wsX2_winnerOf := goodIn_r _ [8, 9, 3, 10, 11, 12, 13, 14, 15, 16, 17, 18, 19, 20, 21, 22, 23, 7, 24, 25, 26, 27, 28, 29, 30, 31, 32, 33, 34, 35, 36, 1, 37, 38, 39, 40, 41, 42, 43, 44, 45, 46, 47, 48, 49, 50, 51, 52, 53, 54, 55, 56, 57, 58, 59] (by decide +kernel) (by decide +kernel)
set_option maxRecDepth 20000 in
theorem gX2_playAll_X2_winnerOf : GoodIn wsX2_playAll (wsV RX2 25 RX2 yX2_winnerOf wsX2_winnerOf) := goodIn_app (goodIn_of _ (by decide +kernel)) ggX2_playAll_X2_winnerOf
theorem dX2_playAll_0 : decode cX2_playAll 0 = .ok (.aload_n 0, 1) := by decide +kernel
theorem dX2_playAll_1 : decode cX2_playAll 1 = .ok (.iload_n 2, 1) := by decide +kernel
theorem dX2_playAll_2 : decode cX2_playAll 2 = .ok (.putfield 9, 3) := by decide +kernel
theorem dX2_playAll_5 : decode cX2_playAll 5 = .ok (.aload_n 0, 1) := by decide +kernel
theorem dX2_playAll_6 : decode cX2_playAll 6 = .ok (.iconst 0, 1) := by decide +kernel
theorem dX2_playAll_7 : decode cX2_playAll 7 = .ok (.putfield 15, 3) := by decide +kernel
theorem dX2_playAll_10 : decode cX2_playAll 10 = .ok (.aload_n 0, 1) := by decide +kernel
theorem dX2_playAll_11 : decode cX2_playAll 11 = .ok (.iconst 0, 1) := by decide +kernel
theorem dX2_playAll_12 : decode cX2_playAll 12 = .ok (.putfield 18, 3) := by decide +kernel
theorem dX2_playAll_15 : decode cX2_playAll 15 = .ok (.iconst 0, 1) := by decide +kernel
theorem dX2_playAll_16 : decode cX2_playAll 16 = .ok (.istore 4, 2) := by decide +kernel
theorem dX2_playAll_18 : decode cX2_playAll 18 = .ok (.iload 4, 2) := by decide +kernel
theorem dX2_playAll_20 : decode cX2_playAll 20 = .ok (.iload_n 1, 1) := by decide +kernel
theorem dX2_playAll_21 : decode cX2_playAll 21 = .ok (.if_icmp .ge 31, 3) := by decide +kernel
theorem dX2_playAll_24 : decode cX2_playAll 24 = .ok (.aload_n 0, 1) := by decide +kernel
theorem dX2_playAll_25 : decode cX2_playAll 25 = .ok (.iload 4, 2) := by decide +kernel
theorem dX2_playAll_27 : decode cX2_playAll 27 = .ok (.iconst 2, 1) := by decide +kernel
theorem dX2_playAll_28 : decode cX2_playAll 28 = .ok (.irem, 1) := by decide +kernel
theorem dX2_playAll_29 : decode cX2_playAll 29 = .ok (.iload_n 3, 1) := by decide +kernel
theorem dX2_playAll_30 : decode cX2_playAll 30 = .ok (.invokevirtual 25, 3) := by decide +kernel
theorem dX2_playAll_33 : decode cX2_playAll 33 = .ok (.ifCond .ne 13, 3) := by decide +kernel
theorem dX2_playAll_36 : decode cX2_playAll 36 = .ok (.aload_n 0, 1) := by decide +kernel
theorem dX2_playAll_37 : decode cX2_playAll 37 = .ok (.dup, 1) := by decide +kernel
theorem dX2_playAll_38 : decode cX2_playAll 38 = .ok (.getfield 15, 3) := by decide +kernel
theorem dX2_playAll_41 : decode cX2_playAll 41 = .ok (.iconst 1, 1) := by decide +kernel
theorem dX2_playAll_42 : decode cX2_playAll 42 = .ok (.iadd, 1) := by decide +kernel
theorem dX2_playAll_43 : decode cX2_playAll 43 = .ok (.putfield 15, 3) := by decide +kernel
theorem dX2_playAll_46 : decode cX2_playAll 46 = .ok (.iinc 4 1, 3) := by decide +kernel
theorem dX2_playAll_49 : decode cX2_playAll 49 = .ok (.goto (-31), 3) := by decide +kernel
theorem dX2_playAll_52 : decode cX2_playAll 52 = .ok (.return_, 1) := by decide +kernel
set_option maxRecDepth 20000 in
theorem ggX2_winnerOf_X6_choices : GoodIn wsX2_winnerOf wsX6_choices := goodIn_r _ [7, 8, 9, 10, 11, 12, 6, 13, 43, 44, 45, 46, 47, 48, 49, 50, 51, 52, 53, 54] (by decide +kernel) (by decide +kernel)
set_option maxRecDepth 20000 in
theorem gX2_winnerOf_X6_choices : GoodIn wsX2_winnerOf (wsV RX2 29 RX6 yX6_choices wsX6_choices) := goodIn_app (goodIn_of _ (by decide +kernel)) ggX2_winnerOf_X6_choices
set_option maxRecDepth 20000 in
theorem ggX2_winnerOf_X2_drawFrom : GoodIn wsX2_winnerOf wsX2_drawFrom := goodIn_r _ [18, 19, 20, 21, 22, 23, 24, 25, 26, 27, 28, 17, 29, 30, 31, 32, 33, 34, 39, 40, 41, 42] (by decide +kernel) (by decide +kernel)
set_option maxRecDepth 20000 in
theorem gX2_winnerOf_X2_drawFrom : GoodIn wsX2_winnerOf (wsV RX2 34 RX2 yX2_drawFrom wsX2_drawFrom) := goodIn_app (goodIn_of _ (by decide +kernel)) ggX2_winnerOf_X2_drawFrom
set_option maxRecDepth 20000 in
theorem ggX2_winnerOf_X6_leftBy : GoodIn wsX2_winnerOf wsX6_leftBy := goodIn_r _ [38, 8, 43, 44, 45, 46, 47, 48, 49] (by decide +kernel) (by decide +kernel)
set_option maxRecDepth 20000 in
theorem gX2_winnerOf_X6_leftBy : GoodIn wsX2_winnerOf (wsV RX2 38 RX6 yX6_leftBy wsX6_leftBy) := goodIn_app (goodIn_of _ (by decide +kernel)) ggX2_winnerOf_X6_leftBy
theorem dX2_winnerOf_0 : decode cX2_winnerOf 0 = .ok (.iload_n 1, 1) := by decide +kernel
theorem dX2_winnerOf_1 : decode cX2_winnerOf 1 = .ok (.istore_n 3, 1) := by decide +kernel
theorem dX2_winnerOf_2 : decode cX2_winnerOf 2 = .ok (.iload_n 2, 1) := by decide +kernel
theorem dX2_winnerOf_3 : decode cX2_winnerOf 3 = .ok (.istore 4, 2) := by decide +kernel
theorem dX2_winnerOf_5 : decode cX2_winnerOf 5 = .ok (.aload_n 0, 1) := by decide +kernel
theorem dX2_winnerOf_6 : decode cX2_winnerOf 6 = .ok (.getfield 21, 3) := by decide +kernel
theorem dX2_winnerOf_9 : decode cX2_winnerOf 9 = .ok (.iload_n 3, 1) := by decide +kernel
theorem dX2_winnerOf_10 : decode cX2_winnerOf 10 = .ok (.iload 4, 2) := by decide +kernel
theorem dX2_winnerOf_12 : decode cX2_winnerOf 12 = .ok (.invokevirtual 29, 3) := by decide +kernel
theorem dX2_winnerOf_15 : decode cX2_winnerOf 15 = .ok (.istore 5, 2) := by decide +kernel
theorem dX2_winnerOf_17 : decode cX2_winnerOf 17 = .ok (.iconst 0, 1) := by decide +kernel
theorem dX2_winnerOf_18 : decode cX2_winnerOf 18 = .ok (.istore 6, 2) := by decide +kernel
theorem dX2_winnerOf_20 : decode cX2_winnerOf 20 = .ok (.iload 6, 2) := by decide +kernel
theorem dX2_winnerOf_22 : decode cX2_winnerOf 22 = .ok (.bipush 8, 2) := by decide +kernel
theorem dX2_winnerOf_24 : decode cX2_winnerOf 24 = .ok (.if_icmp .ge 57, 3) := by decide +kernel
theorem dX2_winnerOf_27 : decode cX2_winnerOf 27 = .ok (.iload 5, 2) := by decide +kernel
theorem dX2_winnerOf_29 : decode cX2_winnerOf 29 = .ok (.ifCond .eq 52, 3) := by decide +kernel
theorem dX2_winnerOf_32 : decode cX2_winnerOf 32 = .ok (.aload_n 0, 1) := by decide +kernel
theorem dX2_winnerOf_33 : decode cX2_winnerOf 33 = .ok (.getfield 21, 3) := by decide +kernel
theorem dX2_winnerOf_36 : decode cX2_winnerOf 36 = .ok (.aload_n 0, 1) := by decide +kernel
theorem dX2_winnerOf_37 : decode cX2_winnerOf 37 = .ok (.iload 5, 2) := by decide +kernel
theorem dX2_winnerOf_39 : decode cX2_winnerOf 39 = .ok (.invokevirtual 34, 3) := by decide +kernel
theorem dX2_winnerOf_42 : decode cX2_winnerOf 42 = .ok (.iload 4, 2) := by decide +kernel
theorem dX2_winnerOf_44 : decode cX2_winnerOf 44 = .ok (.invokevirtual 38, 3) := by decide +kernel
theorem dX2_winnerOf_47 : decode cX2_winnerOf 47 = .ok (.istore 4, 2) := by decide +kernel
theorem dX2_winnerOf_49 : decode cX2_winnerOf 49 = .ok (.aload_n 0, 1) := by decide +kernel
theorem dX2_winnerOf_50 : decode cX2_winnerOf 50 = .ok (.dup, 1) := by decide +kernel
theorem dX2_winnerOf_51 : decode cX2_winnerOf 51 = .ok (.getfield 18, 3) := by decide +kernel
theorem dX2_winnerOf_54 : decode cX2_winnerOf 54 = .ok (.iconst 1, 1) := by decide +kernel
theorem dX2_winnerOf_55 : decode cX2_winnerOf 55 = .ok (.iadd, 1) := by decide +kernel
theorem dX2_winnerOf_56 : decode cX2_winnerOf 56 = .ok (.putfield 18, 3) := by decide +kernel
theorem dX2_winnerOf_59 : decode cX2_winnerOf 59 = .ok (.iconst 1, 1) := by decide +kernel
theorem dX2_winnerOf_60 : decode cX2_winnerOf 60 = .ok (.iload_n 3, 1) := by decide +kernel
theorem dX2_winnerOf_61 : decode cX2_winnerOf 61 = .ok (.isub, 1) := by decide +kernel
theorem dX2_winnerOf_62 : decode cX2_winnerOf 62 = .ok (.istore_n 3, 1) := by decide +kernel
theorem dX2_winnerOf_63 : decode cX2_winnerOf 63 = .ok (.aload_n 0, 1) := by decide +kernel
theorem dX2_winnerOf_64 : decode cX2_winnerOf 64 = .ok (.getfield 21, 3) := by decide +kernel
theorem dX2_winnerOf_67 : decode cX2_winnerOf 67 = .ok (.iload_n 3, 1) := by decide +kernel
theorem dX2_winnerOf_68 : decode cX2_winnerOf 68 = .ok (.iload 4, 2) := by decide +kernel
theorem dX2_winnerOf_70 : decode cX2_winnerOf 70 = .ok (.invokevirtual 29, 3) := by decide +kernel
theorem dX2_winnerOf_73 : decode cX2_winnerOf 73 = .ok (.istore 5, 2) := by decide +kernel
theorem dX2_winnerOf_75 : decode cX2_winnerOf 75 = .ok (.iinc 6 1, 3) := by decide +kernel
theorem dX2_winnerOf_78 : decode cX2_winnerOf 78 = .ok (.goto (-58), 3) := by decide +kernel
theorem dX2_winnerOf_81 : decode cX2_winnerOf 81 = .ok (.iconst 1, 1) := by decide +kernel
theorem dX2_winnerOf_82 : decode cX2_winnerOf 82 = .ok (.iload_n 3, 1) := by decide +kernel
theorem dX2_winnerOf_83 : decode cX2_winnerOf 83 = .ok (.isub, 1) := by decide +kernel
theorem dX2_winnerOf_84 : decode cX2_winnerOf 84 = .ok (.ireturn, 1) := by decide +kernel
set_option maxRecDepth 20000 in
theorem ggX2_drawFrom_J6_bitCount_0f7a4 : GoodIn wsX2_drawFrom wsJ6_bitCount_0f7a4 := goodIn_r _ [4, 5, 6, 7] (by decide +kernel) (by decide +kernel)
set_option maxRecDepth 20000 in
theorem gX2_drawFrom_J6_bitCount_0f7a4 : GoodIn wsX2_drawFrom (va_wsS RX2 41 yJ6_bitCount_0f7a4 wsJ6_bitCount_0f7a4) := goodIn_app (goodIn_of _ (by decide +kernel)) ggX2_drawFrom_J6_bitCount_0f7a4
set_option maxRecDepth 20000 in
theorem ggX2_drawFrom_X2_draw : GoodIn wsX2_drawFrom wsX2_draw := goodIn_r _ [12, 13, 14, 15, 16, 17, 18, 19, 20, 21] (by decide +kernel) (by decide +kernel)
set_option maxRecDepth 20000 in
theorem gX2_drawFrom_X2_draw : GoodIn wsX2_drawFrom (wsV RX2 46 RX2 yX2_draw wsX2_draw) := goodIn_app (goodIn_of _ (by decide +kernel)) ggX2_drawFrom_X2_draw
theorem dX2_drawFrom_0 : decode cX2_drawFrom 0 = .ok (.aload_n 0, 1) := by decide +kernel
theorem dX2_drawFrom_1 : decode cX2_drawFrom 1 = .ok (.iload_n 1, 1) := by decide +kernel
theorem dX2_drawFrom_2 : decode cX2_drawFrom 2 = .ok (.invokestatic 41, 3) := by decide +kernel
theorem dX2_drawFrom_5 : decode cX2_drawFrom 5 = .ok (.invokevirtual 46, 3) := by decide +kernel
theorem dX2_drawFrom_8 : decode cX2_drawFrom 8 = .ok (.istore_n 2, 1) := by decide +kernel
theorem dX2_drawFrom_9 : decode cX2_drawFrom 9 = .ok (.iconst 0, 1) := by decide +kernel
theorem dX2_drawFrom_10 : decode cX2_drawFrom 10 = .ok (.istore_n 3, 1) := by decide +kernel
theorem dX2_drawFrom_11 : decode cX2_drawFrom 11 = .ok (.iload_n 3, 1) := by decide +kernel
theorem dX2_drawFrom_12 : decode cX2_drawFrom 12 = .ok (.bipush 8, 2) := by decide +kernel
theorem dX2_drawFrom_14 : decode cX2_drawFrom 14 = .ok (.if_icmp .ge 26, 3) := by decide +kernel
theorem dX2_drawFrom_17 : decode cX2_drawFrom 17 = .ok (.iload_n 1, 1) := by decide +kernel
theorem dX2_drawFrom_18 : decode cX2_drawFrom 18 = .ok (.iload_n 3, 1) := by decide +kernel
theorem dX2_drawFrom_19 : decode cX2_drawFrom 19 = .ok (.ishr, 1) := by decide +kernel
theorem dX2_drawFrom_20 : decode cX2_drawFrom 20 = .ok (.iconst 1, 1) := by decide +kernel
theorem dX2_drawFrom_21 : decode cX2_drawFrom 21 = .ok (.iand, 1) := by decide +kernel
theorem dX2_drawFrom_22 : decode cX2_drawFrom 22 = .ok (.ifCond .eq 12, 3) := by decide +kernel
theorem dX2_drawFrom_25 : decode cX2_drawFrom 25 = .ok (.iload_n 2, 1) := by decide +kernel
theorem dX2_drawFrom_26 : decode cX2_drawFrom 26 = .ok (.ifCond .ne 5, 3) := by decide +kernel
theorem dX2_drawFrom_29 : decode cX2_drawFrom 29 = .ok (.iload_n 3, 1) := by decide +kernel
theorem dX2_drawFrom_30 : decode cX2_drawFrom 30 = .ok (.ireturn, 1) := by decide +kernel
theorem dX2_drawFrom_31 : decode cX2_drawFrom 31 = .ok (.iinc 2 (-1), 3) := by decide +kernel
theorem dX2_drawFrom_34 : decode cX2_drawFrom 34 = .ok (.iinc 3 1, 3) := by decide +kernel
theorem dX2_drawFrom_37 : decode cX2_drawFrom 37 = .ok (.goto (-26), 3) := by decide +kernel
theorem dX2_drawFrom_40 : decode cX2_drawFrom 40 = .ok (.iconst 0, 1) := by decide +kernel
theorem dX2_drawFrom_41 : decode cX2_drawFrom 41 = .ok (.ireturn, 1) := by decide +kernel
theorem dX2_draw_0 : decode cX2_draw 0 = .ok (.aload_n 0, 1) := by decide +kernel
theorem dX2_draw_1 : decode cX2_draw 1 = .ok (.ldc2_w 49, 3) := by decide +kernel
theorem dX2_draw_4 : decode cX2_draw 4 = .ok (.aload_n 0, 1) := by decide +kernel
theorem dX2_draw_5 : decode cX2_draw 5 = .ok (.getfield 9, 3) := by decide +kernel
theorem dX2_draw_8 : decode cX2_draw 8 = .ok (.i2l, 1) := by decide +kernel
theorem dX2_draw_9 : decode cX2_draw 9 = .ok (.lmul, 1) := by decide +kernel
theorem dX2_draw_10 : decode cX2_draw 10 = .ok (.ldc2_w 51, 3) := by decide +kernel
theorem dX2_draw_13 : decode cX2_draw 13 = .ok (.ladd, 1) := by decide +kernel
theorem dX2_draw_14 : decode cX2_draw 14 = .ok (.ldc2_w 53, 3) := by decide +kernel
theorem dX2_draw_17 : decode cX2_draw 17 = .ok (.lrem, 1) := by decide +kernel
theorem dX2_draw_18 : decode cX2_draw 18 = .ok (.l2i, 1) := by decide +kernel
theorem dX2_draw_19 : decode cX2_draw 19 = .ok (.putfield 9, 3) := by decide +kernel
theorem dX2_draw_22 : decode cX2_draw 22 = .ok (.iload_n 1, 1) := by decide +kernel
theorem dX2_draw_23 : decode cX2_draw 23 = .ok (.ifCond .le 15, 3) := by decide +kernel
theorem dX2_draw_26 : decode cX2_draw 26 = .ok (.aload_n 0, 1) := by decide +kernel
theorem dX2_draw_27 : decode cX2_draw 27 = .ok (.getfield 9, 3) := by decide +kernel
theorem dX2_draw_30 : decode cX2_draw 30 = .ok (.ldc 55, 2) := by decide +kernel
theorem dX2_draw_32 : decode cX2_draw 32 = .ok (.idiv, 1) := by decide +kernel
theorem dX2_draw_33 : decode cX2_draw 33 = .ok (.iload_n 1, 1) := by decide +kernel
theorem dX2_draw_34 : decode cX2_draw 34 = .ok (.irem, 1) := by decide +kernel
theorem dX2_draw_35 : decode cX2_draw 35 = .ok (.goto 4, 3) := by decide +kernel
theorem dX2_draw_38 : decode cX2_draw 38 = .ok (.iconst 0, 1) := by decide +kernel
theorem dX2_draw_39 : decode cX2_draw 39 = .ok (.ireturn, 1) := by decide +kernel
set_option maxRecDepth 20000 in
theorem ggX3_init_X7_init : GoodIn wsX3_init wsX7_init := goodIn_r _ [15, 16, 2, 3, 17, 4, 18, 19, 20, 21, 27, 28, 29, 30] (by decide +kernel) (by decide +kernel)
set_option maxRecDepth 20000 in
theorem gX3_init_X7_init : GoodIn wsX3_init (wsX7_init) := ggX3_init_X7_init
theorem dX3_init_0 : decode cX3_init 0 = .ok (.aload_n 0, 1) := by decide +kernel
theorem dX3_init_1 : decode cX3_init 1 = .ok (.invokespecial 3, 3) := by decide +kernel
theorem dX3_init_4 : decode cX3_init 4 = .ok (.aload_n 0, 1) := by decide +kernel
theorem dX3_init_5 : decode cX3_init 5 = .ok (.bipush 8, 2) := by decide +kernel
theorem dX3_init_7 : decode cX3_init 7 = .ok (.newarray .int, 2) := by decide +kernel
theorem dX3_init_9 : decode cX3_init 9 = .ok (.putfield 9, 3) := by decide +kernel
theorem dX3_init_12 : decode cX3_init 12 = .ok (.aload_n 0, 1) := by decide +kernel
theorem dX3_init_13 : decode cX3_init 13 = .ok (.iconst 0, 1) := by decide +kernel
theorem dX3_init_14 : decode cX3_init 14 = .ok (.putfield 15, 3) := by decide +kernel
theorem dX3_init_17 : decode cX3_init 17 = .ok (.aload_n 0, 1) := by decide +kernel
theorem dX3_init_18 : decode cX3_init 18 = .ok (.iconst 0, 1) := by decide +kernel
theorem dX3_init_19 : decode cX3_init 19 = .ok (.putfield 19, 3) := by decide +kernel
theorem dX3_init_22 : decode cX3_init 22 = .ok (.aload_n 0, 1) := by decide +kernel
theorem dX3_init_23 : decode cX3_init 23 = .ok (.iconst 0, 1) := by decide +kernel
theorem dX3_init_24 : decode cX3_init 24 = .ok (.putfield 22, 3) := by decide +kernel
theorem dX3_init_27 : decode cX3_init 27 = .ok (.aload_n 0, 1) := by decide +kernel
theorem dX3_init_28 : decode cX3_init 28 = .ok (.new 25, 3) := by decide +kernel
theorem dX3_init_31 : decode cX3_init 31 = .ok (.dup, 1) := by decide +kernel
theorem dX3_init_32 : decode cX3_init 32 = .ok (.invokespecial 27, 3) := by decide +kernel
theorem dX3_init_35 : decode cX3_init 35 = .ok (.putfield 28, 3) := by decide +kernel
theorem dX3_init_38 : decode cX3_init 38 = .ok (.return_, 1) := by decide +kernel
set_option maxRecDepth 20000 in
theorem ggX3_beginWith_X5_kindAt : GoodIn wsX3_beginWith wsX5_kindAt := goodIn_r _ [10, 11, 12, 13, 14, 15, 16, 17, 9, 18, 19, 20, 21, 22, 23, 24, 25, 26, 27, 28, 29, 30, 31, 32, 33, 34, 35, 36, 37, 38, 39, 40, 41, 42, 43, 44, 45, 46, 47, 48, 49, 50, 51, 52, 53, 54, 55, 56, 57, 58, 59, 60, 61, 62, 63, 64, 65, 66, 67, 68, 69, 70, 71, 72, 73, 74, 75, 76, 77, 78, 79, 80, 81, 82, 83, 84, 85, 86, 87, 88, 89, 90, 91, 92, 93, 94, 95, 96, 97, 98, 99, 100, 101, 102, 103, 104, 105, 106, 116, 117] (by decide +kernel) (by decide +kernel)
set_option maxRecDepth 20000 in
theorem gX3_beginWith_X5_kindAt : GoodIn wsX3_beginWith (wsV RX3 32 RX5 yX5_kindAt wsX5_kindAt) := goodIn_app (goodIn_of _ (by decide +kernel)) ggX3_beginWith_X5_kindAt
theorem dX3_beginWith_0 : decode cX3_beginWith 0 = .ok (.iconst 0, 1) := by decide +kernel
theorem dX3_beginWith_1 : decode cX3_beginWith 1 = .ok (.istore_n 3, 1) := by decide +kernel
theorem dX3_beginWith_2 : decode cX3_beginWith 2 = .ok (.iload_n 3, 1) := by decide +kernel
theorem dX3_beginWith_3 : decode cX3_beginWith 3 = .ok (.iload_n 2, 1) := by decide +kernel
theorem dX3_beginWith_4 : decode cX3_beginWith 4 = .ok (.if_icmp .ge 20, 3) := by decide +kernel
theorem dX3_beginWith_7 : decode cX3_beginWith 7 = .ok (.aload_n 0, 1) := by decide +kernel
theorem dX3_beginWith_8 : decode cX3_beginWith 8 = .ok (.getfield 9, 3) := by decide +kernel
theorem dX3_beginWith_11 : decode cX3_beginWith 11 = .ok (.iload_n 3, 1) := by decide +kernel
theorem dX3_beginWith_12 : decode cX3_beginWith 12 = .ok (.aload_n 1, 1) := by decide +kernel
theorem dX3_beginWith_13 : decode cX3_beginWith 13 = .ok (.iload_n 3, 1) := by decide +kernel
theorem dX3_beginWith_14 : decode cX3_beginWith 14 = .ok (.invokevirtual 32, 3) := by decide +kernel
theorem dX3_beginWith_17 : decode cX3_beginWith 17 = .ok (.iastore, 1) := by decide +kernel
theorem dX3_beginWith_18 : decode cX3_beginWith 18 = .ok (.iinc 3 1, 3) := by decide +kernel
theorem dX3_beginWith_21 : decode cX3_beginWith 21 = .ok (.goto (-19), 3) := by decide +kernel
theorem dX3_beginWith_24 : decode cX3_beginWith 24 = .ok (.aload_n 0, 1) := by decide +kernel
theorem dX3_beginWith_25 : decode cX3_beginWith 25 = .ok (.iconst 1, 1) := by decide +kernel
theorem dX3_beginWith_26 : decode cX3_beginWith 26 = .ok (.iload_n 2, 1) := by decide +kernel
theorem dX3_beginWith_27 : decode cX3_beginWith 27 = .ok (.ishl, 1) := by decide +kernel
theorem dX3_beginWith_28 : decode cX3_beginWith 28 = .ok (.iconst 1, 1) := by decide +kernel
theorem dX3_beginWith_29 : decode cX3_beginWith 29 = .ok (.isub, 1) := by decide +kernel
theorem dX3_beginWith_30 : decode cX3_beginWith 30 = .ok (.putfield 15, 3) := by decide +kernel
theorem dX3_beginWith_33 : decode cX3_beginWith 33 = .ok (.aload_n 0, 1) := by decide +kernel
theorem dX3_beginWith_34 : decode cX3_beginWith 34 = .ok (.iconst 0, 1) := by decide +kernel
theorem dX3_beginWith_35 : decode cX3_beginWith 35 = .ok (.putfield 19, 3) := by decide +kernel
theorem dX3_beginWith_38 : decode cX3_beginWith 38 = .ok (.aload_n 0, 1) := by decide +kernel
theorem dX3_beginWith_39 : decode cX3_beginWith 39 = .ok (.iconst 0, 1) := by decide +kernel
theorem dX3_beginWith_40 : decode cX3_beginWith 40 = .ok (.putfield 22, 3) := by decide +kernel
theorem dX3_beginWith_43 : decode cX3_beginWith 43 = .ok (.aload_n 0, 1) := by decide +kernel
theorem dX3_beginWith_44 : decode cX3_beginWith 44 = .ok (.getfield 28, 3) := by decide +kernel
theorem dX3_beginWith_47 : decode cX3_beginWith 47 = .ok (.iconst 0, 1) := by decide +kernel
theorem dX3_beginWith_48 : decode cX3_beginWith 48 = .ok (.putfield 38, 3) := by decide +kernel
theorem dX3_beginWith_51 : decode cX3_beginWith 51 = .ok (.return_, 1) := by decide +kernel
set_option maxRecDepth 20000 in
theorem ggX3_copyFrom_X7_copyFrom : GoodIn wsX3_copyFrom wsX7_copyFrom := goodIn_r _ [14, 15, 16, 17, 18, 24, 25, 26, 27] (by decide +kernel) (by decide +kernel)
set_option maxRecDepth 20000 in
theorem gX3_copyFrom_X7_copyFrom : GoodIn wsX3_copyFrom (wsV RX3 47 RX7 yX7_copyFrom wsX7_copyFrom) := goodIn_app (goodIn_of _ (by decide +kernel)) ggX3_copyFrom_X7_copyFrom
theorem dX3_copyFrom_0 : decode cX3_copyFrom 0 = .ok (.aload_n 1, 1) := by decide +kernel
theorem dX3_copyFrom_1 : decode cX3_copyFrom 1 = .ok (.getfield 9, 3) := by decide +kernel
theorem dX3_copyFrom_4 : decode cX3_copyFrom 4 = .ok (.iconst 0, 1) := by decide +kernel
theorem dX3_copyFrom_5 : decode cX3_copyFrom 5 = .ok (.aload_n 0, 1) := by decide +kernel
theorem dX3_copyFrom_6 : decode cX3_copyFrom 6 = .ok (.getfield 9, 3) := by decide +kernel
theorem dX3_copyFrom_9 : decode cX3_copyFrom 9 = .ok (.iconst 0, 1) := by decide +kernel
theorem dX3_copyFrom_10 : decode cX3_copyFrom 10 = .ok (.bipush 8, 2) := by decide +kernel
theorem dX3_copyFrom_12 : decode cX3_copyFrom 12 = .ok (.invokestatic 41, 3) := by decide +kernel
theorem dX3_copyFrom_15 : decode cX3_copyFrom 15 = .ok (.aload_n 0, 1) := by decide +kernel
theorem dX3_copyFrom_16 : decode cX3_copyFrom 16 = .ok (.aload_n 1, 1) := by decide +kernel
theorem dX3_copyFrom_17 : decode cX3_copyFrom 17 = .ok (.getfield 15, 3) := by decide +kernel
theorem dX3_copyFrom_20 : decode cX3_copyFrom 20 = .ok (.putfield 15, 3) := by decide +kernel
theorem dX3_copyFrom_23 : decode cX3_copyFrom 23 = .ok (.aload_n 0, 1) := by decide +kernel
theorem dX3_copyFrom_24 : decode cX3_copyFrom 24 = .ok (.aload_n 1, 1) := by decide +kernel
theorem dX3_copyFrom_25 : decode cX3_copyFrom 25 = .ok (.getfield 19, 3) := by decide +kernel
theorem dX3_copyFrom_28 : decode cX3_copyFrom 28 = .ok (.putfield 19, 3) := by decide +kernel
theorem dX3_copyFrom_31 : decode cX3_copyFrom 31 = .ok (.aload_n 0, 1) := by decide +kernel
theorem dX3_copyFrom_32 : decode cX3_copyFrom 32 = .ok (.aload_n 1, 1) := by decide +kernel
theorem dX3_copyFrom_33 : decode cX3_copyFrom 33 = .ok (.getfield 22, 3) := by decide +kernel
theorem dX3_copyFrom_36 : decode cX3_copyFrom 36 = .ok (.putfield 22, 3) := by decide +kernel
theorem dX3_copyFrom_39 : decode cX3_copyFrom 39 = .ok (.aload_n 0, 1) := by decide +kernel
theorem dX3_copyFrom_40 : decode cX3_copyFrom 40 = .ok (.getfield 28, 3) := by decide +kernel
theorem dX3_copyFrom_43 : decode cX3_copyFrom 43 = .ok (.aload_n 1, 1) := by decide +kernel
theorem dX3_copyFrom_44 : decode cX3_copyFrom 44 = .ok (.getfield 28, 3) := by decide +kernel
theorem dX3_copyFrom_47 : decode cX3_copyFrom 47 = .ok (.invokevirtual 47, 3) := by decide +kernel
theorem dX3_copyFrom_50 : decode cX3_copyFrom 50 = .ok (.return_, 1) := by decide +kernel
theorem dX4_init_0 : decode cX4_init 0 = .ok (.aload_n 0, 1) := by decide +kernel
theorem dX4_init_1 : decode cX4_init 1 = .ok (.invokespecial 5, 3) := by decide +kernel
theorem dX4_init_4 : decode cX4_init 4 = .ok (.aload_n 0, 1) := by decide +kernel
theorem dX4_init_5 : decode cX4_init 5 = .ok (.sipush 512, 3) := by decide +kernel
theorem dX4_init_8 : decode cX4_init 8 = .ok (.newarray .long, 2) := by decide +kernel
theorem dX4_init_10 : decode cX4_init 10 = .ok (.putfield 11, 3) := by decide +kernel
theorem dX4_init_13 : decode cX4_init 13 = .ok (.aload_n 0, 1) := by decide +kernel
theorem dX4_init_14 : decode cX4_init 14 = .ok (.aload_n 1, 1) := by decide +kernel
theorem dX4_init_15 : decode cX4_init 15 = .ok (.putfield 15, 3) := by decide +kernel
theorem dX4_init_18 : decode cX4_init 18 = .ok (.return_, 1) := by decide +kernel
set_option maxRecDepth 20000 in
theorem ggX4_isWonBy_X10_place : GoodIn wsX4_isWonBy wsX10_place := goodIn_r _ [5] (by decide +kernel) (by decide +kernel)
set_option maxRecDepth 20000 in
theorem gX4_isWonBy_X10_place_n19 : GoodIn wsX4_isWonBy (wsX10_place) := ggX4_isWonBy_X10_place
theorem dX4_isWonBy_0 : decode cX4_isWonBy 0 = .ok (.aload_n 0, 1) := by decide +kernel
theorem dX4_isWonBy_1 : decode cX4_isWonBy 1 = .ok (.getfield 11, 3) := by decide +kernel
theorem dX4_isWonBy_4 : decode cX4_isWonBy 4 = .ok (.iload_n 1, 1) := by decide +kernel
theorem dX4_isWonBy_5 : decode cX4_isWonBy 5 = .ok (.iload_n 2, 1) := by decide +kernel
theorem dX4_isWonBy_6 : decode cX4_isWonBy 6 = .ok (.invokestatic 19, 3) := by decide +kernel
theorem dX4_isWonBy_9 : decode cX4_isWonBy 9 = .ok (.laload, 1) := by decide +kernel
theorem dX4_isWonBy_10 : decode cX4_isWonBy 10 = .ok (.ldc2_w 23, 3) := by decide +kernel
theorem dX4_isWonBy_13 : decode cX4_isWonBy 13 = .ok (.land, 1) := by decide +kernel
theorem dX4_isWonBy_14 : decode cX4_isWonBy 14 = .ok (.lconst 0, 1) := by decide +kernel
theorem dX4_isWonBy_15 : decode cX4_isWonBy 15 = .ok (.lcmp, 1) := by decide +kernel
theorem dX4_isWonBy_16 : decode cX4_isWonBy 16 = .ok (.ifCond .eq 7, 3) := by decide +kernel
theorem dX4_isWonBy_19 : decode cX4_isWonBy 19 = .ok (.iconst 1, 1) := by decide +kernel
theorem dX4_isWonBy_20 : decode cX4_isWonBy 20 = .ok (.goto 4, 3) := by decide +kernel
theorem dX4_isWonBy_23 : decode cX4_isWonBy 23 = .ok (.iconst 0, 1) := by decide +kernel
theorem dX4_isWonBy_24 : decode cX4_isWonBy 24 = .ok (.ireturn, 1) := by decide +kernel
set_option maxRecDepth 20000 in
theorem ggX4_winningKinds_X10_place : GoodIn wsX4_winningKinds wsX10_place := goodIn_r _ [4] (by decide +kernel) (by decide +kernel)
set_option maxRecDepth 20000 in
theorem gX4_winningKinds_X10_place_n19 : GoodIn wsX4_winningKinds (wsX10_place) := ggX4_winningKinds_X10_place
theorem dX4_winningKinds_0 : decode cX4_winningKinds 0 = .ok (.aload_n 0, 1) := by decide +kernel
theorem dX4_winningKinds_1 : decode cX4_winningKinds 1 = .ok (.getfield 11, 3) := by decide +kernel
theorem dX4_winningKinds_4 : decode cX4_winningKinds 4 = .ok (.iload_n 1, 1) := by decide +kernel
theorem dX4_winningKinds_5 : decode cX4_winningKinds 5 = .ok (.iload_n 3, 1) := by decide +kernel
theorem dX4_winningKinds_6 : decode cX4_winningKinds 6 = .ok (.invokestatic 19, 3) := by decide +kernel
theorem dX4_winningKinds_9 : decode cX4_winningKinds 9 = .ok (.laload, 1) := by decide +kernel
theorem dX4_winningKinds_10 : decode cX4_winningKinds 10 = .ok (.iconst 5, 1) := by decide +kernel
theorem dX4_winningKinds_11 : decode cX4_winningKinds 11 = .ok (.iload_n 2, 1) := by decide +kernel
theorem dX4_winningKinds_12 : decode cX4_winningKinds 12 = .ok (.imul, 1) := by decide +kernel
theorem dX4_winningKinds_13 : decode cX4_winningKinds 13 = .ok (.lshr, 1) := by decide +kernel
theorem dX4_winningKinds_14 : decode cX4_winningKinds 14 = .ok (.l2i, 1) := by decide +kernel
theorem dX4_winningKinds_15 : decode cX4_winningKinds 15 = .ok (.bipush 31, 2) := by decide +kernel
theorem dX4_winningKinds_17 : decode cX4_winningKinds 17 = .ok (.iand, 1) := by decide +kernel
theorem dX4_winningKinds_18 : decode cX4_winningKinds 18 = .ok (.ireturn, 1) := by decide +kernel
set_option maxRecDepth 20000 in
theorem ggX4_enter_X6_leftBy : GoodIn wsX4_enter wsX6_leftBy := goodIn_r _ [8, 9, 26, 27, 28, 29, 30, 31, 32] (by decide +kernel) (by decide +kernel)
set_option maxRecDepth 20000 in
theorem gX4_enter_X6_leftBy : GoodIn wsX4_enter (wsV RX4 37 RX6 yX6_leftBy wsX6_leftBy) := goodIn_app (goodIn_of _ (by decide +kernel)) ggX4_enter_X6_leftBy
set_option maxRecDepth 20000 in
theorem ggX4_enter_X10_place : GoodIn wsX4_enter wsX10_place := goodIn_r _ [12] (by decide +kernel) (by decide +kernel)
set_option maxRecDepth 20000 in
theorem gX4_enter_X10_place_n19 : GoodIn wsX4_enter (wsX10_place) := ggX4_enter_X10_place
set_option maxRecDepth 20000 in
theorem ggX4_enter_X4_hedgesWithCut : GoodIn wsX4_enter wsX4_hedgesWithCut := goodIn_r _ [17, 1, 18, 19, 3, 20, 21, 22, 7, 23, 9, 24, 25, 26, 27, 33, 34, 35, 36, 37, 28, 29, 30, 31, 32] (by decide +kernel) (by decide +kernel)
set_option maxRecDepth 20000 in
theorem gX4_enter_X4_hedgesWithCut : GoodIn wsX4_enter (wsV RX4 42 RX4 yX4_hedgesWithCut wsX4_hedgesWithCut) := goodIn_app (goodIn_of _ (by decide +kernel)) ggX4_enter_X4_hedgesWithCut
theorem dX4_enter_0 : decode cX4_enter 0 = .ok (.lconst 0, 1) := by decide +kernel
theorem dX4_enter_1 : decode cX4_enter 1 = .ok (.lstore_n 3, 1) := by decide +kernel
theorem dX4_enter_2 : decode cX4_enter 2 = .ok (.iconst 0, 1) := by decide +kernel
theorem dX4_enter_3 : decode cX4_enter 3 = .ok (.istore 5, 2) := by decide +kernel
theorem dX4_enter_5 : decode cX4_enter 5 = .ok (.iload 5, 2) := by decide +kernel
theorem dX4_enter_7 : decode cX4_enter 7 = .ok (.aload_n 0, 1) := by decide +kernel
theorem dX4_enter_8 : decode cX4_enter 8 = .ok (.getfield 15, 3) := by decide +kernel
theorem dX4_enter_11 : decode cX4_enter 11 = .ok (.getfield 25, 3) := by decide +kernel
theorem dX4_enter_14 : decode cX4_enter 14 = .ok (.getfield 31, 3) := by decide +kernel
theorem dX4_enter_17 : decode cX4_enter 17 = .ok (.if_icmp .ge 59, 3) := by decide +kernel
theorem dX4_enter_20 : decode cX4_enter 20 = .ok (.iload_n 2, 1) := by decide +kernel
theorem dX4_enter_21 : decode cX4_enter 21 = .ok (.iload 5, 2) := by decide +kernel
theorem dX4_enter_23 : decode cX4_enter 23 = .ok (.ishr, 1) := by decide +kernel
theorem dX4_enter_24 : decode cX4_enter 24 = .ok (.iconst 1, 1) := by decide +kernel
theorem dX4_enter_25 : decode cX4_enter 25 = .ok (.iand, 1) := by decide +kernel
theorem dX4_enter_26 : decode cX4_enter 26 = .ok (.ifCond .eq 44, 3) := by decide +kernel
theorem dX4_enter_29 : decode cX4_enter 29 = .ok (.aload_n 0, 1) := by decide +kernel
theorem dX4_enter_30 : decode cX4_enter 30 = .ok (.getfield 11, 3) := by decide +kernel
theorem dX4_enter_33 : decode cX4_enter 33 = .ok (.iconst 1, 1) := by decide +kernel
theorem dX4_enter_34 : decode cX4_enter 34 = .ok (.iload_n 1, 1) := by decide +kernel
theorem dX4_enter_35 : decode cX4_enter 35 = .ok (.isub, 1) := by decide +kernel
theorem dX4_enter_36 : decode cX4_enter 36 = .ok (.aload_n 0, 1) := by decide +kernel
theorem dX4_enter_37 : decode cX4_enter 37 = .ok (.getfield 15, 3) := by decide +kernel
theorem dX4_enter_40 : decode cX4_enter 40 = .ok (.iload 5, 2) := by decide +kernel
theorem dX4_enter_42 : decode cX4_enter 42 = .ok (.iload_n 2, 1) := by decide +kernel
theorem dX4_enter_43 : decode cX4_enter 43 = .ok (.invokevirtual 37, 3) := by decide +kernel
theorem dX4_enter_46 : decode cX4_enter 46 = .ok (.invokestatic 19, 3) := by decide +kernel
theorem dX4_enter_49 : decode cX4_enter 49 = .ok (.laload, 1) := by decide +kernel
theorem dX4_enter_50 : decode cX4_enter 50 = .ok (.ldc2_w 40, 3) := by decide +kernel
theorem dX4_enter_53 : decode cX4_enter 53 = .ok (.lxor, 1) := by decide +kernel
theorem dX4_enter_54 : decode cX4_enter 54 = .ok (.lstore 6, 2) := by decide +kernel
theorem dX4_enter_56 : decode cX4_enter 56 = .ok (.lload_n 3, 1) := by decide +kernel
theorem dX4_enter_57 : decode cX4_enter 57 = .ok (.aload_n 0, 1) := by decide +kernel
theorem dX4_enter_58 : decode cX4_enter 58 = .ok (.iload_n 1, 1) := by decide +kernel
theorem dX4_enter_59 : decode cX4_enter 59 = .ok (.iload 5, 2) := by decide +kernel
theorem dX4_enter_61 : decode cX4_enter 61 = .ok (.iload_n 2, 1) := by decide +kernel
theorem dX4_enter_62 : decode cX4_enter 62 = .ok (.invokevirtual 42, 3) := by decide +kernel
theorem dX4_enter_65 : decode cX4_enter 65 = .ok (.lload 6, 2) := by decide +kernel
theorem dX4_enter_67 : decode cX4_enter 67 = .ok (.land, 1) := by decide +kernel
theorem dX4_enter_68 : decode cX4_enter 68 = .ok (.lor, 1) := by decide +kernel
theorem dX4_enter_69 : decode cX4_enter 69 = .ok (.lstore_n 3, 1) := by decide +kernel
theorem dX4_enter_70 : decode cX4_enter 70 = .ok (.iinc 5 1, 3) := by decide +kernel
theorem dX4_enter_73 : decode cX4_enter 73 = .ok (.goto (-68), 3) := by decide +kernel
theorem dX4_enter_76 : decode cX4_enter 76 = .ok (.aload_n 0, 1) := by decide +kernel
theorem dX4_enter_77 : decode cX4_enter 77 = .ok (.getfield 11, 3) := by decide +kernel
theorem dX4_enter_80 : decode cX4_enter 80 = .ok (.iload_n 1, 1) := by decide +kernel
theorem dX4_enter_81 : decode cX4_enter 81 = .ok (.iload_n 2, 1) := by decide +kernel
theorem dX4_enter_82 : decode cX4_enter 82 = .ok (.invokestatic 19, 3) := by decide +kernel
theorem dX4_enter_85 : decode cX4_enter 85 = .ok (.lload_n 3, 1) := by decide +kernel
theorem dX4_enter_86 : decode cX4_enter 86 = .ok (.lastore, 1) := by decide +kernel
theorem dX4_enter_87 : decode cX4_enter 87 = .ok (.return_, 1) := by decide +kernel
set_option maxRecDepth 20000 in
theorem ggX4_hedgesWithCut_X6_kindsCutBy : GoodIn wsX4_hedgesWithCut wsX6_kindsCutBy := goodIn_r _ [9, 10, 13, 14, 20, 21, 22, 23, 24] (by decide +kernel) (by decide +kernel)
set_option maxRecDepth 20000 in
theorem gX4_hedgesWithCut_X6_kindsCutBy : GoodIn wsX4_hedgesWithCut (wsV RX4 46 RX6 yX6_kindsCutBy wsX6_kindsCutBy) := goodIn_app (goodIn_of _ (by decide +kernel)) ggX4_hedgesWithCut_X6_kindsCutBy
theorem dX4_hedgesWithCut_0 : decode cX4_hedgesWithCut 0 = .ok (.aload_n 0, 1) := by decide +kernel
theorem dX4_hedgesWithCut_1 : decode cX4_hedgesWithCut 1 = .ok (.getfield 15, 3) := by decide +kernel
theorem dX4_hedgesWithCut_4 : decode cX4_hedgesWithCut 4 = .ok (.iload_n 1, 1) := by decide +kernel
theorem dX4_hedgesWithCut_5 : decode cX4_hedgesWithCut 5 = .ok (.iload_n 2, 1) := by decide +kernel
theorem dX4_hedgesWithCut_6 : decode cX4_hedgesWithCut 6 = .ok (.iload_n 3, 1) := by decide +kernel
theorem dX4_hedgesWithCut_7 : decode cX4_hedgesWithCut 7 = .ok (.invokevirtual 46, 3) := by decide +kernel
theorem dX4_hedgesWithCut_10 : decode cX4_hedgesWithCut 10 = .ok (.istore 4, 2) := by decide +kernel
theorem dX4_hedgesWithCut_12 : decode cX4_hedgesWithCut 12 = .ok (.ldc2_w 50, 3) := by decide +kernel
theorem dX4_hedgesWithCut_15 : decode cX4_hedgesWithCut 15 = .ok (.iconst 5, 1) := by decide +kernel
theorem dX4_hedgesWithCut_16 : decode cX4_hedgesWithCut 16 = .ok (.iload_n 2, 1) := by decide +kernel
theorem dX4_hedgesWithCut_17 : decode cX4_hedgesWithCut 17 = .ok (.imul, 1) := by decide +kernel
theorem dX4_hedgesWithCut_18 : decode cX4_hedgesWithCut 18 = .ok (.lshl, 1) := by decide +kernel
theorem dX4_hedgesWithCut_19 : decode cX4_hedgesWithCut 19 = .ok (.lstore 5, 2) := by decide +kernel
theorem dX4_hedgesWithCut_21 : decode cX4_hedgesWithCut 21 = .ok (.iload 4, 2) := by decide +kernel
theorem dX4_hedgesWithCut_23 : decode cX4_hedgesWithCut 23 = .ok (.i2l, 1) := by decide +kernel
theorem dX4_hedgesWithCut_24 : decode cX4_hedgesWithCut 24 = .ok (.iconst 5, 1) := by decide +kernel
theorem dX4_hedgesWithCut_25 : decode cX4_hedgesWithCut 25 = .ok (.iload_n 2, 1) := by decide +kernel
theorem dX4_hedgesWithCut_26 : decode cX4_hedgesWithCut 26 = .ok (.imul, 1) := by decide +kernel
theorem dX4_hedgesWithCut_27 : decode cX4_hedgesWithCut 27 = .ok (.lshl, 1) := by decide +kernel
theorem dX4_hedgesWithCut_28 : decode cX4_hedgesWithCut 28 = .ok (.lstore 7, 2) := by decide +kernel
theorem dX4_hedgesWithCut_30 : decode cX4_hedgesWithCut 30 = .ok (.iload 4, 2) := by decide +kernel
theorem dX4_hedgesWithCut_32 : decode cX4_hedgesWithCut 32 = .ok (.aload_n 0, 1) := by decide +kernel
theorem dX4_hedgesWithCut_33 : decode cX4_hedgesWithCut 33 = .ok (.getfield 15, 3) := by decide +kernel
theorem dX4_hedgesWithCut_36 : decode cX4_hedgesWithCut 36 = .ok (.getfield 52, 3) := by decide +kernel
theorem dX4_hedgesWithCut_39 : decode cX4_hedgesWithCut 39 = .ok (.getfield 56, 3) := by decide +kernel
theorem dX4_hedgesWithCut_42 : decode cX4_hedgesWithCut 42 = .ok (.iload_n 2, 1) := by decide +kernel
theorem dX4_hedgesWithCut_43 : decode cX4_hedgesWithCut 43 = .ok (.iaload, 1) := by decide +kernel
theorem dX4_hedgesWithCut_44 : decode cX4_hedgesWithCut 44 = .ok (.ishr, 1) := by decide +kernel
theorem dX4_hedgesWithCut_45 : decode cX4_hedgesWithCut 45 = .ok (.iconst 1, 1) := by decide +kernel
theorem dX4_hedgesWithCut_46 : decode cX4_hedgesWithCut 46 = .ok (.iand, 1) := by decide +kernel
theorem dX4_hedgesWithCut_47 : decode cX4_hedgesWithCut 47 = .ok (.ifCond .eq 18, 3) := by decide +kernel
theorem dX4_hedgesWithCut_50 : decode cX4_hedgesWithCut 50 = .ok (.lload 7, 2) := by decide +kernel
theorem dX4_hedgesWithCut_52 : decode cX4_hedgesWithCut 52 = .ok (.ldc2_w 62, 3) := by decide +kernel
theorem dX4_hedgesWithCut_55 : decode cX4_hedgesWithCut 55 = .ok (.lload 5, 2) := by decide +kernel
theorem dX4_hedgesWithCut_57 : decode cX4_hedgesWithCut 57 = .ok (.ldc2_w 40, 3) := by decide +kernel
theorem dX4_hedgesWithCut_60 : decode cX4_hedgesWithCut 60 = .ok (.lxor, 1) := by decide +kernel
theorem dX4_hedgesWithCut_61 : decode cX4_hedgesWithCut 61 = .ok (.land, 1) := by decide +kernel
theorem dX4_hedgesWithCut_62 : decode cX4_hedgesWithCut 62 = .ok (.lor, 1) := by decide +kernel
theorem dX4_hedgesWithCut_63 : decode cX4_hedgesWithCut 63 = .ok (.lstore 7, 2) := by decide +kernel
theorem dX4_hedgesWithCut_65 : decode cX4_hedgesWithCut 65 = .ok (.lload 7, 2) := by decide +kernel
theorem dX4_hedgesWithCut_67 : decode cX4_hedgesWithCut 67 = .ok (.lreturn, 1) := by decide +kernel
theorem dX5_init_0 : decode cX5_init 0 = .ok (.aload_n 0, 1) := by decide +kernel
theorem dX5_init_1 : decode cX5_init 1 = .ok (.invokespecial 3, 3) := by decide +kernel
theorem dX5_init_4 : decode cX5_init 4 = .ok (.aload_n 0, 1) := by decide +kernel
theorem dX5_init_5 : decode cX5_init 5 = .ok (.bipush 26, 2) := by decide +kernel
theorem dX5_init_7 : decode cX5_init 7 = .ok (.newarray .char, 2) := by decide +kernel
theorem dX5_init_9 : decode cX5_init 9 = .ok (.putfield 9, 3) := by decide +kernel
theorem dX5_init_12 : decode cX5_init 12 = .ok (.aload_n 0, 1) := by decide +kernel
theorem dX5_init_13 : decode cX5_init 13 = .ok (.iconst 0, 1) := by decide +kernel
theorem dX5_init_14 : decode cX5_init 14 = .ok (.putfield 15, 3) := by decide +kernel
theorem dX5_init_17 : decode cX5_init 17 = .ok (.return_, 1) := by decide +kernel
theorem dX5_size_0 : decode cX5_size 0 = .ok (.aload_n 0, 1) := by decide +kernel
theorem dX5_size_1 : decode cX5_size 1 = .ok (.getfield 15, 3) := by decide +kernel
theorem dX5_size_4 : decode cX5_size 4 = .ok (.ireturn, 1) := by decide +kernel
theorem dX5_add_0 : decode cX5_add 0 = .ok (.aload_n 0, 1) := by decide +kernel
theorem dX5_add_1 : decode cX5_add 1 = .ok (.getfield 15, 3) := by decide +kernel
theorem dX5_add_4 : decode cX5_add 4 = .ok (.bipush 26, 2) := by decide +kernel
theorem dX5_add_6 : decode cX5_add 6 = .ok (.if_icmp .ge 23, 3) := by decide +kernel
theorem dX5_add_9 : decode cX5_add 9 = .ok (.aload_n 0, 1) := by decide +kernel
theorem dX5_add_10 : decode cX5_add 10 = .ok (.getfield 9, 3) := by decide +kernel
theorem dX5_add_13 : decode cX5_add 13 = .ok (.aload_n 0, 1) := by decide +kernel
theorem dX5_add_14 : decode cX5_add 14 = .ok (.getfield 15, 3) := by decide +kernel
theorem dX5_add_17 : decode cX5_add 17 = .ok (.iload_n 1, 1) := by decide +kernel
theorem dX5_add_18 : decode cX5_add 18 = .ok (.castore, 1) := by decide +kernel
theorem dX5_add_19 : decode cX5_add 19 = .ok (.aload_n 0, 1) := by decide +kernel
theorem dX5_add_20 : decode cX5_add 20 = .ok (.dup, 1) := by decide +kernel
theorem dX5_add_21 : decode cX5_add 21 = .ok (.getfield 15, 3) := by decide +kernel
theorem dX5_add_24 : decode cX5_add 24 = .ok (.iconst 1, 1) := by decide +kernel
theorem dX5_add_25 : decode cX5_add 25 = .ok (.iadd, 1) := by decide +kernel
theorem dX5_add_26 : decode cX5_add 26 = .ok (.putfield 15, 3) := by decide +kernel
theorem dX5_add_29 : decode cX5_add 29 = .ok (.return_, 1) := by decide +kernel
theorem dX5_wipe_0 : decode cX5_wipe 0 = .ok (.aload_n 0, 1) := by decide +kernel
theorem dX5_wipe_1 : decode cX5_wipe 1 = .ok (.iconst 0, 1) := by decide +kernel
theorem dX5_wipe_2 : decode cX5_wipe 2 = .ok (.putfield 15, 3) := by decide +kernel
theorem dX5_wipe_5 : decode cX5_wipe 5 = .ok (.return_, 1) := by decide +kernel
theorem dX5_at_0 : decode cX5_at 0 = .ok (.iload_n 1, 1) := by decide +kernel
theorem dX5_at_1 : decode cX5_at 1 = .ok (.ifCond .lt 20, 3) := by decide +kernel
theorem dX5_at_4 : decode cX5_at 4 = .ok (.iload_n 1, 1) := by decide +kernel
theorem dX5_at_5 : decode cX5_at 5 = .ok (.aload_n 0, 1) := by decide +kernel
theorem dX5_at_6 : decode cX5_at 6 = .ok (.getfield 15, 3) := by decide +kernel
theorem dX5_at_9 : decode cX5_at 9 = .ok (.if_icmp .ge 12, 3) := by decide +kernel
theorem dX5_at_12 : decode cX5_at 12 = .ok (.aload_n 0, 1) := by decide +kernel
theorem dX5_at_13 : decode cX5_at 13 = .ok (.getfield 9, 3) := by decide +kernel
theorem dX5_at_16 : decode cX5_at 16 = .ok (.iload_n 1, 1) := by decide +kernel
theorem dX5_at_17 : decode cX5_at 17 = .ok (.caload, 1) := by decide +kernel
theorem dX5_at_18 : decode cX5_at 18 = .ok (.goto 4, 3) := by decide +kernel
theorem dX5_at_21 : decode cX5_at 21 = .ok (.iconst 0, 1) := by decide +kernel
end
section
theorem dX5_at_22 : decode cX5_at 22 = .ok (.ireturn, 1) := by decide +kernel
set_option maxRecDepth 20000 in
theorem ggX5_firstWrong_X5_fits : GoodIn wsX5_firstWrong wsX5_fits := goodIn_r _ [6, 7, 8, 9, 5, 10, 1, 11, 12, 13, 14, 15, 16, 17, 18, 19, 20, 21, 22, 23, 24, 25, 26, 27, 28, 29, 30, 31, 32, 33, 34, 35, 36, 37, 38, 39, 40, 41, 42, 43, 44, 45, 46, 47, 48, 49, 50, 51, 52, 53, 54, 55, 56, 57, 58, 59, 60, 61, 62, 63, 64, 65, 66, 67, 68, 69, 70, 71, 72, 73, 74, 75, 76, 77, 78, 79, 80, 81, 82, 83, 84, 85, 86, 87, 88, 89, 90, 91, 92, 93, 94, 95, 96, 97, 98, 99, 100, 101, 102] (by decide +kernel) (by decide +kernel)
set_option maxRecDepth 20000 in
theorem gX5_firstWrong_X5_fits : GoodIn wsX5_firstWrong (wsV RX5 19 RX5 yX5_fits wsX5_fits) := goodIn_app (goodIn_of _ (by decide +kernel)) ggX5_firstWrong_X5_fits
theorem dX5_firstWrong_0 : decode cX5_firstWrong 0 = .ok (.iconst 0, 1) := by decide +kernel
theorem dX5_firstWrong_1 : decode cX5_firstWrong 1 = .ok (.istore_n 1, 1) := by decide +kernel
theorem dX5_firstWrong_2 : decode cX5_firstWrong 2 = .ok (.iload_n 1, 1) := by decide +kernel
theorem dX5_firstWrong_3 : decode cX5_firstWrong 3 = .ok (.aload_n 0, 1) := by decide +kernel
theorem dX5_firstWrong_4 : decode cX5_firstWrong 4 = .ok (.getfield 15, 3) := by decide +kernel
theorem dX5_firstWrong_7 : decode cX5_firstWrong 7 = .ok (.if_icmp .ge 19, 3) := by decide +kernel
theorem dX5_firstWrong_10 : decode cX5_firstWrong 10 = .ok (.aload_n 0, 1) := by decide +kernel
theorem dX5_firstWrong_11 : decode cX5_firstWrong 11 = .ok (.iload_n 1, 1) := by decide +kernel
theorem dX5_firstWrong_12 : decode cX5_firstWrong 12 = .ok (.invokevirtual 19, 3) := by decide +kernel
theorem dX5_firstWrong_15 : decode cX5_firstWrong 15 = .ok (.ifCond .ne 5, 3) := by decide +kernel
theorem dX5_firstWrong_18 : decode cX5_firstWrong 18 = .ok (.iload_n 1, 1) := by decide +kernel
theorem dX5_firstWrong_19 : decode cX5_firstWrong 19 = .ok (.ireturn, 1) := by decide +kernel
theorem dX5_firstWrong_20 : decode cX5_firstWrong 20 = .ok (.iinc 1 1, 3) := by decide +kernel
theorem dX5_firstWrong_23 : decode cX5_firstWrong 23 = .ok (.goto (-21), 3) := by decide +kernel
theorem dX5_firstWrong_26 : decode cX5_firstWrong 26 = .ok (.aload_n 0, 1) := by decide +kernel
theorem dX5_firstWrong_27 : decode cX5_firstWrong 27 = .ok (.getfield 15, 3) := by decide +kernel
theorem dX5_firstWrong_30 : decode cX5_firstWrong 30 = .ok (.ireturn, 1) := by decide +kernel
set_option maxRecDepth 20000 in
theorem ggX5_isWhole_X5_firstWrong : GoodIn wsX5_isWhole wsX5_firstWrong := goodIn_r _ [6, 1, 7, 8, 9, 5, 10, 11, 12, 13, 14, 15, 16, 17, 18, 19, 20, 21, 22, 23, 24, 25, 26, 27, 28, 29, 30, 31, 32, 33, 34, 35, 36, 37, 38, 39, 40, 41, 42, 43, 44, 45, 46, 47, 48, 49, 50, 51, 52, 53, 54, 55, 56, 57, 58, 59, 60, 61, 62, 63, 64, 65, 66, 67, 68, 69, 70, 71, 72, 73, 74, 75, 76, 77, 78, 79, 80, 81, 82, 83, 84, 85, 86, 87, 88, 89, 90, 91, 92, 93, 94, 95, 96, 97, 98, 99, 100, 101, 102, 103, 104, 105, 106] (by decide +kernel) (by decide +kernel)
set_option maxRecDepth 20000 in
theorem gX5_isWhole_X5_firstWrong : GoodIn wsX5_isWhole (wsV RX5 23 RX5 yX5_firstWrong wsX5_firstWrong) := goodIn_app (goodIn_of _ (by decide +kernel)) ggX5_isWhole_X5_firstWrong
theorem dX5_isWhole_0 : decode cX5_isWhole 0 = .ok (.aload_n 0, 1) := by decide +kernel
theorem dX5_isWhole_1 : decode cX5_isWhole 1 = .ok (.getfield 15, 3) := by decide +kernel
theorem dX5_isWhole_4 : decode cX5_isWhole 4 = .ok (.iconst 3, 1) := by decide +kernel
theorem dX5_isWhole_5 : decode cX5_isWhole 5 = .ok (.irem, 1) := by decide +kernel
theorem dX5_isWhole_6 : decode cX5_isWhole 6 = .ok (.iconst 2, 1) := by decide +kernel
theorem dX5_isWhole_7 : decode cX5_isWhole 7 = .ok (.if_icmp .ne 18, 3) := by decide +kernel
theorem dX5_isWhole_10 : decode cX5_isWhole 10 = .ok (.aload_n 0, 1) := by decide +kernel
theorem dX5_isWhole_11 : decode cX5_isWhole 11 = .ok (.invokevirtual 23, 3) := by decide +kernel
theorem dX5_isWhole_14 : decode cX5_isWhole 14 = .ok (.aload_n 0, 1) := by decide +kernel
theorem dX5_isWhole_15 : decode cX5_isWhole 15 = .ok (.getfield 15, 3) := by decide +kernel
theorem dX5_isWhole_18 : decode cX5_isWhole 18 = .ok (.if_icmp .ne 7, 3) := by decide +kernel
theorem dX5_isWhole_21 : decode cX5_isWhole 21 = .ok (.iconst 1, 1) := by decide +kernel
theorem dX5_isWhole_22 : decode cX5_isWhole 22 = .ok (.goto 4, 3) := by decide +kernel
theorem dX5_isWhole_25 : decode cX5_isWhole 25 = .ok (.iconst 0, 1) := by decide +kernel
theorem dX5_isWhole_26 : decode cX5_isWhole 26 = .ok (.ireturn, 1) := by decide +kernel
theorem dX5_branches_0 : decode cX5_branches 0 = .ok (.aload_n 0, 1) := by decide +kernel
theorem dX5_branches_1 : decode cX5_branches 1 = .ok (.getfield 15, 3) := by decide +kernel
theorem dX5_branches_4 : decode cX5_branches 4 = .ok (.iconst 1, 1) := by decide +kernel
theorem dX5_branches_5 : decode cX5_branches 5 = .ok (.iadd, 1) := by decide +kernel
theorem dX5_branches_6 : decode cX5_branches 6 = .ok (.iconst 3, 1) := by decide +kernel
theorem dX5_branches_7 : decode cX5_branches 7 = .ok (.idiv, 1) := by decide +kernel
theorem dX5_branches_8 : decode cX5_branches 8 = .ok (.ireturn, 1) := by decide +kernel
set_option maxRecDepth 20000 in
theorem ggX5_kindAt_X5_at : GoodIn wsX5_kindAt wsX5_at := goodIn_r _ [9, 10, 11, 98, 99] (by decide +kernel) (by decide +kernel)
set_option maxRecDepth 20000 in
theorem gX5_kindAt_X5_at : GoodIn wsX5_kindAt (wsV RX5 29 RX5 yX5_at wsX5_at) := goodIn_app (goodIn_of _ (by decide +kernel)) ggX5_kindAt_X5_at
set_option maxRecDepth 20000 in
theorem ggX5_kindAt_J0_indexOf_0f7a4 : GoodIn wsX5_kindAt wsJ0_indexOf_0f7a4 := goodIn_r _ [16, 17, 18, 19, 15, 20, 21, 22, 23, 24, 25, 26, 27, 28, 29, 30, 31, 32, 33, 34, 35, 36, 37, 38, 39, 40, 2, 3, 4, 41, 42, 43, 44, 45, 46, 47, 48, 49, 50, 51, 52, 53, 54, 55, 56, 57, 58, 59, 60, 61, 62, 63, 64, 65, 66, 67, 68, 69, 70, 71, 72, 73, 74, 75, 76, 77, 78, 79, 80, 81, 82, 83, 84, 85, 86, 87, 88, 89, 90, 91, 92, 93, 94, 95, 96, 97] (by decide +kernel) (by decide +kernel)
set_option maxRecDepth 20000 in
theorem gX5_kindAt_J0_indexOf_0f7a4 : GoodIn wsX5_kindAt (wsV RX5 33 RJ0 yJ0_indexOf_0f7a4 wsJ0_indexOf_0f7a4) := goodIn_app (goodIn_of _ (by decide +kernel)) ggX5_kindAt_J0_indexOf_0f7a4
theorem dX5_kindAt_0 : decode cX5_kindAt 0 = .ok (.iconst 0, 1) := by decide +kernel
theorem dX5_kindAt_1 : decode cX5_kindAt 1 = .ok (.ldc 27, 2) := by decide +kernel
theorem dX5_kindAt_3 : decode cX5_kindAt 3 = .ok (.aload_n 0, 1) := by decide +kernel
theorem dX5_kindAt_4 : decode cX5_kindAt 4 = .ok (.iconst 3, 1) := by decide +kernel
theorem dX5_kindAt_5 : decode cX5_kindAt 5 = .ok (.iload_n 1, 1) := by decide +kernel
theorem dX5_kindAt_6 : decode cX5_kindAt 6 = .ok (.imul, 1) := by decide +kernel
theorem dX5_kindAt_7 : decode cX5_kindAt 7 = .ok (.invokevirtual 29, 3) := by decide +kernel
theorem dX5_kindAt_10 : decode cX5_kindAt 10 = .ok (.invokevirtual 33, 3) := by decide +kernel
theorem dX5_kindAt_13 : decode cX5_kindAt 13 = .ok (.invokestatic 39, 3) := by decide +kernel
theorem dX5_kindAt_16 : decode cX5_kindAt 16 = .ok (.ireturn, 1) := by decide +kernel
set_option maxRecDepth 20000 in
theorem ggX5_groundAt_X5_at : GoodIn wsX5_groundAt wsX5_at := goodIn_r _ [5, 6, 7, 8, 9] (by decide +kernel) (by decide +kernel)
set_option maxRecDepth 20000 in
theorem gX5_groundAt_X5_at : GoodIn wsX5_groundAt (wsV RX5 29 RX5 yX5_at wsX5_at) := goodIn_app (goodIn_of _ (by decide +kernel)) ggX5_groundAt_X5_at
theorem dX5_groundAt_0 : decode cX5_groundAt 0 = .ok (.aload_n 0, 1) := by decide +kernel
theorem dX5_groundAt_1 : decode cX5_groundAt 1 = .ok (.iconst 3, 1) := by decide +kernel
theorem dX5_groundAt_2 : decode cX5_groundAt 2 = .ok (.iload_n 1, 1) := by decide +kernel
theorem dX5_groundAt_3 : decode cX5_groundAt 3 = .ok (.imul, 1) := by decide +kernel
theorem dX5_groundAt_4 : decode cX5_groundAt 4 = .ok (.iconst 1, 1) := by decide +kernel
theorem dX5_groundAt_5 : decode cX5_groundAt 5 = .ok (.iadd, 1) := by decide +kernel
theorem dX5_groundAt_6 : decode cX5_groundAt 6 = .ok (.invokevirtual 29, 3) := by decide +kernel
theorem dX5_groundAt_9 : decode cX5_groundAt 9 = .ok (.istore_n 2, 1) := by decide +kernel
theorem dX5_groundAt_10 : decode cX5_groundAt 10 = .ok (.iload_n 2, 1) := by decide +kernel
theorem dX5_groundAt_11 : decode cX5_groundAt 11 = .ok (.bipush 48, 2) := by decide +kernel
theorem dX5_groundAt_13 : decode cX5_groundAt 13 = .ok (.if_icmp .lt 18, 3) := by decide +kernel
theorem dX5_groundAt_16 : decode cX5_groundAt 16 = .ok (.iload_n 2, 1) := by decide +kernel
theorem dX5_groundAt_17 : decode cX5_groundAt 17 = .ok (.bipush 48, 2) := by decide +kernel
theorem dX5_groundAt_19 : decode cX5_groundAt 19 = .ok (.iload_n 1, 1) := by decide +kernel
theorem dX5_groundAt_20 : decode cX5_groundAt 20 = .ok (.iadd, 1) := by decide +kernel
theorem dX5_groundAt_21 : decode cX5_groundAt 21 = .ok (.if_icmp .ge 10, 3) := by decide +kernel
theorem dX5_groundAt_24 : decode cX5_groundAt 24 = .ok (.iload_n 2, 1) := by decide +kernel
theorem dX5_groundAt_25 : decode cX5_groundAt 25 = .ok (.bipush 48, 2) := by decide +kernel
theorem dX5_groundAt_27 : decode cX5_groundAt 27 = .ok (.isub, 1) := by decide +kernel
theorem dX5_groundAt_28 : decode cX5_groundAt 28 = .ok (.goto 4, 3) := by decide +kernel
theorem dX5_groundAt_31 : decode cX5_groundAt 31 = .ok (.iconst (-1), 1) := by decide +kernel
theorem dX5_groundAt_32 : decode cX5_groundAt 32 = .ok (.ireturn, 1) := by decide +kernel
set_option maxRecDepth 20000 in
theorem ggX5_fits_X5_at : GoodIn wsX5_fits wsX5_at := goodIn_r _ [5, 6, 7, 97, 98] (by decide +kernel) (by decide +kernel)
set_option maxRecDepth 20000 in
theorem gX5_fits_X5_at : GoodIn wsX5_fits (wsV RX5 29 RX5 yX5_at wsX5_at) := goodIn_app (goodIn_of _ (by decide +kernel)) ggX5_fits_X5_at
set_option maxRecDepth 20000 in
theorem ggX5_fits_J0_indexOf_0f7a4 : GoodIn wsX5_fits wsJ0_indexOf_0f7a4 := goodIn_r _ [12, 13, 14, 15, 11, 16, 17, 18, 19, 20, 21, 22, 23, 24, 25, 26, 27, 28, 29, 30, 31, 32, 33, 34, 35, 36, 37, 38, 39, 40, 41, 42, 43, 44, 45, 46, 47, 48, 49, 50, 51, 52, 53, 54, 55, 56, 57, 58, 59, 60, 61, 62, 63, 64, 65, 66, 67, 68, 69, 70, 71, 72, 73, 74, 75, 76, 77, 78, 79, 80, 81, 82, 83, 84, 85, 86, 87, 88, 89, 90, 91, 92, 93, 94, 95, 96] (by decide +kernel) (by decide +kernel)
set_option maxRecDepth 20000 in
theorem gX5_fits_J0_indexOf_0f7a4 : GoodIn wsX5_fits (wsV RX5 33 RJ0 yJ0_indexOf_0f7a4 wsJ0_indexOf_0f7a4) := goodIn_app (goodIn_of _ (by decide +kernel)) ggX5_fits_J0_indexOf_0f7a4
theorem dX5_fits_0 : decode cX5_fits 0 = .ok (.iload_n 1, 1) := by decide +kernel
theorem dX5_fits_1 : decode cX5_fits 1 = .ok (.bipush 23, 2) := by decide +kernel
theorem dX5_fits_3 : decode cX5_fits 3 = .ok (.if_icmp .lt 5, 3) := by decide +kernel
theorem dX5_fits_6 : decode cX5_fits 6 = .ok (.iconst 0, 1) := by decide +kernel
theorem dX5_fits_7 : decode cX5_fits 7 = .ok (.ireturn, 1) := by decide +kernel
theorem dX5_fits_8 : decode cX5_fits 8 = .ok (.aload_n 0, 1) := by decide +kernel
theorem dX5_fits_9 : decode cX5_fits 9 = .ok (.iload_n 1, 1) := by decide +kernel
theorem dX5_fits_10 : decode cX5_fits 10 = .ok (.invokevirtual 29, 3) := by decide +kernel
theorem dX5_fits_13 : decode cX5_fits 13 = .ok (.istore_n 2, 1) := by decide +kernel
theorem dX5_fits_14 : decode cX5_fits 14 = .ok (.iload_n 1, 1) := by decide +kernel
theorem dX5_fits_15 : decode cX5_fits 15 = .ok (.iconst 3, 1) := by decide +kernel
theorem dX5_fits_16 : decode cX5_fits 16 = .ok (.irem, 1) := by decide +kernel
theorem dX5_fits_17 : decode cX5_fits 17 = .ok (.lookupswitch 70 #[(0, 27), (1, 42)], 27) := by decide +kernel
theorem dX5_fits_44 : decode cX5_fits 44 = .ok (.ldc 27, 2) := by decide +kernel
theorem dX5_fits_46 : decode cX5_fits 46 = .ok (.iload_n 2, 1) := by decide +kernel
theorem dX5_fits_47 : decode cX5_fits 47 = .ok (.invokevirtual 33, 3) := by decide +kernel
theorem dX5_fits_50 : decode cX5_fits 50 = .ok (.ifCond .lt 7, 3) := by decide +kernel
theorem dX5_fits_53 : decode cX5_fits 53 = .ok (.iconst 1, 1) := by decide +kernel
theorem dX5_fits_54 : decode cX5_fits 54 = .ok (.goto 4, 3) := by decide +kernel
theorem dX5_fits_57 : decode cX5_fits 57 = .ok (.iconst 0, 1) := by decide +kernel
theorem dX5_fits_58 : decode cX5_fits 58 = .ok (.ireturn, 1) := by decide +kernel
theorem dX5_fits_59 : decode cX5_fits 59 = .ok (.iload_n 2, 1) := by decide +kernel
theorem dX5_fits_60 : decode cX5_fits 60 = .ok (.bipush 45, 2) := by decide +kernel
theorem dX5_fits_62 : decode cX5_fits 62 = .ok (.if_icmp .eq 19, 3) := by decide +kernel
theorem dX5_fits_65 : decode cX5_fits 65 = .ok (.iload_n 2, 1) := by decide +kernel
theorem dX5_fits_66 : decode cX5_fits 66 = .ok (.bipush 48, 2) := by decide +kernel
theorem dX5_fits_68 : decode cX5_fits 68 = .ok (.if_icmp .lt 17, 3) := by decide +kernel
theorem dX5_fits_71 : decode cX5_fits 71 = .ok (.iload_n 2, 1) := by decide +kernel
theorem dX5_fits_72 : decode cX5_fits 72 = .ok (.bipush 48, 2) := by decide +kernel
theorem dX5_fits_74 : decode cX5_fits 74 = .ok (.iload_n 1, 1) := by decide +kernel
theorem dX5_fits_75 : decode cX5_fits 75 = .ok (.iconst 3, 1) := by decide +kernel
theorem dX5_fits_76 : decode cX5_fits 76 = .ok (.idiv, 1) := by decide +kernel
theorem dX5_fits_77 : decode cX5_fits 77 = .ok (.iadd, 1) := by decide +kernel
theorem dX5_fits_78 : decode cX5_fits 78 = .ok (.if_icmp .ge 7, 3) := by decide +kernel
theorem dX5_fits_81 : decode cX5_fits 81 = .ok (.iconst 1, 1) := by decide +kernel
theorem dX5_fits_82 : decode cX5_fits 82 = .ok (.goto 4, 3) := by decide +kernel
theorem dX5_fits_85 : decode cX5_fits 85 = .ok (.iconst 0, 1) := by decide +kernel
theorem dX5_fits_86 : decode cX5_fits 86 = .ok (.ireturn, 1) := by decide +kernel
theorem dX5_fits_87 : decode cX5_fits 87 = .ok (.iload_n 2, 1) := by decide +kernel
theorem dX5_fits_88 : decode cX5_fits 88 = .ok (.bipush 44, 2) := by decide +kernel
theorem dX5_fits_90 : decode cX5_fits 90 = .ok (.if_icmp .ne 7, 3) := by decide +kernel
theorem dX5_fits_93 : decode cX5_fits 93 = .ok (.iconst 1, 1) := by decide +kernel
theorem dX5_fits_94 : decode cX5_fits 94 = .ok (.goto 4, 3) := by decide +kernel
theorem dX5_fits_97 : decode cX5_fits 97 = .ok (.iconst 0, 1) := by decide +kernel
theorem dX5_fits_98 : decode cX5_fits 98 = .ok (.ireturn, 1) := by decide +kernel
theorem dX6_init_0 : decode cX6_init 0 = .ok (.aload_n 0, 1) := by decide +kernel
theorem dX6_init_1 : decode cX6_init 1 = .ok (.invokespecial 3, 3) := by decide +kernel
theorem dX6_init_4 : decode cX6_init 4 = .ok (.aload_n 0, 1) := by decide +kernel
theorem dX6_init_5 : decode cX6_init 5 = .ok (.aload_n 1, 1) := by decide +kernel
theorem dX6_init_6 : decode cX6_init 6 = .ok (.putfield 9, 3) := by decide +kernel
theorem dX6_init_9 : decode cX6_init 9 = .ok (.aload_n 0, 1) := by decide +kernel
theorem dX6_init_10 : decode cX6_init 10 = .ok (.aload_n 2, 1) := by decide +kernel
theorem dX6_init_11 : decode cX6_init 11 = .ok (.putfield 15, 3) := by decide +kernel
theorem dX6_init_14 : decode cX6_init 14 = .ok (.return_, 1) := by decide +kernel
theorem dX6_kindsCutBy_0 : decode cX6_kindsCutBy 0 = .ok (.iload_n 1, 1) := by decide +kernel
theorem dX6_kindsCutBy_1 : decode cX6_kindsCutBy 1 = .ok (.iconst 1, 1) := by decide +kernel
theorem dX6_kindsCutBy_2 : decode cX6_kindsCutBy 2 = .ok (.if_icmp .ne 5, 3) := by decide +kernel
theorem dX6_kindsCutBy_5 : decode cX6_kindsCutBy 5 = .ok (.iconst 5, 1) := by decide +kernel
theorem dX6_kindsCutBy_6 : decode cX6_kindsCutBy 6 = .ok (.ireturn, 1) := by decide +kernel
theorem dX6_kindsCutBy_7 : decode cX6_kindsCutBy 7 = .ok (.iload_n 3, 1) := by decide +kernel
theorem dX6_kindsCutBy_8 : decode cX6_kindsCutBy 8 = .ok (.aload_n 0, 1) := by decide +kernel
theorem dX6_kindsCutBy_9 : decode cX6_kindsCutBy 9 = .ok (.getfield 9, 3) := by decide +kernel
theorem dX6_kindsCutBy_12 : decode cX6_kindsCutBy 12 = .ok (.getfield 19, 3) := by decide +kernel
theorem dX6_kindsCutBy_15 : decode cX6_kindsCutBy 15 = .ok (.iload_n 2, 1) := by decide +kernel
theorem dX6_kindsCutBy_16 : decode cX6_kindsCutBy 16 = .ok (.iaload, 1) := by decide +kernel
theorem dX6_kindsCutBy_17 : decode cX6_kindsCutBy 17 = .ok (.iand, 1) := by decide +kernel
theorem dX6_kindsCutBy_18 : decode cX6_kindsCutBy 18 = .ok (.ifCond .ne 7, 3) := by decide +kernel
theorem dX6_kindsCutBy_21 : decode cX6_kindsCutBy 21 = .ok (.iconst 1, 1) := by decide +kernel
theorem dX6_kindsCutBy_22 : decode cX6_kindsCutBy 22 = .ok (.goto 4, 3) := by decide +kernel
theorem dX6_kindsCutBy_25 : decode cX6_kindsCutBy 25 = .ok (.iconst 0, 1) := by decide +kernel
theorem dX6_kindsCutBy_26 : decode cX6_kindsCutBy 26 = .ok (.istore 4, 2) := by decide +kernel
theorem dX6_kindsCutBy_28 : decode cX6_kindsCutBy 28 = .ok (.iload 4, 2) := by decide +kernel
theorem dX6_kindsCutBy_30 : decode cX6_kindsCutBy 30 = .ok (.ifCond .eq 8, 3) := by decide +kernel
theorem dX6_kindsCutBy_33 : decode cX6_kindsCutBy 33 = .ok (.bipush 19, 2) := by decide +kernel
theorem dX6_kindsCutBy_35 : decode cX6_kindsCutBy 35 = .ok (.goto 4, 3) := by decide +kernel
theorem dX6_kindsCutBy_38 : decode cX6_kindsCutBy 38 = .ok (.iconst 3, 1) := by decide +kernel
theorem dX6_kindsCutBy_39 : decode cX6_kindsCutBy 39 = .ok (.ireturn, 1) := by decide +kernel
set_option maxRecDepth 20000 in
theorem ggX6_choices_X6_kindsCutBy : GoodIn wsX6_choices wsX6_kindsCutBy := goodIn_r _ [7, 1, 8, 9, 10, 11, 12, 13, 14] (by decide +kernel) (by decide +kernel)
set_option maxRecDepth 20000 in
theorem gX6_choices_X6_kindsCutBy : GoodIn wsX6_choices (wsV RX6 29 RX6 yX6_kindsCutBy wsX6_kindsCutBy) := goodIn_app (goodIn_of _ (by decide +kernel)) ggX6_choices_X6_kindsCutBy
theorem dX6_choices_0 : decode cX6_choices 0 = .ok (.iconst 0, 1) := by decide +kernel
theorem dX6_choices_1 : decode cX6_choices 1 = .ok (.istore_n 3, 1) := by decide +kernel
theorem dX6_choices_2 : decode cX6_choices 2 = .ok (.iconst 0, 1) := by decide +kernel
theorem dX6_choices_3 : decode cX6_choices 3 = .ok (.istore 4, 2) := by decide +kernel
theorem dX6_choices_5 : decode cX6_choices 5 = .ok (.iload 4, 2) := by decide +kernel
theorem dX6_choices_7 : decode cX6_choices 7 = .ok (.aload_n 0, 1) := by decide +kernel
theorem dX6_choices_8 : decode cX6_choices 8 = .ok (.getfield 9, 3) := by decide +kernel
theorem dX6_choices_11 : decode cX6_choices 11 = .ok (.getfield 25, 3) := by decide +kernel
theorem dX6_choices_14 : decode cX6_choices 14 = .ok (.if_icmp .ge 49, 3) := by decide +kernel
theorem dX6_choices_17 : decode cX6_choices 17 = .ok (.iload_n 2, 1) := by decide +kernel
theorem dX6_choices_18 : decode cX6_choices 18 = .ok (.iload 4, 2) := by decide +kernel
theorem dX6_choices_20 : decode cX6_choices 20 = .ok (.ishr, 1) := by decide +kernel
theorem dX6_choices_21 : decode cX6_choices 21 = .ok (.iconst 1, 1) := by decide +kernel
theorem dX6_choices_22 : decode cX6_choices 22 = .ok (.iand, 1) := by decide +kernel
theorem dX6_choices_23 : decode cX6_choices 23 = .ok (.ifCond .eq 34, 3) := by decide +kernel
theorem dX6_choices_26 : decode cX6_choices 26 = .ok (.aload_n 0, 1) := by decide +kernel
theorem dX6_choices_27 : decode cX6_choices 27 = .ok (.iload_n 1, 1) := by decide +kernel
theorem dX6_choices_28 : decode cX6_choices 28 = .ok (.iload 4, 2) := by decide +kernel
theorem dX6_choices_30 : decode cX6_choices 30 = .ok (.iload_n 2, 1) := by decide +kernel
theorem dX6_choices_31 : decode cX6_choices 31 = .ok (.invokevirtual 29, 3) := by decide +kernel
theorem dX6_choices_34 : decode cX6_choices 34 = .ok (.aload_n 0, 1) := by decide +kernel
theorem dX6_choices_35 : decode cX6_choices 35 = .ok (.getfield 15, 3) := by decide +kernel
theorem dX6_choices_38 : decode cX6_choices 38 = .ok (.getfield 33, 3) := by decide +kernel
theorem dX6_choices_41 : decode cX6_choices 41 = .ok (.iload 4, 2) := by decide +kernel
theorem dX6_choices_43 : decode cX6_choices 43 = .ok (.iaload, 1) := by decide +kernel
theorem dX6_choices_44 : decode cX6_choices 44 = .ok (.ishr, 1) := by decide +kernel
theorem dX6_choices_45 : decode cX6_choices 45 = .ok (.iconst 1, 1) := by decide +kernel
theorem dX6_choices_46 : decode cX6_choices 46 = .ok (.iand, 1) := by decide +kernel
theorem dX6_choices_47 : decode cX6_choices 47 = .ok (.ifCond .eq 10, 3) := by decide +kernel
theorem dX6_choices_50 : decode cX6_choices 50 = .ok (.iload_n 3, 1) := by decide +kernel
theorem dX6_choices_51 : decode cX6_choices 51 = .ok (.iconst 1, 1) := by decide +kernel
theorem dX6_choices_52 : decode cX6_choices 52 = .ok (.iload 4, 2) := by decide +kernel
theorem dX6_choices_54 : decode cX6_choices 54 = .ok (.ishl, 1) := by decide +kernel
theorem dX6_choices_55 : decode cX6_choices 55 = .ok (.ior, 1) := by decide +kernel
theorem dX6_choices_56 : decode cX6_choices 56 = .ok (.istore_n 3, 1) := by decide +kernel
theorem dX6_choices_57 : decode cX6_choices 57 = .ok (.iinc 4 1, 3) := by decide +kernel
theorem dX6_choices_60 : decode cX6_choices 60 = .ok (.goto (-55), 3) := by decide +kernel
theorem dX6_choices_63 : decode cX6_choices 63 = .ok (.iload_n 3, 1) := by decide +kernel
theorem dX6_choices_64 : decode cX6_choices 64 = .ok (.ireturn, 1) := by decide +kernel
theorem dX6_leftBy_0 : decode cX6_leftBy 0 = .ok (.iload_n 2, 1) := by decide +kernel
theorem dX6_leftBy_1 : decode cX6_leftBy 1 = .ok (.aload_n 0, 1) := by decide +kernel
theorem dX6_leftBy_2 : decode cX6_leftBy 2 = .ok (.getfield 9, 3) := by decide +kernel
theorem dX6_leftBy_5 : decode cX6_leftBy 5 = .ok (.getfield 19, 3) := by decide +kernel
theorem dX6_leftBy_8 : decode cX6_leftBy 8 = .ok (.iload_n 1, 1) := by decide +kernel
theorem dX6_leftBy_9 : decode cX6_leftBy 9 = .ok (.iaload, 1) := by decide +kernel
theorem dX6_leftBy_10 : decode cX6_leftBy 10 = .ok (.iconst 1, 1) := by decide +kernel
theorem dX6_leftBy_11 : decode cX6_leftBy 11 = .ok (.iload_n 1, 1) := by decide +kernel
theorem dX6_leftBy_12 : decode cX6_leftBy 12 = .ok (.ishl, 1) := by decide +kernel
theorem dX6_leftBy_13 : decode cX6_leftBy 13 = .ok (.ior, 1) := by decide +kernel
theorem dX6_leftBy_14 : decode cX6_leftBy 14 = .ok (.iconst (-1), 1) := by decide +kernel
theorem dX6_leftBy_15 : decode cX6_leftBy 15 = .ok (.ixor, 1) := by decide +kernel
theorem dX6_leftBy_16 : decode cX6_leftBy 16 = .ok (.iand, 1) := by decide +kernel
theorem dX6_leftBy_17 : decode cX6_leftBy 17 = .ok (.ireturn, 1) := by decide +kernel
theorem dX7_init_0 : decode cX7_init 0 = .ok (.aload_n 0, 1) := by decide +kernel
theorem dX7_init_1 : decode cX7_init 1 = .ok (.invokespecial 3, 3) := by decide +kernel
theorem dX7_init_4 : decode cX7_init 4 = .ok (.aload_n 0, 1) := by decide +kernel
theorem dX7_init_5 : decode cX7_init 5 = .ok (.iconst 0, 1) := by decide +kernel
theorem dX7_init_6 : decode cX7_init 6 = .ok (.putfield 9, 3) := by decide +kernel
theorem dX7_init_9 : decode cX7_init 9 = .ok (.aload_n 0, 1) := by decide +kernel
theorem dX7_init_10 : decode cX7_init 10 = .ok (.bipush 6, 2) := by decide +kernel
theorem dX7_init_12 : decode cX7_init 12 = .ok (.newarray .int, 2) := by decide +kernel
theorem dX7_init_14 : decode cX7_init 14 = .ok (.putfield 15, 3) := by decide +kernel
theorem dX7_init_17 : decode cX7_init 17 = .ok (.aload_n 0, 1) := by decide +kernel
theorem dX7_init_18 : decode cX7_init 18 = .ok (.bipush 6, 2) := by decide +kernel
theorem dX7_init_20 : decode cX7_init 20 = .ok (.newarray .int, 2) := by decide +kernel
theorem dX7_init_22 : decode cX7_init 22 = .ok (.putfield 19, 3) := by decide +kernel
theorem dX7_init_25 : decode cX7_init 25 = .ok (.aload_n 0, 1) := by decide +kernel
theorem dX7_init_26 : decode cX7_init 26 = .ok (.bipush 6, 2) := by decide +kernel
theorem dX7_init_28 : decode cX7_init 28 = .ok (.newarray .boolean, 2) := by decide +kernel
theorem dX7_init_30 : decode cX7_init 30 = .ok (.putfield 22, 3) := by decide +kernel
theorem dX7_init_33 : decode cX7_init 33 = .ok (.return_, 1) := by decide +kernel
theorem dX7_add_0 : decode cX7_add 0 = .ok (.aload_n 0, 1) := by decide +kernel
theorem dX7_add_1 : decode cX7_add 1 = .ok (.getfield 9, 3) := by decide +kernel
theorem dX7_add_4 : decode cX7_add 4 = .ok (.bipush 6, 2) := by decide +kernel
theorem dX7_add_6 : decode cX7_add 6 = .ok (.if_icmp .ge 43, 3) := by decide +kernel
theorem dX7_add_9 : decode cX7_add 9 = .ok (.aload_n 0, 1) := by decide +kernel
theorem dX7_add_10 : decode cX7_add 10 = .ok (.getfield 15, 3) := by decide +kernel
theorem dX7_add_13 : decode cX7_add 13 = .ok (.aload_n 0, 1) := by decide +kernel
theorem dX7_add_14 : decode cX7_add 14 = .ok (.getfield 9, 3) := by decide +kernel
theorem dX7_add_17 : decode cX7_add 17 = .ok (.iload_n 1, 1) := by decide +kernel
theorem dX7_add_18 : decode cX7_add 18 = .ok (.iastore, 1) := by decide +kernel
theorem dX7_add_19 : decode cX7_add 19 = .ok (.aload_n 0, 1) := by decide +kernel
theorem dX7_add_20 : decode cX7_add 20 = .ok (.getfield 19, 3) := by decide +kernel
theorem dX7_add_23 : decode cX7_add 23 = .ok (.aload_n 0, 1) := by decide +kernel
theorem dX7_add_24 : decode cX7_add 24 = .ok (.getfield 9, 3) := by decide +kernel
theorem dX7_add_27 : decode cX7_add 27 = .ok (.iload_n 2, 1) := by decide +kernel
theorem dX7_add_28 : decode cX7_add 28 = .ok (.iastore, 1) := by decide +kernel
theorem dX7_add_29 : decode cX7_add 29 = .ok (.aload_n 0, 1) := by decide +kernel
theorem dX7_add_30 : decode cX7_add 30 = .ok (.getfield 22, 3) := by decide +kernel
theorem dX7_add_33 : decode cX7_add 33 = .ok (.aload_n 0, 1) := by decide +kernel
theorem dX7_add_34 : decode cX7_add 34 = .ok (.getfield 9, 3) := by decide +kernel
theorem dX7_add_37 : decode cX7_add 37 = .ok (.iload_n 3, 1) := by decide +kernel
theorem dX7_add_38 : decode cX7_add 38 = .ok (.bastore, 1) := by decide +kernel
theorem dX7_add_39 : decode cX7_add 39 = .ok (.aload_n 0, 1) := by decide +kernel
theorem dX7_add_40 : decode cX7_add 40 = .ok (.dup, 1) := by decide +kernel
theorem dX7_add_41 : decode cX7_add 41 = .ok (.getfield 9, 3) := by decide +kernel
theorem dX7_add_44 : decode cX7_add 44 = .ok (.iconst 1, 1) := by decide +kernel
theorem dX7_add_45 : decode cX7_add 45 = .ok (.iadd, 1) := by decide +kernel
theorem dX7_add_46 : decode cX7_add 46 = .ok (.putfield 9, 3) := by decide +kernel
theorem dX7_add_49 : decode cX7_add 49 = .ok (.return_, 1) := by decide +kernel
theorem dX7_copyFrom_0 : decode cX7_copyFrom 0 = .ok (.aload_n 0, 1) := by decide +kernel
theorem dX7_copyFrom_1 : decode cX7_copyFrom 1 = .ok (.aload_n 1, 1) := by decide +kernel
theorem dX7_copyFrom_2 : decode cX7_copyFrom 2 = .ok (.getfield 9, 3) := by decide +kernel
theorem dX7_copyFrom_5 : decode cX7_copyFrom 5 = .ok (.putfield 9, 3) := by decide +kernel
theorem dX7_copyFrom_8 : decode cX7_copyFrom 8 = .ok (.iconst 0, 1) := by decide +kernel
theorem dX7_copyFrom_9 : decode cX7_copyFrom 9 = .ok (.istore_n 2, 1) := by decide +kernel
theorem dX7_copyFrom_10 : decode cX7_copyFrom 10 = .ok (.iload_n 2, 1) := by decide +kernel
theorem dX7_copyFrom_11 : decode cX7_copyFrom 11 = .ok (.bipush 6, 2) := by decide +kernel
theorem dX7_copyFrom_13 : decode cX7_copyFrom 13 = .ok (.if_icmp .ge 45, 3) := by decide +kernel
theorem dX7_copyFrom_16 : decode cX7_copyFrom 16 = .ok (.aload_n 0, 1) := by decide +kernel
theorem dX7_copyFrom_17 : decode cX7_copyFrom 17 = .ok (.getfield 15, 3) := by decide +kernel
theorem dX7_copyFrom_20 : decode cX7_copyFrom 20 = .ok (.iload_n 2, 1) := by decide +kernel
theorem dX7_copyFrom_21 : decode cX7_copyFrom 21 = .ok (.aload_n 1, 1) := by decide +kernel
theorem dX7_copyFrom_22 : decode cX7_copyFrom 22 = .ok (.getfield 15, 3) := by decide +kernel
theorem dX7_copyFrom_25 : decode cX7_copyFrom 25 = .ok (.iload_n 2, 1) := by decide +kernel
theorem dX7_copyFrom_26 : decode cX7_copyFrom 26 = .ok (.iaload, 1) := by decide +kernel
theorem dX7_copyFrom_27 : decode cX7_copyFrom 27 = .ok (.iastore, 1) := by decide +kernel
theorem dX7_copyFrom_28 : decode cX7_copyFrom 28 = .ok (.aload_n 0, 1) := by decide +kernel
theorem dX7_copyFrom_29 : decode cX7_copyFrom 29 = .ok (.getfield 19, 3) := by decide +kernel
theorem dX7_copyFrom_32 : decode cX7_copyFrom 32 = .ok (.iload_n 2, 1) := by decide +kernel
theorem dX7_copyFrom_33 : decode cX7_copyFrom 33 = .ok (.aload_n 1, 1) := by decide +kernel
theorem dX7_copyFrom_34 : decode cX7_copyFrom 34 = .ok (.getfield 19, 3) := by decide +kernel
theorem dX7_copyFrom_37 : decode cX7_copyFrom 37 = .ok (.iload_n 2, 1) := by decide +kernel
theorem dX7_copyFrom_38 : decode cX7_copyFrom 38 = .ok (.iaload, 1) := by decide +kernel
theorem dX7_copyFrom_39 : decode cX7_copyFrom 39 = .ok (.iastore, 1) := by decide +kernel
theorem dX7_copyFrom_40 : decode cX7_copyFrom 40 = .ok (.aload_n 0, 1) := by decide +kernel
theorem dX7_copyFrom_41 : decode cX7_copyFrom 41 = .ok (.getfield 22, 3) := by decide +kernel
theorem dX7_copyFrom_44 : decode cX7_copyFrom 44 = .ok (.iload_n 2, 1) := by decide +kernel
theorem dX7_copyFrom_45 : decode cX7_copyFrom 45 = .ok (.aload_n 1, 1) := by decide +kernel
theorem dX7_copyFrom_46 : decode cX7_copyFrom 46 = .ok (.getfield 22, 3) := by decide +kernel
theorem dX7_copyFrom_49 : decode cX7_copyFrom 49 = .ok (.iload_n 2, 1) := by decide +kernel
theorem dX7_copyFrom_50 : decode cX7_copyFrom 50 = .ok (.baload, 1) := by decide +kernel
theorem dX7_copyFrom_51 : decode cX7_copyFrom 51 = .ok (.bastore, 1) := by decide +kernel
theorem dX7_copyFrom_52 : decode cX7_copyFrom 52 = .ok (.iinc 2 1, 3) := by decide +kernel
theorem dX7_copyFrom_55 : decode cX7_copyFrom 55 = .ok (.goto (-45), 3) := by decide +kernel
theorem dX7_copyFrom_58 : decode cX7_copyFrom 58 = .ok (.return_, 1) := by decide +kernel
theorem dX8_init_0 : decode cX8_init 0 = .ok (.aload_n 0, 1) := by decide +kernel
theorem dX8_init_1 : decode cX8_init 1 = .ok (.invokespecial 3, 3) := by decide +kernel
theorem dX8_init_4 : decode cX8_init 4 = .ok (.aload_n 0, 1) := by decide +kernel
theorem dX8_init_5 : decode cX8_init 5 = .ok (.iconst 0, 1) := by decide +kernel
theorem dX8_init_6 : decode cX8_init 6 = .ok (.putfield 9, 3) := by decide +kernel
theorem dX8_init_9 : decode cX8_init 9 = .ok (.aload_n 0, 1) := by decide +kernel
theorem dX8_init_10 : decode cX8_init 10 = .ok (.bipush 8, 2) := by decide +kernel
theorem dX8_init_12 : decode cX8_init 12 = .ok (.newarray .int, 2) := by decide +kernel
theorem dX8_init_14 : decode cX8_init 14 = .ok (.putfield 15, 3) := by decide +kernel
theorem dX8_init_17 : decode cX8_init 17 = .ok (.aload_n 0, 1) := by decide +kernel
theorem dX8_init_18 : decode cX8_init 18 = .ok (.bipush 8, 2) := by decide +kernel
theorem dX8_init_20 : decode cX8_init 20 = .ok (.newarray .int, 2) := by decide +kernel
theorem dX8_init_22 : decode cX8_init 22 = .ok (.putfield 19, 3) := by decide +kernel
theorem dX8_init_25 : decode cX8_init 25 = .ok (.aload_n 0, 1) := by decide +kernel
theorem dX8_init_26 : decode cX8_init 26 = .ok (.sipush 256, 3) := by decide +kernel
theorem dX8_init_29 : decode cX8_init 29 = .ok (.newarray .int, 2) := by decide +kernel
theorem dX8_init_31 : decode cX8_init 31 = .ok (.putfield 22, 3) := by decide +kernel
theorem dX8_init_34 : decode cX8_init 34 = .ok (.aload_n 0, 1) := by decide +kernel
theorem dX8_init_35 : decode cX8_init 35 = .ok (.iconst 0, 1) := by decide +kernel
theorem dX8_init_36 : decode cX8_init 36 = .ok (.putfield 25, 3) := by decide +kernel
theorem dX8_init_39 : decode cX8_init 39 = .ok (.return_, 1) := by decide +kernel
set_option maxRecDepth 20000 in
theorem ggX8_readFrom_X5_branches : GoodIn wsX8_readFrom wsX5_branches := goodIn_r _ [12, 13, 47, 48] (by decide +kernel) (by decide +kernel)
set_option maxRecDepth 20000 in
theorem gX8_readFrom_X5_branches : GoodIn wsX8_readFrom (wsV RX8 28 RX5 yX5_branches wsX5_branches) := goodIn_app (goodIn_of _ (by decide +kernel)) ggX8_readFrom_X5_branches
set_option maxRecDepth 20000 in
theorem ggX8_readFrom_X5_groundAt : GoodIn wsX8_readFrom wsX5_groundAt := goodIn_r _ [17, 18, 19, 20, 11, 21, 13, 22, 47, 48] (by decide +kernel) (by decide +kernel)
set_option maxRecDepth 20000 in
theorem gX8_readFrom_X5_groundAt : GoodIn wsX8_readFrom (wsV RX8 40 RX5 yX5_groundAt wsX5_groundAt) := goodIn_app (goodIn_of _ (by decide +kernel)) ggX8_readFrom_X5_groundAt
set_option maxRecDepth 20000 in
theorem ggX8_readFrom_X8_withAllOn : GoodIn wsX8_readFrom wsX8_withAllOn := goodIn_r _ [27, 7, 42, 43, 44, 45, 46] (by decide +kernel) (by decide +kernel)
set_option maxRecDepth 20000 in
theorem gX8_readFrom_X8_withAllOn : GoodIn wsX8_readFrom (wsV RX8 44 RX8 yX8_withAllOn wsX8_withAllOn) := goodIn_app (goodIn_of _ (by decide +kernel)) ggX8_readFrom_X8_withAllOn
set_option maxRecDepth 20000 in
theorem ggX8_readFrom_X8_findSets : GoodIn wsX8_readFrom wsX8_findSets := goodIn_r _ [31, 32, 5, 33, 34, 35, 36, 26, 37, 38, 39, 40, 41, 6, 42, 43, 44, 45, 46] (by decide +kernel) (by decide +kernel)
set_option maxRecDepth 20000 in
theorem gX8_readFrom_X8_findSets : GoodIn wsX8_readFrom (wsV RX8 47 RX8 yX8_findSets wsX8_findSets) := goodIn_app (goodIn_of _ (by decide +kernel)) ggX8_readFrom_X8_findSets
theorem dX8_readFrom_0 : decode cX8_readFrom 0 = .ok (.aload_n 0, 1) := by decide +kernel
theorem dX8_readFrom_1 : decode cX8_readFrom 1 = .ok (.aload_n 1, 1) := by decide +kernel
theorem dX8_readFrom_2 : decode cX8_readFrom 2 = .ok (.invokevirtual 28, 3) := by decide +kernel
theorem dX8_readFrom_5 : decode cX8_readFrom 5 = .ok (.bipush 8, 2) := by decide +kernel
theorem dX8_readFrom_7 : decode cX8_readFrom 7 = .ok (.invokestatic 34, 3) := by decide +kernel
theorem dX8_readFrom_10 : decode cX8_readFrom 10 = .ok (.putfield 9, 3) := by decide +kernel
theorem dX8_readFrom_13 : decode cX8_readFrom 13 = .ok (.iconst 0, 1) := by decide +kernel
theorem dX8_readFrom_14 : decode cX8_readFrom 14 = .ok (.istore_n 2, 1) := by decide +kernel
theorem dX8_readFrom_15 : decode cX8_readFrom 15 = .ok (.iload_n 2, 1) := by decide +kernel
theorem dX8_readFrom_16 : decode cX8_readFrom 16 = .ok (.aload_n 0, 1) := by decide +kernel
theorem dX8_readFrom_17 : decode cX8_readFrom 17 = .ok (.getfield 9, 3) := by decide +kernel
theorem dX8_readFrom_20 : decode cX8_readFrom 20 = .ok (.if_icmp .ge 27, 3) := by decide +kernel
theorem dX8_readFrom_23 : decode cX8_readFrom 23 = .ok (.aload_n 0, 1) := by decide +kernel
theorem dX8_readFrom_24 : decode cX8_readFrom 24 = .ok (.getfield 15, 3) := by decide +kernel
theorem dX8_readFrom_27 : decode cX8_readFrom 27 = .ok (.iload_n 2, 1) := by decide +kernel
theorem dX8_readFrom_28 : decode cX8_readFrom 28 = .ok (.aload_n 1, 1) := by decide +kernel
theorem dX8_readFrom_29 : decode cX8_readFrom 29 = .ok (.iload_n 2, 1) := by decide +kernel
theorem dX8_readFrom_30 : decode cX8_readFrom 30 = .ok (.invokevirtual 40, 3) := by decide +kernel
theorem dX8_readFrom_33 : decode cX8_readFrom 33 = .ok (.iastore, 1) := by decide +kernel
theorem dX8_readFrom_34 : decode cX8_readFrom 34 = .ok (.aload_n 0, 1) := by decide +kernel
theorem dX8_readFrom_35 : decode cX8_readFrom 35 = .ok (.getfield 19, 3) := by decide +kernel
theorem dX8_readFrom_38 : decode cX8_readFrom 38 = .ok (.iload_n 2, 1) := by decide +kernel
theorem dX8_readFrom_39 : decode cX8_readFrom 39 = .ok (.iconst 0, 1) := by decide +kernel
theorem dX8_readFrom_40 : decode cX8_readFrom 40 = .ok (.iastore, 1) := by decide +kernel
theorem dX8_readFrom_41 : decode cX8_readFrom 41 = .ok (.iinc 2 1, 3) := by decide +kernel
theorem dX8_readFrom_44 : decode cX8_readFrom 44 = .ok (.goto (-29), 3) := by decide +kernel
theorem dX8_readFrom_47 : decode cX8_readFrom 47 = .ok (.aload_n 0, 1) := by decide +kernel
theorem dX8_readFrom_48 : decode cX8_readFrom 48 = .ok (.getfield 9, 3) := by decide +kernel
theorem dX8_readFrom_51 : decode cX8_readFrom 51 = .ok (.iconst 1, 1) := by decide +kernel
theorem dX8_readFrom_52 : decode cX8_readFrom 52 = .ok (.isub, 1) := by decide +kernel
theorem dX8_readFrom_53 : decode cX8_readFrom 53 = .ok (.istore_n 2, 1) := by decide +kernel
theorem dX8_readFrom_54 : decode cX8_readFrom 54 = .ok (.iload_n 2, 1) := by decide +kernel
theorem dX8_readFrom_55 : decode cX8_readFrom 55 = .ok (.ifCond .le 39, 3) := by decide +kernel
theorem dX8_readFrom_58 : decode cX8_readFrom 58 = .ok (.aload_n 0, 1) := by decide +kernel
theorem dX8_readFrom_59 : decode cX8_readFrom 59 = .ok (.getfield 15, 3) := by decide +kernel
theorem dX8_readFrom_62 : decode cX8_readFrom 62 = .ok (.iload_n 2, 1) := by decide +kernel
theorem dX8_readFrom_63 : decode cX8_readFrom 63 = .ok (.iaload, 1) := by decide +kernel
theorem dX8_readFrom_64 : decode cX8_readFrom 64 = .ok (.istore_n 3, 1) := by decide +kernel
theorem dX8_readFrom_65 : decode cX8_readFrom 65 = .ok (.iload_n 3, 1) := by decide +kernel
theorem dX8_readFrom_66 : decode cX8_readFrom 66 = .ok (.ifCond .lt 22, 3) := by decide +kernel
theorem dX8_readFrom_69 : decode cX8_readFrom 69 = .ok (.iload_n 3, 1) := by decide +kernel
theorem dX8_readFrom_70 : decode cX8_readFrom 70 = .ok (.iload_n 2, 1) := by decide +kernel
theorem dX8_readFrom_71 : decode cX8_readFrom 71 = .ok (.if_icmp .ge 17, 3) := by decide +kernel
theorem dX8_readFrom_74 : decode cX8_readFrom 74 = .ok (.aload_n 0, 1) := by decide +kernel
theorem dX8_readFrom_75 : decode cX8_readFrom 75 = .ok (.getfield 19, 3) := by decide +kernel
theorem dX8_readFrom_78 : decode cX8_readFrom 78 = .ok (.iload_n 3, 1) := by decide +kernel
theorem dX8_readFrom_79 : decode cX8_readFrom 79 = .ok (.dup2, 1) := by decide +kernel
theorem dX8_readFrom_80 : decode cX8_readFrom 80 = .ok (.iaload, 1) := by decide +kernel
theorem dX8_readFrom_81 : decode cX8_readFrom 81 = .ok (.aload_n 0, 1) := by decide +kernel
theorem dX8_readFrom_82 : decode cX8_readFrom 82 = .ok (.iload_n 2, 1) := by decide +kernel
theorem dX8_readFrom_83 : decode cX8_readFrom 83 = .ok (.invokevirtual 44, 3) := by decide +kernel
theorem dX8_readFrom_86 : decode cX8_readFrom 86 = .ok (.ior, 1) := by decide +kernel
theorem dX8_readFrom_87 : decode cX8_readFrom 87 = .ok (.iastore, 1) := by decide +kernel
theorem dX8_readFrom_88 : decode cX8_readFrom 88 = .ok (.iinc 2 (-1), 3) := by decide +kernel
theorem dX8_readFrom_91 : decode cX8_readFrom 91 = .ok (.goto (-37), 3) := by decide +kernel
theorem dX8_readFrom_94 : decode cX8_readFrom 94 = .ok (.aload_n 0, 1) := by decide +kernel
theorem dX8_readFrom_95 : decode cX8_readFrom 95 = .ok (.invokevirtual 47, 3) := by decide +kernel
theorem dX8_readFrom_98 : decode cX8_readFrom 98 = .ok (.return_, 1) := by decide +kernel
theorem dX8_withAllOn_0 : decode cX8_withAllOn 0 = .ok (.aload_n 0, 1) := by decide +kernel
theorem dX8_withAllOn_1 : decode cX8_withAllOn 1 = .ok (.getfield 19, 3) := by decide +kernel
theorem dX8_withAllOn_4 : decode cX8_withAllOn 4 = .ok (.iload_n 1, 1) := by decide +kernel
theorem dX8_withAllOn_5 : decode cX8_withAllOn 5 = .ok (.iaload, 1) := by decide +kernel
theorem dX8_withAllOn_6 : decode cX8_withAllOn 6 = .ok (.iconst 1, 1) := by decide +kernel
theorem dX8_withAllOn_7 : decode cX8_withAllOn 7 = .ok (.iload_n 1, 1) := by decide +kernel
theorem dX8_withAllOn_8 : decode cX8_withAllOn 8 = .ok (.ishl, 1) := by decide +kernel
theorem dX8_withAllOn_9 : decode cX8_withAllOn 9 = .ok (.ior, 1) := by decide +kernel
theorem dX8_withAllOn_10 : decode cX8_withAllOn 10 = .ok (.ireturn, 1) := by decide +kernel
theorem dX8_hasFooting_0 : decode cX8_hasFooting 0 = .ok (.aload_n 0, 1) := by decide +kernel
theorem dX8_hasFooting_1 : decode cX8_hasFooting 1 = .ok (.getfield 15, 3) := by decide +kernel
theorem dX8_hasFooting_4 : decode cX8_hasFooting 4 = .ok (.iload_n 1, 1) := by decide +kernel
theorem dX8_hasFooting_5 : decode cX8_hasFooting 5 = .ok (.iaload, 1) := by decide +kernel
theorem dX8_hasFooting_6 : decode cX8_hasFooting 6 = .ok (.iconst (-1), 1) := by decide +kernel
theorem dX8_hasFooting_7 : decode cX8_hasFooting 7 = .ok (.if_icmp .eq 16, 3) := by decide +kernel
theorem dX8_hasFooting_10 : decode cX8_hasFooting 10 = .ok (.iload_n 2, 1) := by decide +kernel
theorem dX8_hasFooting_11 : decode cX8_hasFooting 11 = .ok (.aload_n 0, 1) := by decide +kernel
theorem dX8_hasFooting_12 : decode cX8_hasFooting 12 = .ok (.getfield 15, 3) := by decide +kernel
theorem dX8_hasFooting_15 : decode cX8_hasFooting 15 = .ok (.iload_n 1, 1) := by decide +kernel
theorem dX8_hasFooting_16 : decode cX8_hasFooting 16 = .ok (.iaload, 1) := by decide +kernel
theorem dX8_hasFooting_17 : decode cX8_hasFooting 17 = .ok (.ishr, 1) := by decide +kernel
theorem dX8_hasFooting_18 : decode cX8_hasFooting 18 = .ok (.iconst 1, 1) := by decide +kernel
theorem dX8_hasFooting_19 : decode cX8_hasFooting 19 = .ok (.iand, 1) := by decide +kernel
theorem dX8_hasFooting_20 : decode cX8_hasFooting 20 = .ok (.ifCond .eq 7, 3) := by decide +kernel
theorem dX8_hasFooting_23 : decode cX8_hasFooting 23 = .ok (.iconst 1, 1) := by decide +kernel
theorem dX8_hasFooting_24 : decode cX8_hasFooting 24 = .ok (.goto 4, 3) := by decide +kernel
theorem dX8_hasFooting_27 : decode cX8_hasFooting 27 = .ok (.iconst 0, 1) := by decide +kernel
theorem dX8_hasFooting_28 : decode cX8_hasFooting 28 = .ok (.ireturn, 1) := by decide +kernel
theorem dX8_onTheGround_0 : decode cX8_onTheGround 0 = .ok (.iconst 0, 1) := by decide +kernel
theorem dX8_onTheGround_1 : decode cX8_onTheGround 1 = .ok (.istore_n 1, 1) := by decide +kernel
theorem dX8_onTheGround_2 : decode cX8_onTheGround 2 = .ok (.iconst 0, 1) := by decide +kernel
theorem dX8_onTheGround_3 : decode cX8_onTheGround 3 = .ok (.istore_n 2, 1) := by decide +kernel
theorem dX8_onTheGround_4 : decode cX8_onTheGround 4 = .ok (.iload_n 2, 1) := by decide +kernel
theorem dX8_onTheGround_5 : decode cX8_onTheGround 5 = .ok (.aload_n 0, 1) := by decide +kernel
theorem dX8_onTheGround_6 : decode cX8_onTheGround 6 = .ok (.getfield 9, 3) := by decide +kernel
theorem dX8_onTheGround_9 : decode cX8_onTheGround 9 = .ok (.if_icmp .ge 22, 3) := by decide +kernel
theorem dX8_onTheGround_12 : decode cX8_onTheGround 12 = .ok (.aload_n 0, 1) := by decide +kernel
theorem dX8_onTheGround_13 : decode cX8_onTheGround 13 = .ok (.getfield 15, 3) := by decide +kernel
theorem dX8_onTheGround_16 : decode cX8_onTheGround 16 = .ok (.iload_n 2, 1) := by decide +kernel
theorem dX8_onTheGround_17 : decode cX8_onTheGround 17 = .ok (.iaload, 1) := by decide +kernel
theorem dX8_onTheGround_18 : decode cX8_onTheGround 18 = .ok (.iconst (-1), 1) := by decide +kernel
theorem dX8_onTheGround_19 : decode cX8_onTheGround 19 = .ok (.if_icmp .ne 6, 3) := by decide +kernel
theorem dX8_onTheGround_22 : decode cX8_onTheGround 22 = .ok (.iinc 1 1, 3) := by decide +kernel
theorem dX8_onTheGround_25 : decode cX8_onTheGround 25 = .ok (.iinc 2 1, 3) := by decide +kernel
theorem dX8_onTheGround_28 : decode cX8_onTheGround 28 = .ok (.goto (-24), 3) := by decide +kernel
theorem dX8_onTheGround_31 : decode cX8_onTheGround 31 = .ok (.iload_n 1, 1) := by decide +kernel
theorem dX8_onTheGround_32 : decode cX8_onTheGround 32 = .ok (.ireturn, 1) := by decide +kernel
set_option maxRecDepth 20000 in
theorem ggX8_findSets_X8_canStand : GoodIn wsX8_findSets wsX8_canStand := goodIn_r _ [8, 2, 9, 10, 11, 7, 12, 13, 14, 15, 16, 17, 18] (by decide +kernel) (by decide +kernel)
set_option maxRecDepth 20000 in
theorem gX8_findSets_X8_canStand : GoodIn wsX8_findSets (wsV RX8 50 RX8 yX8_canStand wsX8_canStand) := goodIn_app (goodIn_of _ (by decide +kernel)) ggX8_findSets_X8_canStand
theorem dX8_findSets_0 : decode cX8_findSets 0 = .ok (.aload_n 0, 1) := by decide +kernel
theorem dX8_findSets_1 : decode cX8_findSets 1 = .ok (.iconst 0, 1) := by decide +kernel
theorem dX8_findSets_2 : decode cX8_findSets 2 = .ok (.putfield 25, 3) := by decide +kernel
theorem dX8_findSets_5 : decode cX8_findSets 5 = .ok (.iconst 0, 1) := by decide +kernel
theorem dX8_findSets_6 : decode cX8_findSets 6 = .ok (.istore_n 1, 1) := by decide +kernel
theorem dX8_findSets_7 : decode cX8_findSets 7 = .ok (.iload_n 1, 1) := by decide +kernel
theorem dX8_findSets_8 : decode cX8_findSets 8 = .ok (.iconst 1, 1) := by decide +kernel
theorem dX8_findSets_9 : decode cX8_findSets 9 = .ok (.aload_n 0, 1) := by decide +kernel
theorem dX8_findSets_10 : decode cX8_findSets 10 = .ok (.getfield 9, 3) := by decide +kernel
theorem dX8_findSets_13 : decode cX8_findSets 13 = .ok (.ishl, 1) := by decide +kernel
theorem dX8_findSets_14 : decode cX8_findSets 14 = .ok (.if_icmp .ge 37, 3) := by decide +kernel
theorem dX8_findSets_17 : decode cX8_findSets 17 = .ok (.aload_n 0, 1) := by decide +kernel
theorem dX8_findSets_18 : decode cX8_findSets 18 = .ok (.iload_n 1, 1) := by decide +kernel
theorem dX8_findSets_19 : decode cX8_findSets 19 = .ok (.invokevirtual 50, 3) := by decide +kernel
theorem dX8_findSets_22 : decode cX8_findSets 22 = .ok (.ifCond .eq 23, 3) := by decide +kernel
theorem dX8_findSets_25 : decode cX8_findSets 25 = .ok (.aload_n 0, 1) := by decide +kernel
theorem dX8_findSets_26 : decode cX8_findSets 26 = .ok (.getfield 22, 3) := by decide +kernel
theorem dX8_findSets_29 : decode cX8_findSets 29 = .ok (.aload_n 0, 1) := by decide +kernel
theorem dX8_findSets_30 : decode cX8_findSets 30 = .ok (.getfield 25, 3) := by decide +kernel
theorem dX8_findSets_33 : decode cX8_findSets 33 = .ok (.iload_n 1, 1) := by decide +kernel
theorem dX8_findSets_34 : decode cX8_findSets 34 = .ok (.iastore, 1) := by decide +kernel
theorem dX8_findSets_35 : decode cX8_findSets 35 = .ok (.aload_n 0, 1) := by decide +kernel
theorem dX8_findSets_36 : decode cX8_findSets 36 = .ok (.dup, 1) := by decide +kernel
theorem dX8_findSets_37 : decode cX8_findSets 37 = .ok (.getfield 25, 3) := by decide +kernel
theorem dX8_findSets_40 : decode cX8_findSets 40 = .ok (.iconst 1, 1) := by decide +kernel
theorem dX8_findSets_41 : decode cX8_findSets 41 = .ok (.iadd, 1) := by decide +kernel
theorem dX8_findSets_42 : decode cX8_findSets 42 = .ok (.putfield 25, 3) := by decide +kernel
theorem dX8_findSets_45 : decode cX8_findSets 45 = .ok (.iinc 1 1, 3) := by decide +kernel
theorem dX8_findSets_48 : decode cX8_findSets 48 = .ok (.goto (-41), 3) := by decide +kernel
theorem dX8_findSets_51 : decode cX8_findSets 51 = .ok (.return_, 1) := by decide +kernel
set_option maxRecDepth 20000 in
theorem ggX8_canStand_X8_hasFooting : GoodIn wsX8_canStand wsX8_hasFooting := goodIn_r _ [6, 7, 8, 9, 10, 11, 12] (by decide +kernel) (by decide +kernel)
set_option maxRecDepth 20000 in
theorem gX8_canStand_X8_hasFooting : GoodIn wsX8_canStand (wsV RX8 54 RX8 yX8_hasFooting wsX8_hasFooting) := goodIn_app (goodIn_of _ (by decide +kernel)) ggX8_canStand_X8_hasFooting
theorem dX8_canStand_0 : decode cX8_canStand 0 = .ok (.iconst 0, 1) := by decide +kernel
theorem dX8_canStand_1 : decode cX8_canStand 1 = .ok (.istore_n 2, 1) := by decide +kernel
theorem dX8_canStand_2 : decode cX8_canStand 2 = .ok (.iload_n 2, 1) := by decide +kernel
theorem dX8_canStand_3 : decode cX8_canStand 3 = .ok (.aload_n 0, 1) := by decide +kernel
theorem dX8_canStand_4 : decode cX8_canStand 4 = .ok (.getfield 9, 3) := by decide +kernel
theorem dX8_canStand_7 : decode cX8_canStand 7 = .ok (.if_icmp .ge 28, 3) := by decide +kernel
theorem dX8_canStand_10 : decode cX8_canStand 10 = .ok (.iload_n 1, 1) := by decide +kernel
theorem dX8_canStand_11 : decode cX8_canStand 11 = .ok (.iload_n 2, 1) := by decide +kernel
theorem dX8_canStand_12 : decode cX8_canStand 12 = .ok (.ishr, 1) := by decide +kernel
theorem dX8_canStand_13 : decode cX8_canStand 13 = .ok (.iconst 1, 1) := by decide +kernel
theorem dX8_canStand_14 : decode cX8_canStand 14 = .ok (.iand, 1) := by decide +kernel
theorem dX8_canStand_15 : decode cX8_canStand 15 = .ok (.ifCond .eq 14, 3) := by decide +kernel
theorem dX8_canStand_18 : decode cX8_canStand 18 = .ok (.aload_n 0, 1) := by decide +kernel
theorem dX8_canStand_19 : decode cX8_canStand 19 = .ok (.iload_n 2, 1) := by decide +kernel
theorem dX8_canStand_20 : decode cX8_canStand 20 = .ok (.iload_n 1, 1) := by decide +kernel
theorem dX8_canStand_21 : decode cX8_canStand 21 = .ok (.invokevirtual 54, 3) := by decide +kernel
theorem dX8_canStand_24 : decode cX8_canStand 24 = .ok (.ifCond .ne 5, 3) := by decide +kernel
theorem dX8_canStand_27 : decode cX8_canStand 27 = .ok (.iconst 0, 1) := by decide +kernel
theorem dX8_canStand_28 : decode cX8_canStand 28 = .ok (.ireturn, 1) := by decide +kernel
theorem dX8_canStand_29 : decode cX8_canStand 29 = .ok (.iinc 2 1, 3) := by decide +kernel
theorem dX8_canStand_32 : decode cX8_canStand 32 = .ok (.goto (-30), 3) := by decide +kernel
theorem dX8_canStand_35 : decode cX8_canStand 35 = .ok (.iconst 1, 1) := by decide +kernel
theorem dX8_canStand_36 : decode cX8_canStand 36 = .ok (.ireturn, 1) := by decide +kernel
theorem dX9_init_0 : decode cX9_init 0 = .ok (.aload_n 0, 1) := by decide +kernel
theorem dX9_init_1 : decode cX9_init 1 = .ok (.invokespecial 3, 3) := by decide +kernel
theorem dX9_init_4 : decode cX9_init 4 = .ok (.aload_n 0, 1) := by decide +kernel
theorem dX9_init_5 : decode cX9_init 5 = .ok (.sipush 256, 3) := by decide +kernel
theorem dX9_init_8 : decode cX9_init 8 = .ok (.newarray .int, 2) := by decide +kernel
theorem dX9_init_10 : decode cX9_init 10 = .ok (.putfield 9, 3) := by decide +kernel
theorem dX9_init_13 : decode cX9_init 13 = .ok (.aload_n 0, 1) := by decide +kernel
theorem dX9_init_14 : decode cX9_init 14 = .ok (.aload_n 1, 1) := by decide +kernel
theorem dX9_init_15 : decode cX9_init 15 = .ok (.putfield 15, 3) := by decide +kernel
theorem dX9_init_18 : decode cX9_init 18 = .ok (.return_, 1) := by decide +kernel
theorem dX9_valueOf_0 : decode cX9_valueOf 0 = .ok (.aload_n 0, 1) := by decide +kernel
theorem dX9_valueOf_1 : decode cX9_valueOf 1 = .ok (.getfield 9, 3) := by decide +kernel
theorem dX9_valueOf_4 : decode cX9_valueOf 4 = .ok (.iload_n 1, 1) := by decide +kernel
theorem dX9_valueOf_5 : decode cX9_valueOf 5 = .ok (.iaload, 1) := by decide +kernel
theorem dX9_valueOf_6 : decode cX9_valueOf 6 = .ok (.ireturn, 1) := by decide +kernel
set_option maxRecDepth 20000 in
theorem ggX9_enter_X9_simplestOf : GoodIn wsX9_enter wsX9_simplestOf := goodIn_r _ [6, 7, 8, 9, 1, 10, 11, 12, 13, 14, 15, 16, 17, 18, 19, 20, 21, 22, 23, 24, 5, 25, 26, 27, 28, 29, 30, 31, 32, 33, 34] (by decide +kernel) (by decide +kernel)
set_option maxRecDepth 20000 in
theorem gX9_enter_X9_simplestOf : GoodIn wsX9_enter (wsV RX9 19 RX9 yX9_simplestOf wsX9_simplestOf) := goodIn_app (goodIn_of _ (by decide +kernel)) ggX9_enter_X9_simplestOf
theorem dX9_enter_0 : decode cX9_enter 0 = .ok (.aload_n 0, 1) := by decide +kernel
theorem dX9_enter_1 : decode cX9_enter 1 = .ok (.getfield 9, 3) := by decide +kernel
theorem dX9_enter_4 : decode cX9_enter 4 = .ok (.iload_n 1, 1) := by decide +kernel
theorem dX9_enter_5 : decode cX9_enter 5 = .ok (.aload_n 0, 1) := by decide +kernel
theorem dX9_enter_6 : decode cX9_enter 6 = .ok (.iload_n 1, 1) := by decide +kernel
theorem dX9_enter_7 : decode cX9_enter 7 = .ok (.iload_n 2, 1) := by decide +kernel
theorem dX9_enter_8 : decode cX9_enter 8 = .ok (.iload_n 3, 1) := by decide +kernel
theorem dX9_enter_9 : decode cX9_enter 9 = .ok (.invokevirtual 19, 3) := by decide +kernel
theorem dX9_enter_12 : decode cX9_enter 12 = .ok (.iastore, 1) := by decide +kernel
theorem dX9_enter_13 : decode cX9_enter 13 = .ok (.return_, 1) := by decide +kernel
set_option maxRecDepth 20000 in
theorem ggX9_simplestOf_X6_leftBy : GoodIn wsX9_simplestOf wsX6_leftBy := goodIn_r _ [16, 17, 24, 25, 26, 27, 28, 29, 30] (by decide +kernel) (by decide +kernel)
set_option maxRecDepth 20000 in
theorem gX9_simplestOf_X6_leftBy : GoodIn wsX9_simplestOf (wsV RX9 37 RX6 yX6_leftBy wsX6_leftBy) := goodIn_app (goodIn_of _ (by decide +kernel)) ggX9_simplestOf_X6_leftBy
set_option maxRecDepth 20000 in
theorem ggX9_simplestOf_X9_simplestBetween : GoodIn wsX9_simplestOf wsX9_simplestBetween := goodIn_r _ [21] (by decide +kernel) (by decide +kernel)
set_option maxRecDepth 20000 in
theorem gX9_simplestOf_X9_simplestBetween : GoodIn wsX9_simplestOf (va_wsS RX9 49 yX9_simplestBetween wsX9_simplestBetween) := goodIn_app (goodIn_of _ (by decide +kernel)) ggX9_simplestOf_X9_simplestBetween
theorem dX9_simplestOf_0 : decode cX9_simplestOf 0 = .ok (.ldc 23, 2) := by decide +kernel
theorem dX9_simplestOf_2 : decode cX9_simplestOf 2 = .ok (.istore 4, 2) := by decide +kernel
theorem dX9_simplestOf_4 : decode cX9_simplestOf 4 = .ok (.ldc 24, 2) := by decide +kernel
theorem dX9_simplestOf_6 : decode cX9_simplestOf 6 = .ok (.istore 5, 2) := by decide +kernel
theorem dX9_simplestOf_8 : decode cX9_simplestOf 8 = .ok (.iconst 0, 1) := by decide +kernel
theorem dX9_simplestOf_9 : decode cX9_simplestOf 9 = .ok (.istore 6, 2) := by decide +kernel
theorem dX9_simplestOf_11 : decode cX9_simplestOf 11 = .ok (.iload 6, 2) := by decide +kernel
theorem dX9_simplestOf_13 : decode cX9_simplestOf 13 = .ok (.aload_n 0, 1) := by decide +kernel
theorem dX9_simplestOf_14 : decode cX9_simplestOf 14 = .ok (.getfield 15, 3) := by decide +kernel
theorem dX9_simplestOf_17 : decode cX9_simplestOf 17 = .ok (.getfield 25, 3) := by decide +kernel
theorem dX9_simplestOf_20 : decode cX9_simplestOf 20 = .ok (.getfield 31, 3) := by decide +kernel
theorem dX9_simplestOf_23 : decode cX9_simplestOf 23 = .ok (.if_icmp .ge 85, 3) := by decide +kernel
theorem dX9_simplestOf_26 : decode cX9_simplestOf 26 = .ok (.iload_n 2, 1) := by decide +kernel
theorem dX9_simplestOf_27 : decode cX9_simplestOf 27 = .ok (.iload_n 3, 1) := by decide +kernel
theorem dX9_simplestOf_28 : decode cX9_simplestOf 28 = .ok (.ior, 1) := by decide +kernel
theorem dX9_simplestOf_29 : decode cX9_simplestOf 29 = .ok (.iload 6, 2) := by decide +kernel
theorem dX9_simplestOf_31 : decode cX9_simplestOf 31 = .ok (.ishr, 1) := by decide +kernel
theorem dX9_simplestOf_32 : decode cX9_simplestOf 32 = .ok (.iconst 1, 1) := by decide +kernel
theorem dX9_simplestOf_33 : decode cX9_simplestOf 33 = .ok (.iand, 1) := by decide +kernel
theorem dX9_simplestOf_34 : decode cX9_simplestOf 34 = .ok (.ifCond .eq 68, 3) := by decide +kernel
theorem dX9_simplestOf_37 : decode cX9_simplestOf 37 = .ok (.aload_n 0, 1) := by decide +kernel
theorem dX9_simplestOf_38 : decode cX9_simplestOf 38 = .ok (.getfield 9, 3) := by decide +kernel
theorem dX9_simplestOf_41 : decode cX9_simplestOf 41 = .ok (.aload_n 0, 1) := by decide +kernel
theorem dX9_simplestOf_42 : decode cX9_simplestOf 42 = .ok (.getfield 15, 3) := by decide +kernel
theorem dX9_simplestOf_45 : decode cX9_simplestOf 45 = .ok (.iload 6, 2) := by decide +kernel
theorem dX9_simplestOf_47 : decode cX9_simplestOf 47 = .ok (.iload_n 1, 1) := by decide +kernel
theorem dX9_simplestOf_48 : decode cX9_simplestOf 48 = .ok (.invokevirtual 37, 3) := by decide +kernel
theorem dX9_simplestOf_51 : decode cX9_simplestOf 51 = .ok (.iaload, 1) := by decide +kernel
theorem dX9_simplestOf_52 : decode cX9_simplestOf 52 = .ok (.istore 7, 2) := by decide +kernel
theorem dX9_simplestOf_54 : decode cX9_simplestOf 54 = .ok (.iload 7, 2) := by decide +kernel
theorem dX9_simplestOf_56 : decode cX9_simplestOf 56 = .ok (.sipush (-9999), 3) := by decide +kernel
theorem dX9_simplestOf_59 : decode cX9_simplestOf 59 = .ok (.if_icmp .ne 7, 3) := by decide +kernel
theorem dX9_simplestOf_62 : decode cX9_simplestOf 62 = .ok (.sipush (-9999), 3) := by decide +kernel
theorem dX9_simplestOf_65 : decode cX9_simplestOf 65 = .ok (.ireturn, 1) := by decide +kernel
theorem dX9_simplestOf_66 : decode cX9_simplestOf 66 = .ok (.iload_n 2, 1) := by decide +kernel
theorem dX9_simplestOf_67 : decode cX9_simplestOf 67 = .ok (.iload 6, 2) := by decide +kernel
theorem dX9_simplestOf_69 : decode cX9_simplestOf 69 = .ok (.ishr, 1) := by decide +kernel
theorem dX9_simplestOf_70 : decode cX9_simplestOf 70 = .ok (.iconst 1, 1) := by decide +kernel
theorem dX9_simplestOf_71 : decode cX9_simplestOf 71 = .ok (.iand, 1) := by decide +kernel
theorem dX9_simplestOf_72 : decode cX9_simplestOf 72 = .ok (.ifCond .eq 12, 3) := by decide +kernel
theorem dX9_simplestOf_75 : decode cX9_simplestOf 75 = .ok (.iload 4, 2) := by decide +kernel
theorem dX9_simplestOf_77 : decode cX9_simplestOf 77 = .ok (.iload 7, 2) := by decide +kernel
theorem dX9_simplestOf_79 : decode cX9_simplestOf 79 = .ok (.invokestatic 41, 3) := by decide +kernel
theorem dX9_simplestOf_82 : decode cX9_simplestOf 82 = .ok (.istore 4, 2) := by decide +kernel
theorem dX9_simplestOf_84 : decode cX9_simplestOf 84 = .ok (.iload_n 3, 1) := by decide +kernel
theorem dX9_simplestOf_85 : decode cX9_simplestOf 85 = .ok (.iload 6, 2) := by decide +kernel
theorem dX9_simplestOf_87 : decode cX9_simplestOf 87 = .ok (.ishr, 1) := by decide +kernel
theorem dX9_simplestOf_88 : decode cX9_simplestOf 88 = .ok (.iconst 1, 1) := by decide +kernel
theorem dX9_simplestOf_89 : decode cX9_simplestOf 89 = .ok (.iand, 1) := by decide +kernel
theorem dX9_simplestOf_90 : decode cX9_simplestOf 90 = .ok (.ifCond .eq 12, 3) := by decide +kernel
theorem dX9_simplestOf_93 : decode cX9_simplestOf 93 = .ok (.iload 5, 2) := by decide +kernel
theorem dX9_simplestOf_95 : decode cX9_simplestOf 95 = .ok (.iload 7, 2) := by decide +kernel
theorem dX9_simplestOf_97 : decode cX9_simplestOf 97 = .ok (.invokestatic 46, 3) := by decide +kernel
theorem dX9_simplestOf_100 : decode cX9_simplestOf 100 = .ok (.istore 5, 2) := by decide +kernel
theorem dX9_simplestOf_102 : decode cX9_simplestOf 102 = .ok (.iinc 6 1, 3) := by decide +kernel
theorem dX9_simplestOf_105 : decode cX9_simplestOf 105 = .ok (.goto (-94), 3) := by decide +kernel
theorem dX9_simplestOf_108 : decode cX9_simplestOf 108 = .ok (.iload 4, 2) := by decide +kernel
theorem dX9_simplestOf_110 : decode cX9_simplestOf 110 = .ok (.iload 5, 2) := by decide +kernel
theorem dX9_simplestOf_112 : decode cX9_simplestOf 112 = .ok (.if_icmp .ge 13, 3) := by decide +kernel
theorem dX9_simplestOf_115 : decode cX9_simplestOf 115 = .ok (.iload 4, 2) := by decide +kernel
theorem dX9_simplestOf_117 : decode cX9_simplestOf 117 = .ok (.iload 5, 2) := by decide +kernel
theorem dX9_simplestOf_119 : decode cX9_simplestOf 119 = .ok (.invokestatic 49, 3) := by decide +kernel
theorem dX9_simplestOf_122 : decode cX9_simplestOf 122 = .ok (.goto 6, 3) := by decide +kernel
theorem dX9_simplestOf_125 : decode cX9_simplestOf 125 = .ok (.sipush (-9999), 3) := by decide +kernel
theorem dX9_simplestOf_128 : decode cX9_simplestOf 128 = .ok (.ireturn, 1) := by decide +kernel
theorem dX9_simplestBetween_0 : decode cX9_simplestBetween 0 = .ok (.iload_n 0, 1) := by decide +kernel
theorem dX9_simplestBetween_1 : decode cX9_simplestBetween 1 = .ok (.ifCond .ge 9, 3) := by decide +kernel
theorem dX9_simplestBetween_4 : decode cX9_simplestBetween 4 = .ok (.iload_n 1, 1) := by decide +kernel
theorem dX9_simplestBetween_5 : decode cX9_simplestBetween 5 = .ok (.ifCond .le 5, 3) := by decide +kernel
theorem dX9_simplestBetween_8 : decode cX9_simplestBetween 8 = .ok (.iconst 0, 1) := by decide +kernel
theorem dX9_simplestBetween_9 : decode cX9_simplestBetween 9 = .ok (.ireturn, 1) := by decide +kernel
theorem dX9_simplestBetween_10 : decode cX9_simplestBetween 10 = .ok (.iload_n 0, 1) := by decide +kernel
theorem dX9_simplestBetween_11 : decode cX9_simplestBetween 11 = .ok (.ifCond .lt 7, 3) := by decide +kernel
theorem dX9_simplestBetween_14 : decode cX9_simplestBetween 14 = .ok (.iconst 1, 1) := by decide +kernel
theorem dX9_simplestBetween_15 : decode cX9_simplestBetween 15 = .ok (.goto 4, 3) := by decide +kernel
theorem dX9_simplestBetween_18 : decode cX9_simplestBetween 18 = .ok (.iconst (-1), 1) := by decide +kernel
theorem dX9_simplestBetween_19 : decode cX9_simplestBetween 19 = .ok (.istore_n 2, 1) := by decide +kernel
theorem dX9_simplestBetween_20 : decode cX9_simplestBetween 20 = .ok (.iload_n 0, 1) := by decide +kernel
theorem dX9_simplestBetween_21 : decode cX9_simplestBetween 21 = .ok (.ifCond .lt 7, 3) := by decide +kernel
theorem dX9_simplestBetween_24 : decode cX9_simplestBetween 24 = .ok (.iload_n 0, 1) := by decide +kernel
theorem dX9_simplestBetween_25 : decode cX9_simplestBetween 25 = .ok (.goto 5, 3) := by decide +kernel
theorem dX9_simplestBetween_28 : decode cX9_simplestBetween 28 = .ok (.iload_n 1, 1) := by decide +kernel
theorem dX9_simplestBetween_29 : decode cX9_simplestBetween 29 = .ok (.ineg, 1) := by decide +kernel
theorem dX9_simplestBetween_30 : decode cX9_simplestBetween 30 = .ok (.istore_n 3, 1) := by decide +kernel
theorem dX9_simplestBetween_31 : decode cX9_simplestBetween 31 = .ok (.iload_n 0, 1) := by decide +kernel
theorem dX9_simplestBetween_32 : decode cX9_simplestBetween 32 = .ok (.ifCond .lt 7, 3) := by decide +kernel
theorem dX9_simplestBetween_35 : decode cX9_simplestBetween 35 = .ok (.iload_n 1, 1) := by decide +kernel
theorem dX9_simplestBetween_36 : decode cX9_simplestBetween 36 = .ok (.goto 5, 3) := by decide +kernel
theorem dX9_simplestBetween_39 : decode cX9_simplestBetween 39 = .ok (.iload_n 0, 1) := by decide +kernel
theorem dX9_simplestBetween_40 : decode cX9_simplestBetween 40 = .ok (.ineg, 1) := by decide +kernel
theorem dX9_simplestBetween_41 : decode cX9_simplestBetween 41 = .ok (.istore 4, 2) := by decide +kernel
theorem dX9_simplestBetween_43 : decode cX9_simplestBetween 43 = .ok (.sipush 256, 3) := by decide +kernel
theorem dX9_simplestBetween_46 : decode cX9_simplestBetween 46 = .ok (.istore 5, 2) := by decide +kernel
theorem dX9_simplestBetween_48 : decode cX9_simplestBetween 48 = .ok (.iload 5, 2) := by decide +kernel
theorem dX9_simplestBetween_50 : decode cX9_simplestBetween 50 = .ok (.iconst 1, 1) := by decide +kernel
theorem dX9_simplestBetween_51 : decode cX9_simplestBetween 51 = .ok (.if_icmp .le 35, 3) := by decide +kernel
theorem dX9_simplestBetween_54 : decode cX9_simplestBetween 54 = .ok (.iload_n 3, 1) := by decide +kernel
theorem dX9_simplestBetween_55 : decode cX9_simplestBetween 55 = .ok (.iload 5, 2) := by decide +kernel
theorem dX9_simplestBetween_57 : decode cX9_simplestBetween 57 = .ok (.idiv, 1) := by decide +kernel
theorem dX9_simplestBetween_58 : decode cX9_simplestBetween 58 = .ok (.iconst 1, 1) := by decide +kernel
theorem dX9_simplestBetween_59 : decode cX9_simplestBetween 59 = .ok (.iadd, 1) := by decide +kernel
theorem dX9_simplestBetween_60 : decode cX9_simplestBetween 60 = .ok (.iload 5, 2) := by decide +kernel
theorem dX9_simplestBetween_62 : decode cX9_simplestBetween 62 = .ok (.imul, 1) := by decide +kernel
theorem dX9_simplestBetween_63 : decode cX9_simplestBetween 63 = .ok (.istore 6, 2) := by decide +kernel
theorem dX9_simplestBetween_65 : decode cX9_simplestBetween 65 = .ok (.iload 6, 2) := by decide +kernel
theorem dX9_simplestBetween_67 : decode cX9_simplestBetween 67 = .ok (.iload 4, 2) := by decide +kernel
theorem dX9_simplestBetween_69 : decode cX9_simplestBetween 69 = .ok (.if_icmp .ge 8, 3) := by decide +kernel
theorem dX9_simplestBetween_72 : decode cX9_simplestBetween 72 = .ok (.iload_n 2, 1) := by decide +kernel
theorem dX9_simplestBetween_73 : decode cX9_simplestBetween 73 = .ok (.iload 6, 2) := by decide +kernel
theorem dX9_simplestBetween_75 : decode cX9_simplestBetween 75 = .ok (.imul, 1) := by decide +kernel
theorem dX9_simplestBetween_76 : decode cX9_simplestBetween 76 = .ok (.ireturn, 1) := by decide +kernel
theorem dX9_simplestBetween_77 : decode cX9_simplestBetween 77 = .ok (.iload 5, 2) := by decide +kernel
theorem dX9_simplestBetween_79 : decode cX9_simplestBetween 79 = .ok (.iconst 2, 1) := by decide +kernel
theorem dX9_simplestBetween_80 : decode cX9_simplestBetween 80 = .ok (.idiv, 1) := by decide +kernel
theorem dX9_simplestBetween_81 : decode cX9_simplestBetween 81 = .ok (.istore 5, 2) := by decide +kernel
theorem dX9_simplestBetween_83 : decode cX9_simplestBetween 83 = .ok (.goto (-35), 3) := by decide +kernel
theorem dX9_simplestBetween_86 : decode cX9_simplestBetween 86 = .ok (.iload_n 2, 1) := by decide +kernel
theorem dX9_simplestBetween_87 : decode cX9_simplestBetween 87 = .ok (.iload_n 3, 1) := by decide +kernel
theorem dX9_simplestBetween_88 : decode cX9_simplestBetween 88 = .ok (.iconst 1, 1) := by decide +kernel
theorem dX9_simplestBetween_89 : decode cX9_simplestBetween 89 = .ok (.iadd, 1) := by decide +kernel
theorem dX9_simplestBetween_90 : decode cX9_simplestBetween 90 = .ok (.imul, 1) := by decide +kernel
theorem dX9_simplestBetween_91 : decode cX9_simplestBetween 91 = .ok (.ireturn, 1) := by decide +kernel
set_option maxRecDepth 20000 in
theorem ggX10_init_X5_init : GoodIn wsX10_init wsX5_init := goodIn_r _ [47, 48, 2, 3, 49, 50, 51, 123, 124] (by decide +kernel) (by decide +kernel)
set_option maxRecDepth 20000 in
theorem gX10_init_X5_init : GoodIn wsX10_init (wsX5_init) := ggX10_init_X5_init
set_option maxRecDepth 20000 in
theorem ggX10_init_X8_init : GoodIn wsX10_init wsX8_init := goodIn_r _ [54, 55, 2, 3, 56, 57, 58, 59, 60, 61, 139, 140, 141, 142, 143] (by decide +kernel) (by decide +kernel)
set_option maxRecDepth 20000 in
theorem gX10_init_X8_init : GoodIn wsX10_init (wsX8_init) := ggX10_init_X8_init
set_option maxRecDepth 20000 in
theorem ggX10_init_X3_init : GoodIn wsX10_init wsX3_init := goodIn_r _ [64, 65, 2, 3, 57, 66, 67, 68, 69, 70, 71, 72, 73, 74, 75, 76, 77, 78, 79, 80, 81, 82, 144, 145, 146, 147, 148, 164, 165, 166, 167] (by decide +kernel) (by decide +kernel)
set_option maxRecDepth 20000 in
theorem gX10_init_X3_init : GoodIn wsX10_init (wsX3_init) := ggX10_init_X3_init
set_option maxRecDepth 20000 in
theorem ggX10_init_X6_init : GoodIn wsX10_init wsX6_init := goodIn_r _ [85, 86, 2, 3, 87, 88, 149, 150] (by decide +kernel) (by decide +kernel)
set_option maxRecDepth 20000 in
theorem gX10_init_X6_init : GoodIn wsX10_init (wsX6_init) := ggX10_init_X6_init
set_option maxRecDepth 20000 in
theorem ggX10_init_X4_init : GoodIn wsX10_init wsX4_init := goodIn_r _ [91, 92, 2, 3, 93, 94, 95, 151, 152] (by decide +kernel) (by decide +kernel)
set_option maxRecDepth 20000 in
theorem gX10_init_X4_init : GoodIn wsX10_init (wsX4_init) := ggX10_init_X4_init
set_option maxRecDepth 20000 in
theorem ggX10_init_X1_init : GoodIn wsX10_init wsX1_init := goodIn_r _ [98, 99, 2, 3, 57, 100, 101, 102, 153, 154, 155] (by decide +kernel) (by decide +kernel)
set_option maxRecDepth 20000 in
theorem gX10_init_X1_init : GoodIn wsX10_init (wsX1_init) := ggX10_init_X1_init
set_option maxRecDepth 20000 in
theorem ggX10_init_X9_init : GoodIn wsX10_init wsX9_init := goodIn_r _ [105, 106, 2, 3, 57, 107, 108, 156, 157] (by decide +kernel) (by decide +kernel)
set_option maxRecDepth 20000 in
theorem gX10_init_X9_init : GoodIn wsX10_init (wsX9_init) := ggX10_init_X9_init
set_option maxRecDepth 20000 in
theorem ggX10_init_X0_init : GoodIn wsX10_init wsX0_init := goodIn_r _ [111, 112, 2, 3, 93, 113, 114, 158, 159] (by decide +kernel) (by decide +kernel)
set_option maxRecDepth 20000 in
theorem gX10_init_X0_init : GoodIn wsX10_init (wsX0_init) := ggX10_init_X0_init
set_option maxRecDepth 20000 in
theorem ggX10_init_X2_init : GoodIn wsX10_init wsX2_init := goodIn_r _ [117, 118, 2, 3, 119, 120, 121, 122, 160, 161, 162, 163] (by decide +kernel) (by decide +kernel)
set_option maxRecDepth 20000 in
theorem gX10_init_X2_init : GoodIn wsX10_init (wsX2_init) := ggX10_init_X2_init
theorem dX10_init_0 : decode cX10_init 0 = .ok (.aload_n 0, 1) := by decide +kernel
theorem dX10_init_1 : decode cX10_init 1 = .ok (.invokespecial 1, 3) := by decide +kernel
theorem dX10_init_4 : decode cX10_init 4 = .ok (.aload_n 0, 1) := by decide +kernel
theorem dX10_init_5 : decode cX10_init 5 = .ok (.new 7, 3) := by decide +kernel
theorem dX10_init_8 : decode cX10_init 8 = .ok (.dup, 1) := by decide +kernel
theorem dX10_init_9 : decode cX10_init 9 = .ok (.invokespecial 9, 3) := by decide +kernel
theorem dX10_init_12 : decode cX10_init 12 = .ok (.putfield 10, 3) := by decide +kernel
theorem dX10_init_15 : decode cX10_init 15 = .ok (.aload_n 0, 1) := by decide +kernel
theorem dX10_init_16 : decode cX10_init 16 = .ok (.new 16, 3) := by decide +kernel
theorem dX10_init_19 : decode cX10_init 19 = .ok (.dup, 1) := by decide +kernel
theorem dX10_init_20 : decode cX10_init 20 = .ok (.invokespecial 18, 3) := by decide +kernel
theorem dX10_init_23 : decode cX10_init 23 = .ok (.putfield 19, 3) := by decide +kernel
theorem dX10_init_26 : decode cX10_init 26 = .ok (.aload_n 0, 1) := by decide +kernel
theorem dX10_init_27 : decode cX10_init 27 = .ok (.new 23, 3) := by decide +kernel
theorem dX10_init_30 : decode cX10_init 30 = .ok (.dup, 1) := by decide +kernel
theorem dX10_init_31 : decode cX10_init 31 = .ok (.invokespecial 25, 3) := by decide +kernel
theorem dX10_init_34 : decode cX10_init 34 = .ok (.putfield 26, 3) := by decide +kernel
theorem dX10_init_37 : decode cX10_init 37 = .ok (.aload_n 0, 1) := by decide +kernel
theorem dX10_init_38 : decode cX10_init 38 = .ok (.new 23, 3) := by decide +kernel
theorem dX10_init_41 : decode cX10_init 41 = .ok (.dup, 1) := by decide +kernel
theorem dX10_init_42 : decode cX10_init 42 = .ok (.invokespecial 25, 3) := by decide +kernel
theorem dX10_init_45 : decode cX10_init 45 = .ok (.putfield 30, 3) := by decide +kernel
theorem dX10_init_48 : decode cX10_init 48 = .ok (.aload_n 0, 1) := by decide +kernel
theorem dX10_init_49 : decode cX10_init 49 = .ok (.new 33, 3) := by decide +kernel
theorem dX10_init_52 : decode cX10_init 52 = .ok (.dup, 1) := by decide +kernel
theorem dX10_init_53 : decode cX10_init 53 = .ok (.aload_n 0, 1) := by decide +kernel
theorem dX10_init_54 : decode cX10_init 54 = .ok (.getfield 19, 3) := by decide +kernel
theorem dX10_init_57 : decode cX10_init 57 = .ok (.aload_n 0, 1) := by decide +kernel
theorem dX10_init_58 : decode cX10_init 58 = .ok (.getfield 26, 3) := by decide +kernel
theorem dX10_init_61 : decode cX10_init 61 = .ok (.invokespecial 35, 3) := by decide +kernel
theorem dX10_init_64 : decode cX10_init 64 = .ok (.putfield 38, 3) := by decide +kernel
theorem dX10_init_67 : decode cX10_init 67 = .ok (.aload_n 0, 1) := by decide +kernel
theorem dX10_init_68 : decode cX10_init 68 = .ok (.new 42, 3) := by decide +kernel
theorem dX10_init_71 : decode cX10_init 71 = .ok (.dup, 1) := by decide +kernel
theorem dX10_init_72 : decode cX10_init 72 = .ok (.aload_n 0, 1) := by decide +kernel
theorem dX10_init_73 : decode cX10_init 73 = .ok (.getfield 38, 3) := by decide +kernel
theorem dX10_init_76 : decode cX10_init 76 = .ok (.invokespecial 44, 3) := by decide +kernel
end
section
theorem dX10_init_79 : decode cX10_init 79 = .ok (.putfield 47, 3) := by decide +kernel
theorem dX10_init_82 : decode cX10_init 82 = .ok (.aload_n 0, 1) := by decide +kernel
theorem dX10_init_83 : decode cX10_init 83 = .ok (.new 51, 3) := by decide +kernel
theorem dX10_init_86 : decode cX10_init 86 = .ok (.dup, 1) := by decide +kernel
theorem dX10_init_87 : decode cX10_init 87 = .ok (.aload_n 0, 1) := by decide +kernel
theorem dX10_init_88 : decode cX10_init 88 = .ok (.getfield 38, 3) := by decide +kernel
theorem dX10_init_91 : decode cX10_init 91 = .ok (.aload_n 0, 1) := by decide +kernel
theorem dX10_init_92 : decode cX10_init 92 = .ok (.getfield 47, 3) := by decide +kernel
theorem dX10_init_95 : decode cX10_init 95 = .ok (.invokespecial 53, 3) := by decide +kernel
theorem dX10_init_98 : decode cX10_init 98 = .ok (.putfield 56, 3) := by decide +kernel
theorem dX10_init_101 : decode cX10_init 101 = .ok (.aload_n 0, 1) := by decide +kernel
theorem dX10_init_102 : decode cX10_init 102 = .ok (.new 60, 3) := by decide +kernel
theorem dX10_init_105 : decode cX10_init 105 = .ok (.dup, 1) := by decide +kernel
theorem dX10_init_106 : decode cX10_init 106 = .ok (.aload_n 0, 1) := by decide +kernel
theorem dX10_init_107 : decode cX10_init 107 = .ok (.getfield 38, 3) := by decide +kernel
theorem dX10_init_110 : decode cX10_init 110 = .ok (.invokespecial 62, 3) := by decide +kernel
theorem dX10_init_113 : decode cX10_init 113 = .ok (.putfield 63, 3) := by decide +kernel
theorem dX10_init_116 : decode cX10_init 116 = .ok (.aload_n 0, 1) := by decide +kernel
theorem dX10_init_117 : decode cX10_init 117 = .ok (.new 67, 3) := by decide +kernel
theorem dX10_init_120 : decode cX10_init 120 = .ok (.dup, 1) := by decide +kernel
theorem dX10_init_121 : decode cX10_init 121 = .ok (.aload_n 0, 1) := by decide +kernel
theorem dX10_init_122 : decode cX10_init 122 = .ok (.getfield 38, 3) := by decide +kernel
theorem dX10_init_125 : decode cX10_init 125 = .ok (.invokespecial 69, 3) := by decide +kernel
theorem dX10_init_128 : decode cX10_init 128 = .ok (.putfield 70, 3) := by decide +kernel
theorem dX10_init_131 : decode cX10_init 131 = .ok (.aload_n 0, 1) := by decide +kernel
theorem dX10_init_132 : decode cX10_init 132 = .ok (.new 74, 3) := by decide +kernel
theorem dX10_init_135 : decode cX10_init 135 = .ok (.dup, 1) := by decide +kernel
theorem dX10_init_136 : decode cX10_init 136 = .ok (.aload_n 0, 1) := by decide +kernel
theorem dX10_init_137 : decode cX10_init 137 = .ok (.getfield 38, 3) := by decide +kernel
theorem dX10_init_140 : decode cX10_init 140 = .ok (.invokespecial 76, 3) := by decide +kernel
theorem dX10_init_143 : decode cX10_init 143 = .ok (.putfield 77, 3) := by decide +kernel
theorem dX10_init_146 : decode cX10_init 146 = .ok (.aload_n 0, 1) := by decide +kernel
theorem dX10_init_147 : decode cX10_init 147 = .ok (.iconst 0, 1) := by decide +kernel
theorem dX10_init_148 : decode cX10_init 148 = .ok (.putfield 81, 3) := by decide +kernel
theorem dX10_init_151 : decode cX10_init 151 = .ok (.aload_n 0, 1) := by decide +kernel
theorem dX10_init_152 : decode cX10_init 152 = .ok (.iconst 0, 1) := by decide +kernel
theorem dX10_init_153 : decode cX10_init 153 = .ok (.putfield 85, 3) := by decide +kernel
theorem dX10_init_156 : decode cX10_init 156 = .ok (.aload_n 0, 1) := by decide +kernel
theorem dX10_init_157 : decode cX10_init 157 = .ok (.iconst 0, 1) := by decide +kernel
theorem dX10_init_158 : decode cX10_init 158 = .ok (.putfield 88, 3) := by decide +kernel
theorem dX10_init_161 : decode cX10_init 161 = .ok (.aload_n 0, 1) := by decide +kernel
theorem dX10_init_162 : decode cX10_init 162 = .ok (.iconst 0, 1) := by decide +kernel
theorem dX10_init_163 : decode cX10_init 163 = .ok (.putfield 92, 3) := by decide +kernel
theorem dX10_init_166 : decode cX10_init 166 = .ok (.return_, 1) := by decide +kernel
set_option maxRecDepth 20000 in
theorem ggX10_letter_X5_size : GoodIn wsX10_letter wsX5_size := goodIn_r _ [6, 7, 27, 28] (by decide +kernel) (by decide +kernel)
set_option maxRecDepth 20000 in
theorem gX10_letter_X5_size : GoodIn wsX10_letter (wsV RX10 95 RX5 yX5_size wsX5_size) := goodIn_app (goodIn_of _ (by decide +kernel)) ggX10_letter_X5_size
set_option maxRecDepth 20000 in
theorem ggX10_letter_X5_add : GoodIn wsX10_letter wsX5_add := goodIn_r _ [11, 7, 12, 27, 28] (by decide +kernel) (by decide +kernel)
set_option maxRecDepth 20000 in
theorem gX10_letter_X5_add : GoodIn wsX10_letter (wsV RX10 99 RX5 yX5_add wsX5_add) := goodIn_app (goodIn_of _ (by decide +kernel)) ggX10_letter_X5_add
theorem dX10_letter_0 : decode cX10_letter 0 = .ok (.iload_n 1, 1) := by decide +kernel
theorem dX10_letter_1 : decode cX10_letter 1 = .ok (.bipush 32, 2) := by decide +kernel
theorem dX10_letter_3 : decode cX10_letter 3 = .ok (.if_icmp .lt 9, 3) := by decide +kernel
theorem dX10_letter_6 : decode cX10_letter 6 = .ok (.iload_n 1, 1) := by decide +kernel
theorem dX10_letter_7 : decode cX10_letter 7 = .ok (.bipush 126, 2) := by decide +kernel
theorem dX10_letter_9 : decode cX10_letter 9 = .ok (.if_icmp .le 6, 3) := by decide +kernel
theorem dX10_letter_12 : decode cX10_letter 12 = .ok (.bipush (-102), 2) := by decide +kernel
theorem dX10_letter_14 : decode cX10_letter 14 = .ok (.ireturn, 1) := by decide +kernel
theorem dX10_letter_15 : decode cX10_letter 15 = .ok (.aload_n 0, 1) := by decide +kernel
theorem dX10_letter_16 : decode cX10_letter 16 = .ok (.getfield 10, 3) := by decide +kernel
theorem dX10_letter_19 : decode cX10_letter 19 = .ok (.invokevirtual 95, 3) := by decide +kernel
theorem dX10_letter_22 : decode cX10_letter 22 = .ok (.bipush 26, 2) := by decide +kernel
theorem dX10_letter_24 : decode cX10_letter 24 = .ok (.if_icmp .lt 6, 3) := by decide +kernel
theorem dX10_letter_27 : decode cX10_letter 27 = .ok (.bipush (-104), 2) := by decide +kernel
theorem dX10_letter_29 : decode cX10_letter 29 = .ok (.ireturn, 1) := by decide +kernel
theorem dX10_letter_30 : decode cX10_letter 30 = .ok (.aload_n 0, 1) := by decide +kernel
theorem dX10_letter_31 : decode cX10_letter 31 = .ok (.getfield 10, 3) := by decide +kernel
theorem dX10_letter_34 : decode cX10_letter 34 = .ok (.iload_n 1, 1) := by decide +kernel
theorem dX10_letter_35 : decode cX10_letter 35 = .ok (.i2c, 1) := by decide +kernel
theorem dX10_letter_36 : decode cX10_letter 36 = .ok (.invokevirtual 99, 3) := by decide +kernel
theorem dX10_letter_39 : decode cX10_letter 39 = .ok (.aload_n 0, 1) := by decide +kernel
theorem dX10_letter_40 : decode cX10_letter 40 = .ok (.getfield 10, 3) := by decide +kernel
theorem dX10_letter_43 : decode cX10_letter 43 = .ok (.invokevirtual 95, 3) := by decide +kernel
theorem dX10_letter_46 : decode cX10_letter 46 = .ok (.ireturn, 1) := by decide +kernel
set_option maxRecDepth 20000 in
theorem ggX10_blank_X5_size : GoodIn wsX10_blank wsX5_size := goodIn_r _ [6, 7, 26, 27] (by decide +kernel) (by decide +kernel)
set_option maxRecDepth 20000 in
theorem gX10_blank_X5_size : GoodIn wsX10_blank (wsV RX10 95 RX5 yX5_size wsX5_size) := goodIn_app (goodIn_of _ (by decide +kernel)) ggX10_blank_X5_size
set_option maxRecDepth 20000 in
theorem ggX10_blank_X5_wipe : GoodIn wsX10_blank wsX5_wipe := goodIn_r _ [11, 7, 26, 27] (by decide +kernel) (by decide +kernel)
set_option maxRecDepth 20000 in
theorem gX10_blank_X5_wipe : GoodIn wsX10_blank (wsV RX10 103 RX5 yX5_wipe wsX5_wipe) := goodIn_app (goodIn_of _ (by decide +kernel)) ggX10_blank_X5_wipe
theorem dX10_blank_0 : decode cX10_blank 0 = .ok (.aload_n 0, 1) := by decide +kernel
theorem dX10_blank_1 : decode cX10_blank 1 = .ok (.getfield 10, 3) := by decide +kernel
theorem dX10_blank_4 : decode cX10_blank 4 = .ok (.invokevirtual 95, 3) := by decide +kernel
theorem dX10_blank_7 : decode cX10_blank 7 = .ok (.istore_n 1, 1) := by decide +kernel
theorem dX10_blank_8 : decode cX10_blank 8 = .ok (.aload_n 0, 1) := by decide +kernel
theorem dX10_blank_9 : decode cX10_blank 9 = .ok (.getfield 10, 3) := by decide +kernel
theorem dX10_blank_12 : decode cX10_blank 12 = .ok (.invokevirtual 103, 3) := by decide +kernel
theorem dX10_blank_15 : decode cX10_blank 15 = .ok (.iload_n 1, 1) := by decide +kernel
theorem dX10_blank_16 : decode cX10_blank 16 = .ok (.ireturn, 1) := by decide +kernel
set_option maxRecDepth 20000 in
theorem ggX10_fault_X5_firstWrong : GoodIn wsX10_fault wsX5_firstWrong := goodIn_r _ [6, 7, 8, 9, 10, 5, 11, 12, 13, 14, 15, 16, 17, 18, 19, 20, 21, 22, 23, 24, 25, 26, 27, 28, 29, 30, 31, 32, 33, 34, 35, 36, 37, 38, 39, 40, 41, 42, 43, 44, 45, 46, 47, 48, 49, 50, 51, 52, 53, 54, 55, 56, 57, 58, 59, 60, 61, 62, 63, 64, 65, 66, 67, 68, 69, 70, 71, 72, 73, 74, 75, 76, 77, 78, 79, 80, 81, 82, 83, 84, 85, 86, 87, 88, 89, 90, 91, 92, 93, 94, 95, 96, 97, 98, 99, 100, 101, 102, 103, 104, 105, 120, 121] (by decide +kernel) (by decide +kernel)
set_option maxRecDepth 20000 in
theorem gX10_fault_X5_firstWrong : GoodIn wsX10_fault (wsV RX10 106 RX5 yX5_firstWrong wsX5_firstWrong) := goodIn_app (goodIn_of _ (by decide +kernel)) ggX10_fault_X5_firstWrong
theorem dX10_fault_0 : decode cX10_fault 0 = .ok (.aload_n 0, 1) := by decide +kernel
theorem dX10_fault_1 : decode cX10_fault 1 = .ok (.getfield 10, 3) := by decide +kernel
theorem dX10_fault_4 : decode cX10_fault 4 = .ok (.invokevirtual 106, 3) := by decide +kernel
theorem dX10_fault_7 : decode cX10_fault 7 = .ok (.ireturn, 1) := by decide +kernel
set_option maxRecDepth 20000 in
theorem ggX10_hedge_X5_isWhole : GoodIn wsX10_hedge wsX5_isWhole := goodIn_r _ [11, 12, 13, 14, 15, 10, 16, 17, 18, 19, 20, 21, 22, 23, 24, 25, 26, 27, 28, 29, 30, 31, 32, 33, 34, 35, 36, 37, 38, 39, 40, 41, 42, 43, 44, 45, 46, 47, 48, 49, 50, 51, 52, 53, 54, 55, 56, 57, 58, 59, 60, 61, 62, 63, 64, 65, 66, 67, 68, 69, 70, 71, 72, 73, 74, 75, 76, 77, 78, 79, 80, 81, 82, 83, 84, 85, 86, 87, 88, 89, 90, 91, 92, 93, 94, 95, 96, 97, 98, 99, 100, 101, 102, 103, 104, 105, 106, 107, 108, 109, 110, 111, 112, 113, 114, 188, 189] (by decide +kernel) (by decide +kernel)
set_option maxRecDepth 20000 in
theorem gX10_hedge_X5_isWhole : GoodIn wsX10_hedge (wsV RX10 109 RX5 yX5_isWhole wsX5_isWhole) := goodIn_app (goodIn_of _ (by decide +kernel)) ggX10_hedge_X5_isWhole
set_option maxRecDepth 20000 in
theorem ggX10_hedge_X8_readFrom : GoodIn wsX10_hedge wsX8_readFrom := goodIn_r _ [119, 120, 59, 56, 60, 121, 122, 123, 124, 125, 126, 10, 127, 12, 128, 129, 130, 131, 21, 22, 23, 24, 25, 132, 133, 134, 118, 135, 136, 137, 138, 139, 140, 141, 142, 143, 144, 145, 146, 147, 148, 149, 183, 184, 185, 186, 187, 188, 189] (by decide +kernel) (by decide +kernel)
set_option maxRecDepth 20000 in
theorem gX10_hedge_X8_readFrom : GoodIn wsX10_hedge (wsV RX10 113 RX8 yX8_readFrom wsX8_readFrom) := goodIn_app (goodIn_of _ (by decide +kernel)) ggX10_hedge_X8_readFrom
set_option maxRecDepth 20000 in
theorem ggX10_hedge_X3_beginWith : GoodIn wsX10_hedge wsX3_beginWith := goodIn_r _ [154, 155, 156, 157, 158, 159, 160, 161, 162, 10, 163, 164, 55, 56, 57, 21, 22, 23, 24, 12, 25, 26, 27, 28, 29, 30, 31, 32, 33, 34, 35, 36, 37, 38, 39, 40, 41, 42, 43, 44, 45, 46, 47, 48, 49, 50, 51, 52, 53, 54, 58, 59, 60, 61, 62, 63, 64, 65, 66, 67, 68, 69, 70, 71, 72, 73, 74, 75, 76, 77, 78, 79, 80, 81, 82, 83, 84, 85, 86, 87, 88, 89, 90, 91, 92, 93, 94, 95, 96, 97, 98, 99, 100, 101, 102, 103, 104, 105, 106, 107, 108, 109, 110, 111, 112, 113, 114, 190, 191, 192, 193, 194, 195, 196, 197, 198, 188, 189] (by decide +kernel) (by decide +kernel)
set_option maxRecDepth 20000 in
theorem gX10_hedge_X3_beginWith : GoodIn wsX10_hedge (wsV RX10 120 RX3 yX3_beginWith wsX3_beginWith) := goodIn_app (goodIn_of _ (by decide +kernel)) ggX10_hedge_X3_beginWith
set_option maxRecDepth 20000 in
theorem ggX10_hedge_X5_wipe : GoodIn wsX10_hedge wsX5_wipe := goodIn_r _ [168, 12, 188, 189] (by decide +kernel) (by decide +kernel)
set_option maxRecDepth 20000 in
theorem gX10_hedge_X5_wipe : GoodIn wsX10_hedge (wsV RX10 103 RX5 yX5_wipe wsX5_wipe) := goodIn_app (goodIn_of _ (by decide +kernel)) ggX10_hedge_X5_wipe
theorem dX10_hedge_0 : decode cX10_hedge 0 = .ok (.aload_n 0, 1) := by decide +kernel
theorem dX10_hedge_1 : decode cX10_hedge 1 = .ok (.getfield 10, 3) := by decide +kernel
theorem dX10_hedge_4 : decode cX10_hedge 4 = .ok (.invokevirtual 109, 3) := by decide +kernel
theorem dX10_hedge_7 : decode cX10_hedge 7 = .ok (.ifCond .ne 6, 3) := by decide +kernel
theorem dX10_hedge_10 : decode cX10_hedge 10 = .ok (.bipush (-103), 2) := by decide +kernel
theorem dX10_hedge_12 : decode cX10_hedge 12 = .ok (.ireturn, 1) := by decide +kernel
theorem dX10_hedge_13 : decode cX10_hedge 13 = .ok (.aload_n 0, 1) := by decide +kernel
theorem dX10_hedge_14 : decode cX10_hedge 14 = .ok (.getfield 19, 3) := by decide +kernel
theorem dX10_hedge_17 : decode cX10_hedge 17 = .ok (.aload_n 0, 1) := by decide +kernel
theorem dX10_hedge_18 : decode cX10_hedge 18 = .ok (.getfield 10, 3) := by decide +kernel
theorem dX10_hedge_21 : decode cX10_hedge 21 = .ok (.invokevirtual 113, 3) := by decide +kernel
theorem dX10_hedge_24 : decode cX10_hedge 24 = .ok (.aload_n 0, 1) := by decide +kernel
theorem dX10_hedge_25 : decode cX10_hedge 25 = .ok (.getfield 26, 3) := by decide +kernel
theorem dX10_hedge_28 : decode cX10_hedge 28 = .ok (.aload_n 0, 1) := by decide +kernel
theorem dX10_hedge_29 : decode cX10_hedge 29 = .ok (.getfield 10, 3) := by decide +kernel
theorem dX10_hedge_32 : decode cX10_hedge 32 = .ok (.aload_n 0, 1) := by decide +kernel
theorem dX10_hedge_33 : decode cX10_hedge 33 = .ok (.getfield 19, 3) := by decide +kernel
theorem dX10_hedge_36 : decode cX10_hedge 36 = .ok (.getfield 117, 3) := by decide +kernel
theorem dX10_hedge_39 : decode cX10_hedge 39 = .ok (.invokevirtual 120, 3) := by decide +kernel
theorem dX10_hedge_42 : decode cX10_hedge 42 = .ok (.aload_n 0, 1) := by decide +kernel
theorem dX10_hedge_43 : decode cX10_hedge 43 = .ok (.iconst 0, 1) := by decide +kernel
theorem dX10_hedge_44 : decode cX10_hedge 44 = .ok (.putfield 81, 3) := by decide +kernel
theorem dX10_hedge_47 : decode cX10_hedge 47 = .ok (.aload_n 0, 1) := by decide +kernel
theorem dX10_hedge_48 : decode cX10_hedge 48 = .ok (.getfield 10, 3) := by decide +kernel
theorem dX10_hedge_51 : decode cX10_hedge 51 = .ok (.invokevirtual 103, 3) := by decide +kernel
theorem dX10_hedge_54 : decode cX10_hedge 54 = .ok (.aload_n 0, 1) := by decide +kernel
theorem dX10_hedge_55 : decode cX10_hedge 55 = .ok (.iconst 0, 1) := by decide +kernel
theorem dX10_hedge_56 : decode cX10_hedge 56 = .ok (.putfield 85, 3) := by decide +kernel
theorem dX10_hedge_59 : decode cX10_hedge 59 = .ok (.aload_n 0, 1) := by decide +kernel
theorem dX10_hedge_60 : decode cX10_hedge 60 = .ok (.dup, 1) := by decide +kernel
theorem dX10_hedge_61 : decode cX10_hedge 61 = .ok (.getfield 88, 3) := by decide +kernel
theorem dX10_hedge_64 : decode cX10_hedge 64 = .ok (.iconst 1, 1) := by decide +kernel
theorem dX10_hedge_65 : decode cX10_hedge 65 = .ok (.iadd, 1) := by decide +kernel
theorem dX10_hedge_66 : decode cX10_hedge 66 = .ok (.putfield 88, 3) := by decide +kernel
theorem dX10_hedge_69 : decode cX10_hedge 69 = .ok (.aload_n 0, 1) := by decide +kernel
theorem dX10_hedge_70 : decode cX10_hedge 70 = .ok (.getfield 19, 3) := by decide +kernel
theorem dX10_hedge_73 : decode cX10_hedge 73 = .ok (.getfield 117, 3) := by decide +kernel
theorem dX10_hedge_76 : decode cX10_hedge 76 = .ok (.ireturn, 1) := by decide +kernel
set_option maxRecDepth 20000 in
theorem ggX10_branch_X10_isUnknown : GoodIn wsX10_branch wsX10_isUnknown := goodIn_r _ [8, 2, 123, 124, 125, 126, 127, 128, 129, 130, 131, 132, 133, 134, 135, 136, 142, 143, 144, 145, 146] (by decide +kernel) (by decide +kernel)
set_option maxRecDepth 20000 in
theorem gX10_branch_X10_isUnknown : GoodIn wsX10_branch (wsV RX10 124 RX10 yX10_isUnknown wsX10_isUnknown) := goodIn_app (goodIn_of _ (by decide +kernel)) ggX10_branch_X10_isUnknown
set_option maxRecDepth 20000 in
theorem ggX10_branch_X6_choices : GoodIn wsX10_branch wsX6_choices := goodIn_r _ [13, 14, 15, 16, 17, 18, 12, 19, 147, 148, 142, 143, 144, 145, 146, 137, 138, 139, 140, 141] (by decide +kernel) (by decide +kernel)
set_option maxRecDepth 20000 in
theorem gX10_branch_X6_choices : GoodIn wsX10_branch (wsV RX10 138 RX6 yX6_choices wsX6_choices) := goodIn_app (goodIn_of _ (by decide +kernel)) ggX10_branch_X6_choices
set_option maxRecDepth 20000 in
theorem ggX10_branch_X10_chart : GoodIn wsX10_branch wsX10_chart := goodIn_r _ [23, 24, 2, 3, 25, 26, 27, 28, 9, 10, 11, 12, 13, 14, 15, 16, 17, 18, 19, 29, 30, 31, 32, 33, 34, 35, 36, 37, 38, 39, 40, 41, 7, 42, 43, 44, 45, 46, 47, 48, 49, 50, 51, 52, 53, 54, 55, 56, 57, 58, 59, 60, 61, 62, 63, 64, 65, 66, 67, 68, 69, 70, 71, 72, 73, 74, 75, 76, 77, 78, 79, 80, 81, 82, 83, 84, 85, 86, 87, 88, 89, 90, 91, 92, 93, 94, 95, 96, 97, 98, 99, 100, 101, 102, 103, 104, 105, 123, 124, 125, 126, 127, 128, 129, 130, 131, 132, 133, 134, 135, 136, 142, 143, 144, 145, 146, 147, 148, 137, 138, 139, 140, 141, 149, 150, 151, 152, 153, 154, 155, 156, 157] (by decide +kernel) (by decide +kernel)
set_option maxRecDepth 20000 in
theorem gX10_branch_X10_chart : GoodIn wsX10_branch (wsV RX10 145 RX10 yX10_chart wsX10_chart) := goodIn_app (goodIn_of _ (by decide +kernel)) ggX10_branch_X10_chart
set_option maxRecDepth 20000 in
theorem ggX10_branch_X10_sortsOf : GoodIn wsX10_branch wsX10_sortsOf := goodIn_r _ [109, 1, 25, 110, 111, 112, 32, 113, 35, 41, 7, 42, 123, 124, 125, 126, 127, 128, 129, 130, 131, 132, 133, 134, 135, 136, 137, 138, 139, 140, 141, 158, 159, 160, 161, 149, 150] (by decide +kernel) (by decide +kernel)
set_option maxRecDepth 20000 in
theorem gX10_branch_X10_sortsOf : GoodIn wsX10_branch (wsV RX10 148 RX10 yX10_sortsOf wsX10_sortsOf) := goodIn_app (goodIn_of _ (by decide +kernel)) ggX10_branch_X10_sortsOf
set_option maxRecDepth 20000 in
theorem ggX10_branch_X10_whomToLetBegin : GoodIn wsX10_branch wsX10_whomToLetBegin := goodIn_r _ [117, 25, 1, 106, 107, 108, 7, 109, 110, 111, 112, 32, 113, 35, 41, 42, 118, 119, 120, 121, 59, 60, 61, 122, 99, 100, 101, 102, 103, 104, 123, 124, 125, 126, 127, 128, 129, 130, 131, 132, 133, 134, 135, 136, 137, 138, 139, 140, 141, 158, 159, 160, 161, 149, 150] (by decide +kernel) (by decide +kernel)
set_option maxRecDepth 20000 in
theorem gX10_branch_X10_whomToLetBegin : GoodIn wsX10_branch (wsV RX10 152 RX10 yX10_whomToLetBegin wsX10_whomToLetBegin) := goodIn_app (goodIn_of _ (by decide +kernel)) ggX10_branch_X10_whomToLetBegin
theorem dX10_branch_0 : decode cX10_branch 0 = .ok (.aload_n 0, 1) := by decide +kernel
theorem dX10_branch_1 : decode cX10_branch 1 = .ok (.iload_n 1, 1) := by decide +kernel
theorem dX10_branch_2 : decode cX10_branch 2 = .ok (.invokevirtual 124, 3) := by decide +kernel
theorem dX10_branch_5 : decode cX10_branch 5 = .ok (.ifCond .eq 6, 3) := by decide +kernel
theorem dX10_branch_8 : decode cX10_branch 8 = .ok (.bipush (-101), 2) := by decide +kernel
theorem dX10_branch_10 : decode cX10_branch 10 = .ok (.ireturn, 1) := by decide +kernel
theorem dX10_branch_11 : decode cX10_branch 11 = .ok (.iload_n 2, 1) := by decide +kernel
theorem dX10_branch_12 : decode cX10_branch 12 = .ok (.tableswitch 150 0 7 #[48, 58, 68, 80, 100, 120, 130, 140], 48) := by decide +kernel
theorem dX10_branch_60 : decode cX10_branch 60 = .ok (.aload_n 0, 1) := by decide +kernel
theorem dX10_branch_61 : decode cX10_branch 61 = .ok (.getfield 26, 3) := by decide +kernel
theorem dX10_branch_64 : decode cX10_branch 64 = .ok (.getfield 128, 3) := by decide +kernel
theorem dX10_branch_67 : decode cX10_branch 67 = .ok (.iload_n 1, 1) := by decide +kernel
theorem dX10_branch_68 : decode cX10_branch 68 = .ok (.iaload, 1) := by decide +kernel
theorem dX10_branch_69 : decode cX10_branch 69 = .ok (.ireturn, 1) := by decide +kernel
theorem dX10_branch_70 : decode cX10_branch 70 = .ok (.aload_n 0, 1) := by decide +kernel
theorem dX10_branch_71 : decode cX10_branch 71 = .ok (.getfield 19, 3) := by decide +kernel
theorem dX10_branch_74 : decode cX10_branch 74 = .ok (.getfield 132, 3) := by decide +kernel
theorem dX10_branch_77 : decode cX10_branch 77 = .ok (.iload_n 1, 1) := by decide +kernel
theorem dX10_branch_78 : decode cX10_branch 78 = .ok (.iaload, 1) := by decide +kernel
theorem dX10_branch_79 : decode cX10_branch 79 = .ok (.ireturn, 1) := by decide +kernel
theorem dX10_branch_80 : decode cX10_branch 80 = .ok (.aload_n 0, 1) := by decide +kernel
theorem dX10_branch_81 : decode cX10_branch 81 = .ok (.getfield 26, 3) := by decide +kernel
theorem dX10_branch_84 : decode cX10_branch 84 = .ok (.getfield 135, 3) := by decide +kernel
theorem dX10_branch_87 : decode cX10_branch 87 = .ok (.iload_n 1, 1) := by decide +kernel
theorem dX10_branch_88 : decode cX10_branch 88 = .ok (.ishr, 1) := by decide +kernel
theorem dX10_branch_89 : decode cX10_branch 89 = .ok (.iconst 1, 1) := by decide +kernel
theorem dX10_branch_90 : decode cX10_branch 90 = .ok (.iand, 1) := by decide +kernel
theorem dX10_branch_91 : decode cX10_branch 91 = .ok (.ireturn, 1) := by decide +kernel
theorem dX10_branch_92 : decode cX10_branch 92 = .ok (.aload_n 0, 1) := by decide +kernel
theorem dX10_branch_93 : decode cX10_branch 93 = .ok (.getfield 38, 3) := by decide +kernel
theorem dX10_branch_96 : decode cX10_branch 96 = .ok (.iconst 0, 1) := by decide +kernel
theorem dX10_branch_97 : decode cX10_branch 97 = .ok (.aload_n 0, 1) := by decide +kernel
theorem dX10_branch_98 : decode cX10_branch 98 = .ok (.getfield 26, 3) := by decide +kernel
theorem dX10_branch_101 : decode cX10_branch 101 = .ok (.getfield 135, 3) := by decide +kernel
theorem dX10_branch_104 : decode cX10_branch 104 = .ok (.invokevirtual 138, 3) := by decide +kernel
theorem dX10_branch_107 : decode cX10_branch 107 = .ok (.iload_n 1, 1) := by decide +kernel
theorem dX10_branch_108 : decode cX10_branch 108 = .ok (.ishr, 1) := by decide +kernel
theorem dX10_branch_109 : decode cX10_branch 109 = .ok (.iconst 1, 1) := by decide +kernel
theorem dX10_branch_110 : decode cX10_branch 110 = .ok (.iand, 1) := by decide +kernel
theorem dX10_branch_111 : decode cX10_branch 111 = .ok (.ireturn, 1) := by decide +kernel
theorem dX10_branch_112 : decode cX10_branch 112 = .ok (.aload_n 0, 1) := by decide +kernel
theorem dX10_branch_113 : decode cX10_branch 113 = .ok (.getfield 38, 3) := by decide +kernel
theorem dX10_branch_116 : decode cX10_branch 116 = .ok (.iconst 1, 1) := by decide +kernel
theorem dX10_branch_117 : decode cX10_branch 117 = .ok (.aload_n 0, 1) := by decide +kernel
theorem dX10_branch_118 : decode cX10_branch 118 = .ok (.getfield 26, 3) := by decide +kernel
theorem dX10_branch_121 : decode cX10_branch 121 = .ok (.getfield 135, 3) := by decide +kernel
theorem dX10_branch_124 : decode cX10_branch 124 = .ok (.invokevirtual 138, 3) := by decide +kernel
theorem dX10_branch_127 : decode cX10_branch 127 = .ok (.iload_n 1, 1) := by decide +kernel
theorem dX10_branch_128 : decode cX10_branch 128 = .ok (.ishr, 1) := by decide +kernel
theorem dX10_branch_129 : decode cX10_branch 129 = .ok (.iconst 1, 1) := by decide +kernel
theorem dX10_branch_130 : decode cX10_branch 130 = .ok (.iand, 1) := by decide +kernel
theorem dX10_branch_131 : decode cX10_branch 131 = .ok (.ireturn, 1) := by decide +kernel
theorem dX10_branch_132 : decode cX10_branch 132 = .ok (.aload_n 0, 1) := by decide +kernel
theorem dX10_branch_133 : decode cX10_branch 133 = .ok (.getfield 19, 3) := by decide +kernel
theorem dX10_branch_136 : decode cX10_branch 136 = .ok (.getfield 142, 3) := by decide +kernel
theorem dX10_branch_139 : decode cX10_branch 139 = .ok (.iload_n 1, 1) := by decide +kernel
theorem dX10_branch_140 : decode cX10_branch 140 = .ok (.iaload, 1) := by decide +kernel
theorem dX10_branch_141 : decode cX10_branch 141 = .ok (.ireturn, 1) := by decide +kernel
theorem dX10_branch_142 : decode cX10_branch 142 = .ok (.aload_n 0, 1) := by decide +kernel
theorem dX10_branch_143 : decode cX10_branch 143 = .ok (.invokevirtual 145, 3) := by decide +kernel
theorem dX10_branch_146 : decode cX10_branch 146 = .ok (.aload_n 0, 1) := by decide +kernel
theorem dX10_branch_147 : decode cX10_branch 147 = .ok (.iload_n 1, 1) := by decide +kernel
theorem dX10_branch_148 : decode cX10_branch 148 = .ok (.invokevirtual 148, 3) := by decide +kernel
theorem dX10_branch_151 : decode cX10_branch 151 = .ok (.ireturn, 1) := by decide +kernel
theorem dX10_branch_152 : decode cX10_branch 152 = .ok (.aload_n 0, 1) := by decide +kernel
theorem dX10_branch_153 : decode cX10_branch 153 = .ok (.invokevirtual 145, 3) := by decide +kernel
theorem dX10_branch_156 : decode cX10_branch 156 = .ok (.aload_n 0, 1) := by decide +kernel
theorem dX10_branch_157 : decode cX10_branch 157 = .ok (.iload_n 1, 1) := by decide +kernel
theorem dX10_branch_158 : decode cX10_branch 158 = .ok (.invokevirtual 152, 3) := by decide +kernel
theorem dX10_branch_161 : decode cX10_branch 161 = .ok (.ireturn, 1) := by decide +kernel
theorem dX10_branch_162 : decode cX10_branch 162 = .ok (.bipush (-102), 2) := by decide +kernel
theorem dX10_branch_164 : decode cX10_branch 164 = .ok (.ireturn, 1) := by decide +kernel
set_option maxRecDepth 20000 in
theorem ggX10_as_X10_isUnknown : GoodIn wsX10_as wsX10_isUnknown := goodIn_r _ [7, 8, 9, 10, 11, 12, 13, 14, 15, 16, 17, 18, 19, 20, 21, 22, 28, 29, 30, 31, 32] (by decide +kernel) (by decide +kernel)
set_option maxRecDepth 20000 in
theorem gX10_as_X10_isUnknown : GoodIn wsX10_as (wsV RX10 124 RX10 yX10_isUnknown wsX10_isUnknown) := goodIn_app (goodIn_of _ (by decide +kernel)) ggX10_as_X10_isUnknown
theorem dX10_as_0 : decode cX10_as 0 = .ok (.aload_n 0, 1) := by decide +kernel
theorem dX10_as_1 : decode cX10_as 1 = .ok (.iload_n 1, 1) := by decide +kernel
theorem dX10_as_2 : decode cX10_as 2 = .ok (.invokevirtual 124, 3) := by decide +kernel
theorem dX10_as_5 : decode cX10_as 5 = .ok (.ifCond .eq 6, 3) := by decide +kernel
theorem dX10_as_8 : decode cX10_as 8 = .ok (.bipush (-101), 2) := by decide +kernel
theorem dX10_as_10 : decode cX10_as 10 = .ok (.ireturn, 1) := by decide +kernel
theorem dX10_as_11 : decode cX10_as 11 = .ok (.iload_n 2, 1) := by decide +kernel
theorem dX10_as_12 : decode cX10_as 12 = .ok (.ifCond .lt 8, 3) := by decide +kernel
theorem dX10_as_15 : decode cX10_as 15 = .ok (.iload_n 2, 1) := by decide +kernel
theorem dX10_as_16 : decode cX10_as 16 = .ok (.iconst 5, 1) := by decide +kernel
theorem dX10_as_17 : decode cX10_as 17 = .ok (.if_icmp .lt 6, 3) := by decide +kernel
theorem dX10_as_20 : decode cX10_as 20 = .ok (.bipush (-102), 2) := by decide +kernel
theorem dX10_as_22 : decode cX10_as 22 = .ok (.ireturn, 1) := by decide +kernel
theorem dX10_as_23 : decode cX10_as 23 = .ok (.getstatic 155, 3) := by decide +kernel
theorem dX10_as_26 : decode cX10_as 26 = .ok (.iload_n 2, 1) := by decide +kernel
theorem dX10_as_27 : decode cX10_as 27 = .ok (.iaload, 1) := by decide +kernel
theorem dX10_as_28 : decode cX10_as 28 = .ok (.aload_n 0, 1) := by decide +kernel
theorem dX10_as_29 : decode cX10_as 29 = .ok (.getfield 26, 3) := by decide +kernel
theorem dX10_as_32 : decode cX10_as 32 = .ok (.getfield 128, 3) := by decide +kernel
theorem dX10_as_35 : decode cX10_as 35 = .ok (.iload_n 1, 1) := by decide +kernel
theorem dX10_as_36 : decode cX10_as 36 = .ok (.iaload, 1) := by decide +kernel
theorem dX10_as_37 : decode cX10_as 37 = .ok (.ishr, 1) := by decide +kernel
theorem dX10_as_38 : decode cX10_as 38 = .ok (.iconst 1, 1) := by decide +kernel
theorem dX10_as_39 : decode cX10_as 39 = .ok (.iand, 1) := by decide +kernel
theorem dX10_as_40 : decode cX10_as 40 = .ok (.ifCond .eq 7, 3) := by decide +kernel
theorem dX10_as_43 : decode cX10_as 43 = .ok (.iload_n 1, 1) := by decide +kernel
theorem dX10_as_44 : decode cX10_as 44 = .ok (.goto 4, 3) := by decide +kernel
theorem dX10_as_47 : decode cX10_as 47 = .ok (.iconst (-1), 1) := by decide +kernel
theorem dX10_as_48 : decode cX10_as 48 = .ok (.ireturn, 1) := by decide +kernel
set_option maxRecDepth 20000 in
theorem ggX10_cut_X10_isUnknown : GoodIn wsX10_cut wsX10_isUnknown := goodIn_r _ [7, 8, 31, 32, 33, 34, 35, 36, 37, 38, 39, 40, 41, 42, 43, 44, 50, 51, 52, 53, 54] (by decide +kernel) (by decide +kernel)
set_option maxRecDepth 20000 in
theorem gX10_cut_X10_isUnknown : GoodIn wsX10_cut (wsV RX10 124 RX10 yX10_isUnknown wsX10_isUnknown) := goodIn_app (goodIn_of _ (by decide +kernel)) ggX10_cut_X10_isUnknown
set_option maxRecDepth 20000 in
theorem ggX10_cut_X6_choices : GoodIn wsX10_cut wsX6_choices := goodIn_r _ [13, 14, 15, 16, 17, 18, 12, 19, 55, 56, 50, 51, 52, 53, 54, 45, 46, 47, 48, 49] (by decide +kernel) (by decide +kernel)
set_option maxRecDepth 20000 in
theorem gX10_cut_X6_choices : GoodIn wsX10_cut (wsV RX10 138 RX6 yX6_choices wsX6_choices) := goodIn_app (goodIn_of _ (by decide +kernel)) ggX10_cut_X6_choices
set_option maxRecDepth 20000 in
theorem ggX10_cut_J6_bitCount_0f7a4 : GoodIn wsX10_cut wsJ6_bitCount_0f7a4 := goodIn_r _ [23, 24, 25, 26] (by decide +kernel) (by decide +kernel)
set_option maxRecDepth 20000 in
theorem gX10_cut_J6_bitCount_0f7a4 : GoodIn wsX10_cut (va_wsS RX10 164 yJ6_bitCount_0f7a4 wsJ6_bitCount_0f7a4) := goodIn_app (goodIn_of _ (by decide +kernel)) ggX10_cut_J6_bitCount_0f7a4
set_option maxRecDepth 20000 in
theorem ggX10_cut_X6_leftBy : GoodIn wsX10_cut wsX6_leftBy := goodIn_r _ [30, 14, 55, 56, 50, 51, 52, 53, 54] (by decide +kernel) (by decide +kernel)
set_option maxRecDepth 20000 in
theorem gX10_cut_X6_leftBy : GoodIn wsX10_cut (wsV RX10 169 RX6 yX6_leftBy wsX6_leftBy) := goodIn_app (goodIn_of _ (by decide +kernel)) ggX10_cut_X6_leftBy
theorem dX10_cut_0 : decode cX10_cut 0 = .ok (.aload_n 0, 1) := by decide +kernel
theorem dX10_cut_1 : decode cX10_cut 1 = .ok (.iload_n 1, 1) := by decide +kernel
theorem dX10_cut_2 : decode cX10_cut 2 = .ok (.invokevirtual 124, 3) := by decide +kernel
theorem dX10_cut_5 : decode cX10_cut 5 = .ok (.ifCond .eq 6, 3) := by decide +kernel
theorem dX10_cut_8 : decode cX10_cut 8 = .ok (.bipush (-101), 2) := by decide +kernel
theorem dX10_cut_10 : decode cX10_cut 10 = .ok (.ireturn, 1) := by decide +kernel
theorem dX10_cut_11 : decode cX10_cut 11 = .ok (.aload_n 0, 1) := by decide +kernel
theorem dX10_cut_12 : decode cX10_cut 12 = .ok (.getfield 38, 3) := by decide +kernel
theorem dX10_cut_15 : decode cX10_cut 15 = .ok (.aload_n 0, 1) := by decide +kernel
theorem dX10_cut_16 : decode cX10_cut 16 = .ok (.getfield 26, 3) := by decide +kernel
theorem dX10_cut_19 : decode cX10_cut 19 = .ok (.getfield 158, 3) := by decide +kernel
theorem dX10_cut_22 : decode cX10_cut 22 = .ok (.aload_n 0, 1) := by decide +kernel
theorem dX10_cut_23 : decode cX10_cut 23 = .ok (.getfield 26, 3) := by decide +kernel
theorem dX10_cut_26 : decode cX10_cut 26 = .ok (.getfield 135, 3) := by decide +kernel
theorem dX10_cut_29 : decode cX10_cut 29 = .ok (.invokevirtual 138, 3) := by decide +kernel
theorem dX10_cut_32 : decode cX10_cut 32 = .ok (.iload_n 1, 1) := by decide +kernel
theorem dX10_cut_33 : decode cX10_cut 33 = .ok (.ishr, 1) := by decide +kernel
theorem dX10_cut_34 : decode cX10_cut 34 = .ok (.iconst 1, 1) := by decide +kernel
theorem dX10_cut_35 : decode cX10_cut 35 = .ok (.iand, 1) := by decide +kernel
theorem dX10_cut_36 : decode cX10_cut 36 = .ok (.ifCond .ne 6, 3) := by decide +kernel
theorem dX10_cut_39 : decode cX10_cut 39 = .ok (.bipush (-103), 2) := by decide +kernel
theorem dX10_cut_41 : decode cX10_cut 41 = .ok (.ireturn, 1) := by decide +kernel
theorem dX10_cut_42 : decode cX10_cut 42 = .ok (.aload_n 0, 1) := by decide +kernel
theorem dX10_cut_43 : decode cX10_cut 43 = .ok (.getfield 26, 3) := by decide +kernel
theorem dX10_cut_46 : decode cX10_cut 46 = .ok (.getfield 161, 3) := by decide +kernel
theorem dX10_cut_49 : decode cX10_cut 49 = .ok (.sipush 999, 3) := by decide +kernel
theorem dX10_cut_52 : decode cX10_cut 52 = .ok (.if_icmp .lt 6, 3) := by decide +kernel
theorem dX10_cut_55 : decode cX10_cut 55 = .ok (.bipush (-104), 2) := by decide +kernel
theorem dX10_cut_57 : decode cX10_cut 57 = .ok (.ireturn, 1) := by decide +kernel
theorem dX10_cut_58 : decode cX10_cut 58 = .ok (.aload_n 0, 1) := by decide +kernel
theorem dX10_cut_59 : decode cX10_cut 59 = .ok (.getfield 26, 3) := by decide +kernel
theorem dX10_cut_62 : decode cX10_cut 62 = .ok (.getfield 135, 3) := by decide +kernel
theorem dX10_cut_65 : decode cX10_cut 65 = .ok (.invokestatic 164, 3) := by decide +kernel
theorem dX10_cut_68 : decode cX10_cut 68 = .ok (.istore_n 2, 1) := by decide +kernel
theorem dX10_cut_69 : decode cX10_cut 69 = .ok (.aload_n 0, 1) := by decide +kernel
theorem dX10_cut_70 : decode cX10_cut 70 = .ok (.getfield 26, 3) := by decide +kernel
theorem dX10_cut_73 : decode cX10_cut 73 = .ok (.aload_n 0, 1) := by decide +kernel
theorem dX10_cut_74 : decode cX10_cut 74 = .ok (.getfield 38, 3) := by decide +kernel
theorem dX10_cut_77 : decode cX10_cut 77 = .ok (.iload_n 1, 1) := by decide +kernel
theorem dX10_cut_78 : decode cX10_cut 78 = .ok (.aload_n 0, 1) := by decide +kernel
theorem dX10_cut_79 : decode cX10_cut 79 = .ok (.getfield 26, 3) := by decide +kernel
theorem dX10_cut_82 : decode cX10_cut 82 = .ok (.getfield 135, 3) := by decide +kernel
theorem dX10_cut_85 : decode cX10_cut 85 = .ok (.invokevirtual 169, 3) := by decide +kernel
theorem dX10_cut_88 : decode cX10_cut 88 = .ok (.putfield 135, 3) := by decide +kernel
theorem dX10_cut_91 : decode cX10_cut 91 = .ok (.aload_n 0, 1) := by decide +kernel
theorem dX10_cut_92 : decode cX10_cut 92 = .ok (.getfield 26, 3) := by decide +kernel
theorem dX10_cut_95 : decode cX10_cut 95 = .ok (.iconst 1, 1) := by decide +kernel
theorem dX10_cut_96 : decode cX10_cut 96 = .ok (.aload_n 0, 1) := by decide +kernel
theorem dX10_cut_97 : decode cX10_cut 97 = .ok (.getfield 26, 3) := by decide +kernel
theorem dX10_cut_100 : decode cX10_cut 100 = .ok (.getfield 158, 3) := by decide +kernel
theorem dX10_cut_103 : decode cX10_cut 103 = .ok (.isub, 1) := by decide +kernel
theorem dX10_cut_104 : decode cX10_cut 104 = .ok (.putfield 158, 3) := by decide +kernel
theorem dX10_cut_107 : decode cX10_cut 107 = .ok (.aload_n 0, 1) := by decide +kernel
theorem dX10_cut_108 : decode cX10_cut 108 = .ok (.getfield 26, 3) := by decide +kernel
theorem dX10_cut_111 : decode cX10_cut 111 = .ok (.dup, 1) := by decide +kernel
theorem dX10_cut_112 : decode cX10_cut 112 = .ok (.getfield 161, 3) := by decide +kernel
theorem dX10_cut_115 : decode cX10_cut 115 = .ok (.iconst 1, 1) := by decide +kernel
theorem dX10_cut_116 : decode cX10_cut 116 = .ok (.iadd, 1) := by decide +kernel
theorem dX10_cut_117 : decode cX10_cut 117 = .ok (.putfield 161, 3) := by decide +kernel
theorem dX10_cut_120 : decode cX10_cut 120 = .ok (.iload_n 2, 1) := by decide +kernel
theorem dX10_cut_121 : decode cX10_cut 121 = .ok (.aload_n 0, 1) := by decide +kernel
theorem dX10_cut_122 : decode cX10_cut 122 = .ok (.getfield 26, 3) := by decide +kernel
theorem dX10_cut_125 : decode cX10_cut 125 = .ok (.getfield 135, 3) := by decide +kernel
theorem dX10_cut_128 : decode cX10_cut 128 = .ok (.invokestatic 164, 3) := by decide +kernel
theorem dX10_cut_131 : decode cX10_cut 131 = .ok (.isub, 1) := by decide +kernel
theorem dX10_cut_132 : decode cX10_cut 132 = .ok (.ireturn, 1) := by decide +kernel
set_option maxRecDepth 20000 in
theorem ggX10_grow_X10_isUnknown : GoodIn wsX10_grow wsX10_isUnknown := goodIn_r _ [7, 2, 21, 22, 23, 24, 25, 26, 27, 28, 29, 30, 31, 32, 33, 34, 40, 41, 42, 43, 44] (by decide +kernel) (by decide +kernel)
set_option maxRecDepth 20000 in
theorem gX10_grow_X10_isUnknown : GoodIn wsX10_grow (wsV RX10 124 RX10 yX10_isUnknown wsX10_isUnknown) := goodIn_app (goodIn_of _ (by decide +kernel)) ggX10_grow_X10_isUnknown
set_option maxRecDepth 20000 in
theorem ggX10_grow_X8_hasFooting : GoodIn wsX10_grow wsX8_hasFooting := goodIn_r _ [12, 13, 40, 41, 42, 43, 44] (by decide +kernel) (by decide +kernel)
set_option maxRecDepth 20000 in
theorem gX10_grow_X8_hasFooting : GoodIn wsX10_grow (wsV RX10 172 RX8 yX8_hasFooting wsX8_hasFooting) := goodIn_app (goodIn_of _ (by decide +kernel)) ggX10_grow_X8_hasFooting
set_option maxRecDepth 20000 in
theorem ggX10_grow_J6_bitCount_0f7a4 : GoodIn wsX10_grow wsJ6_bitCount_0f7a4 := goodIn_r _ [17, 18, 19, 20] (by decide +kernel) (by decide +kernel)
set_option maxRecDepth 20000 in
theorem gX10_grow_J6_bitCount_0f7a4 : GoodIn wsX10_grow (va_wsS RX10 164 yJ6_bitCount_0f7a4 wsJ6_bitCount_0f7a4) := goodIn_app (goodIn_of _ (by decide +kernel)) ggX10_grow_J6_bitCount_0f7a4
theorem dX10_grow_0 : decode cX10_grow 0 = .ok (.aload_n 0, 1) := by decide +kernel
theorem dX10_grow_1 : decode cX10_grow 1 = .ok (.iload_n 1, 1) := by decide +kernel
theorem dX10_grow_2 : decode cX10_grow 2 = .ok (.invokevirtual 124, 3) := by decide +kernel
theorem dX10_grow_5 : decode cX10_grow 5 = .ok (.ifCond .eq 6, 3) := by decide +kernel
theorem dX10_grow_8 : decode cX10_grow 8 = .ok (.bipush (-101), 2) := by decide +kernel
theorem dX10_grow_10 : decode cX10_grow 10 = .ok (.ireturn, 1) := by decide +kernel
theorem dX10_grow_11 : decode cX10_grow 11 = .ok (.aload_n 0, 1) := by decide +kernel
theorem dX10_grow_12 : decode cX10_grow 12 = .ok (.getfield 26, 3) := by decide +kernel
theorem dX10_grow_15 : decode cX10_grow 15 = .ok (.getfield 135, 3) := by decide +kernel
theorem dX10_grow_18 : decode cX10_grow 18 = .ok (.iload_n 1, 1) := by decide +kernel
theorem dX10_grow_19 : decode cX10_grow 19 = .ok (.ishr, 1) := by decide +kernel
theorem dX10_grow_20 : decode cX10_grow 20 = .ok (.iconst 1, 1) := by decide +kernel
theorem dX10_grow_21 : decode cX10_grow 21 = .ok (.iand, 1) := by decide +kernel
theorem dX10_grow_22 : decode cX10_grow 22 = .ok (.ifCond .ne 21, 3) := by decide +kernel
theorem dX10_grow_25 : decode cX10_grow 25 = .ok (.aload_n 0, 1) := by decide +kernel
theorem dX10_grow_26 : decode cX10_grow 26 = .ok (.getfield 19, 3) := by decide +kernel
theorem dX10_grow_29 : decode cX10_grow 29 = .ok (.iload_n 1, 1) := by decide +kernel
theorem dX10_grow_30 : decode cX10_grow 30 = .ok (.aload_n 0, 1) := by decide +kernel
theorem dX10_grow_31 : decode cX10_grow 31 = .ok (.getfield 26, 3) := by decide +kernel
theorem dX10_grow_34 : decode cX10_grow 34 = .ok (.getfield 135, 3) := by decide +kernel
theorem dX10_grow_37 : decode cX10_grow 37 = .ok (.invokevirtual 172, 3) := by decide +kernel
theorem dX10_grow_40 : decode cX10_grow 40 = .ok (.ifCond .ne 6, 3) := by decide +kernel
theorem dX10_grow_43 : decode cX10_grow 43 = .ok (.bipush (-103), 2) := by decide +kernel
theorem dX10_grow_45 : decode cX10_grow 45 = .ok (.ireturn, 1) := by decide +kernel
theorem dX10_grow_46 : decode cX10_grow 46 = .ok (.aload_n 0, 1) := by decide +kernel
theorem dX10_grow_47 : decode cX10_grow 47 = .ok (.getfield 26, 3) := by decide +kernel
theorem dX10_grow_50 : decode cX10_grow 50 = .ok (.dup, 1) := by decide +kernel
theorem dX10_grow_51 : decode cX10_grow 51 = .ok (.getfield 135, 3) := by decide +kernel
theorem dX10_grow_54 : decode cX10_grow 54 = .ok (.iconst 1, 1) := by decide +kernel
theorem dX10_grow_55 : decode cX10_grow 55 = .ok (.iload_n 1, 1) := by decide +kernel
theorem dX10_grow_56 : decode cX10_grow 56 = .ok (.ishl, 1) := by decide +kernel
theorem dX10_grow_57 : decode cX10_grow 57 = .ok (.ior, 1) := by decide +kernel
theorem dX10_grow_58 : decode cX10_grow 58 = .ok (.putfield 135, 3) := by decide +kernel
theorem dX10_grow_61 : decode cX10_grow 61 = .ok (.aload_n 0, 1) := by decide +kernel
theorem dX10_grow_62 : decode cX10_grow 62 = .ok (.getfield 26, 3) := by decide +kernel
theorem dX10_grow_65 : decode cX10_grow 65 = .ok (.getfield 135, 3) := by decide +kernel
theorem dX10_grow_68 : decode cX10_grow 68 = .ok (.invokestatic 164, 3) := by decide +kernel
theorem dX10_grow_71 : decode cX10_grow 71 = .ok (.ireturn, 1) := by decide +kernel
set_option maxRecDepth 20000 in
theorem ggX10_pass_X10_hasNoHedge : GoodIn wsX10_pass wsX10_hasNoHedge := goodIn_r _ [6, 7, 8, 9, 10, 11, 12, 13, 14, 15, 16, 17, 18, 19, 20, 21, 27, 28, 29, 30, 31] (by decide +kernel) (by decide +kernel)
set_option maxRecDepth 20000 in
theorem gX10_pass_X10_hasNoHedge : GoodIn wsX10_pass (wsV RX10 176 RX10 yX10_hasNoHedge wsX10_hasNoHedge) := goodIn_app (goodIn_of _ (by decide +kernel)) ggX10_pass_X10_hasNoHedge
theorem dX10_pass_0 : decode cX10_pass 0 = .ok (.aload_n 0, 1) := by decide +kernel
theorem dX10_pass_1 : decode cX10_pass 1 = .ok (.invokevirtual 176, 3) := by decide +kernel
theorem dX10_pass_4 : decode cX10_pass 4 = .ok (.ifCond .eq 6, 3) := by decide +kernel
theorem dX10_pass_7 : decode cX10_pass 7 = .ok (.bipush (-103), 2) := by decide +kernel
theorem dX10_pass_9 : decode cX10_pass 9 = .ok (.ireturn, 1) := by decide +kernel
theorem dX10_pass_10 : decode cX10_pass 10 = .ok (.aload_n 0, 1) := by decide +kernel
theorem dX10_pass_11 : decode cX10_pass 11 = .ok (.getfield 26, 3) := by decide +kernel
theorem dX10_pass_14 : decode cX10_pass 14 = .ok (.getfield 158, 3) := by decide +kernel
theorem dX10_pass_17 : decode cX10_pass 17 = .ok (.istore_n 1, 1) := by decide +kernel
theorem dX10_pass_18 : decode cX10_pass 18 = .ok (.aload_n 0, 1) := by decide +kernel
theorem dX10_pass_19 : decode cX10_pass 19 = .ok (.getfield 26, 3) := by decide +kernel
theorem dX10_pass_22 : decode cX10_pass 22 = .ok (.iconst 1, 1) := by decide +kernel
theorem dX10_pass_23 : decode cX10_pass 23 = .ok (.iload_n 1, 1) := by decide +kernel
theorem dX10_pass_24 : decode cX10_pass 24 = .ok (.isub, 1) := by decide +kernel
theorem dX10_pass_25 : decode cX10_pass 25 = .ok (.putfield 158, 3) := by decide +kernel
theorem dX10_pass_28 : decode cX10_pass 28 = .ok (.iload_n 1, 1) := by decide +kernel
theorem dX10_pass_29 : decode cX10_pass 29 = .ok (.ireturn, 1) := by decide +kernel
set_option maxRecDepth 20000 in
theorem ggX10_graft_X10_isUnknown : GoodIn wsX10_graft wsX10_isUnknown := goodIn_r _ [7, 8, 9, 10, 11, 12, 13, 14, 15, 16, 17, 18, 19, 20, 21, 22, 28, 29, 30, 31, 32] (by decide +kernel) (by decide +kernel)
set_option maxRecDepth 20000 in
theorem gX10_graft_X10_isUnknown : GoodIn wsX10_graft (wsV RX10 124 RX10 yX10_isUnknown wsX10_isUnknown) := goodIn_app (goodIn_of _ (by decide +kernel)) ggX10_graft_X10_isUnknown
theorem dX10_graft_0 : decode cX10_graft 0 = .ok (.aload_n 0, 1) := by decide +kernel
theorem dX10_graft_1 : decode cX10_graft 1 = .ok (.iload_n 1, 1) := by decide +kernel
theorem dX10_graft_2 : decode cX10_graft 2 = .ok (.invokevirtual 124, 3) := by decide +kernel
theorem dX10_graft_5 : decode cX10_graft 5 = .ok (.ifCond .eq 6, 3) := by decide +kernel
theorem dX10_graft_8 : decode cX10_graft 8 = .ok (.bipush (-101), 2) := by decide +kernel
theorem dX10_graft_10 : decode cX10_graft 10 = .ok (.ireturn, 1) := by decide +kernel
theorem dX10_graft_11 : decode cX10_graft 11 = .ok (.iload_n 2, 1) := by decide +kernel
theorem dX10_graft_12 : decode cX10_graft 12 = .ok (.ifCond .lt 8, 3) := by decide +kernel
theorem dX10_graft_15 : decode cX10_graft 15 = .ok (.iload_n 2, 1) := by decide +kernel
theorem dX10_graft_16 : decode cX10_graft 16 = .ok (.iconst 5, 1) := by decide +kernel
theorem dX10_graft_17 : decode cX10_graft 17 = .ok (.if_icmp .lt 6, 3) := by decide +kernel
theorem dX10_graft_20 : decode cX10_graft 20 = .ok (.bipush (-102), 2) := by decide +kernel
theorem dX10_graft_22 : decode cX10_graft 22 = .ok (.ireturn, 1) := by decide +kernel
theorem dX10_graft_23 : decode cX10_graft 23 = .ok (.aload_n 0, 1) := by decide +kernel
theorem dX10_graft_24 : decode cX10_graft 24 = .ok (.getfield 26, 3) := by decide +kernel
theorem dX10_graft_27 : decode cX10_graft 27 = .ok (.getfield 128, 3) := by decide +kernel
theorem dX10_graft_30 : decode cX10_graft 30 = .ok (.iload_n 1, 1) := by decide +kernel
theorem dX10_graft_31 : decode cX10_graft 31 = .ok (.iaload, 1) := by decide +kernel
theorem dX10_graft_32 : decode cX10_graft 32 = .ok (.istore_n 3, 1) := by decide +kernel
theorem dX10_graft_33 : decode cX10_graft 33 = .ok (.aload_n 0, 1) := by decide +kernel
theorem dX10_graft_34 : decode cX10_graft 34 = .ok (.getfield 26, 3) := by decide +kernel
theorem dX10_graft_37 : decode cX10_graft 37 = .ok (.getfield 128, 3) := by decide +kernel
theorem dX10_graft_40 : decode cX10_graft 40 = .ok (.iload_n 1, 1) := by decide +kernel
theorem dX10_graft_41 : decode cX10_graft 41 = .ok (.iload_n 2, 1) := by decide +kernel
theorem dX10_graft_42 : decode cX10_graft 42 = .ok (.iastore, 1) := by decide +kernel
theorem dX10_graft_43 : decode cX10_graft 43 = .ok (.aload_n 0, 1) := by decide +kernel
theorem dX10_graft_44 : decode cX10_graft 44 = .ok (.iconst 0, 1) := by decide +kernel
theorem dX10_graft_45 : decode cX10_graft 45 = .ok (.putfield 81, 3) := by decide +kernel
theorem dX10_graft_48 : decode cX10_graft 48 = .ok (.iload_n 3, 1) := by decide +kernel
theorem dX10_graft_49 : decode cX10_graft 49 = .ok (.ireturn, 1) := by decide +kernel
set_option maxRecDepth 20000 in
theorem ggX10_wins_X10_isNoSide : GoodIn wsX10_wins wsX10_isNoSide := goodIn_r _ [6] (by decide +kernel) (by decide +kernel)
set_option maxRecDepth 20000 in
theorem gX10_wins_X10_isNoSide : GoodIn wsX10_wins (va_wsS RX10 179 yX10_isNoSide wsX10_isNoSide) := goodIn_app (goodIn_of _ (by decide +kernel)) ggX10_wins_X10_isNoSide
set_option maxRecDepth 20000 in
theorem ggX10_wins_X10_hasNoHedge : GoodIn wsX10_wins wsX10_hasNoHedge := goodIn_r _ [10, 11, 110, 111, 112, 113, 114, 115, 116, 117, 118, 119, 120, 121, 122, 123, 129, 130, 131, 132, 133] (by decide +kernel) (by decide +kernel)
set_option maxRecDepth 20000 in
theorem gX10_wins_X10_hasNoHedge : GoodIn wsX10_wins (wsV RX10 176 RX10 yX10_hasNoHedge wsX10_hasNoHedge) := goodIn_app (goodIn_of _ (by decide +kernel)) ggX10_wins_X10_hasNoHedge
set_option maxRecDepth 20000 in
theorem ggX10_wins_X10_chart : GoodIn wsX10_wins wsX10_chart := goodIn_r _ [15, 16, 11, 17, 1, 18, 19, 20, 21, 22, 23, 24, 25, 26, 27, 28, 29, 30, 31, 32, 33, 34, 35, 36, 37, 38, 39, 40, 41, 42, 43, 44, 5, 45, 46, 47, 48, 49, 50, 51, 52, 53, 54, 55, 56, 57, 58, 59, 60, 61, 62, 63, 64, 65, 66, 67, 68, 69, 70, 71, 72, 73, 74, 75, 76, 77, 78, 79, 80, 81, 82, 83, 84, 85, 86, 87, 88, 89, 90, 91, 92, 93, 94, 95, 96, 97, 98, 99, 100, 101, 102, 103, 104, 105, 106, 107, 108, 110, 111, 112, 113, 114, 115, 116, 117, 118, 119, 120, 121, 122, 123, 129, 130, 131, 132, 133, 134, 135, 124, 125, 126, 127, 128, 136, 137, 138, 139, 140, 141, 142, 143, 144] (by decide +kernel) (by decide +kernel)
set_option maxRecDepth 20000 in
theorem gX10_wins_X10_chart : GoodIn wsX10_wins (wsV RX10 145 RX10 yX10_chart wsX10_chart) := goodIn_app (goodIn_of _ (by decide +kernel)) ggX10_wins_X10_chart
set_option maxRecDepth 20000 in
theorem ggX10_wins_X4_isWonBy : GoodIn wsX10_wins wsX4_isWonBy := goodIn_r _ [71, 38, 72, 44, 5, 45, 136, 137] (by decide +kernel) (by decide +kernel)
set_option maxRecDepth 20000 in
theorem gX10_wins_X4_isWonBy : GoodIn wsX10_wins (wsV RX10 182 RX4 yX4_isWonBy wsX4_isWonBy) := goodIn_app (goodIn_of _ (by decide +kernel)) ggX10_wins_X4_isWonBy
theorem dX10_wins_0 : decode cX10_wins 0 = .ok (.iload_n 1, 1) := by decide +kernel
theorem dX10_wins_1 : decode cX10_wins 1 = .ok (.invokestatic 179, 3) := by decide +kernel
theorem dX10_wins_4 : decode cX10_wins 4 = .ok (.ifCond .eq 6, 3) := by decide +kernel
theorem dX10_wins_7 : decode cX10_wins 7 = .ok (.bipush (-102), 2) := by decide +kernel
theorem dX10_wins_9 : decode cX10_wins 9 = .ok (.ireturn, 1) := by decide +kernel
theorem dX10_wins_10 : decode cX10_wins 10 = .ok (.aload_n 0, 1) := by decide +kernel
theorem dX10_wins_11 : decode cX10_wins 11 = .ok (.invokevirtual 176, 3) := by decide +kernel
theorem dX10_wins_14 : decode cX10_wins 14 = .ok (.ifCond .eq 6, 3) := by decide +kernel
theorem dX10_wins_17 : decode cX10_wins 17 = .ok (.bipush (-103), 2) := by decide +kernel
theorem dX10_wins_19 : decode cX10_wins 19 = .ok (.ireturn, 1) := by decide +kernel
theorem dX10_wins_20 : decode cX10_wins 20 = .ok (.aload_n 0, 1) := by decide +kernel
theorem dX10_wins_21 : decode cX10_wins 21 = .ok (.invokevirtual 145, 3) := by decide +kernel
theorem dX10_wins_24 : decode cX10_wins 24 = .ok (.aload_n 0, 1) := by decide +kernel
theorem dX10_wins_25 : decode cX10_wins 25 = .ok (.getfield 47, 3) := by decide +kernel
theorem dX10_wins_28 : decode cX10_wins 28 = .ok (.iload_n 1, 1) := by decide +kernel
theorem dX10_wins_29 : decode cX10_wins 29 = .ok (.aload_n 0, 1) := by decide +kernel
theorem dX10_wins_30 : decode cX10_wins 30 = .ok (.getfield 26, 3) := by decide +kernel
theorem dX10_wins_33 : decode cX10_wins 33 = .ok (.getfield 135, 3) := by decide +kernel
theorem dX10_wins_36 : decode cX10_wins 36 = .ok (.invokevirtual 182, 3) := by decide +kernel
theorem dX10_wins_39 : decode cX10_wins 39 = .ok (.ifCond .eq 7, 3) := by decide +kernel
theorem dX10_wins_42 : decode cX10_wins 42 = .ok (.iload_n 1, 1) := by decide +kernel
theorem dX10_wins_43 : decode cX10_wins 43 = .ok (.goto 6, 3) := by decide +kernel
theorem dX10_wins_46 : decode cX10_wins 46 = .ok (.iconst 1, 1) := by decide +kernel
theorem dX10_wins_47 : decode cX10_wins 47 = .ok (.iload_n 1, 1) := by decide +kernel
theorem dX10_wins_48 : decode cX10_wins 48 = .ok (.isub, 1) := by decide +kernel
theorem dX10_wins_49 : decode cX10_wins 49 = .ok (.ireturn, 1) := by decide +kernel
set_option maxRecDepth 20000 in
theorem ggX10_best_X10_isNoSide : GoodIn wsX10_best wsX10_isNoSide := goodIn_r _ [6] (by decide +kernel) (by decide +kernel)
set_option maxRecDepth 20000 in
theorem gX10_best_X10_isNoSide : GoodIn wsX10_best (va_wsS RX10 179 yX10_isNoSide wsX10_isNoSide) := goodIn_app (goodIn_of _ (by decide +kernel)) ggX10_best_X10_isNoSide
set_option maxRecDepth 20000 in
theorem ggX10_best_X10_hasNoHedge : GoodIn wsX10_best wsX10_hasNoHedge := goodIn_r _ [10, 11, 114, 115, 116, 117, 118, 119, 120, 121, 122, 123, 124, 125, 126, 127, 133, 134, 135, 136, 137] (by decide +kernel) (by decide +kernel)
set_option maxRecDepth 20000 in
theorem gX10_best_X10_hasNoHedge : GoodIn wsX10_best (wsV RX10 176 RX10 yX10_hasNoHedge wsX10_hasNoHedge) := goodIn_app (goodIn_of _ (by decide +kernel)) ggX10_best_X10_hasNoHedge
set_option maxRecDepth 20000 in
theorem ggX10_best_X10_chart : GoodIn wsX10_best wsX10_chart := goodIn_r _ [15, 16, 11, 17, 18, 1, 19, 20, 21, 22, 23, 24, 25, 26, 27, 28, 29, 30, 31, 32, 33, 34, 35, 36, 37, 38, 39, 40, 41, 42, 43, 44, 5, 45, 46, 47, 48, 49, 50, 51, 52, 53, 54, 55, 56, 57, 58, 59, 60, 61, 62, 63, 64, 65, 66, 67, 68, 69, 70, 71, 72, 73, 74, 75, 76, 77, 78, 79, 80, 81, 82, 83, 84, 85, 86, 87, 88, 89, 90, 91, 92, 93, 94, 95, 96, 97, 98, 99, 100, 101, 102, 103, 104, 105, 106, 107, 108, 114, 115, 116, 117, 118, 119, 120, 121, 122, 123, 124, 125, 126, 127, 133, 134, 135, 136, 137, 138, 139, 128, 129, 130, 131, 132, 140, 141, 142, 143, 144, 145, 146, 147, 148] (by decide +kernel) (by decide +kernel)
set_option maxRecDepth 20000 in
theorem gX10_best_X10_chart : GoodIn wsX10_best (wsV RX10 145 RX10 yX10_chart wsX10_chart) := goodIn_app (goodIn_of _ (by decide +kernel)) ggX10_best_X10_chart
set_option maxRecDepth 20000 in
theorem ggX10_best_X1_bestCut : GoodIn wsX10_best wsX1_bestCut := goodIn_r _ [112, 58, 59, 60, 68, 69, 70, 35, 71, 38, 72, 44, 5, 45, 113, 22, 23, 24, 25, 26, 27, 28, 29, 30, 31, 73, 41, 42, 43, 142, 143, 144, 138, 139, 133, 134, 135, 136, 137, 140, 141, 128, 129, 130, 131, 132] (by decide +kernel) (by decide +kernel)
set_option maxRecDepth 20000 in
theorem gX10_best_X1_bestCut : GoodIn wsX10_best (wsV RX10 185 RX1 yX1_bestCut wsX1_bestCut) := goodIn_app (goodIn_of _ (by decide +kernel)) ggX10_best_X1_bestCut
theorem dX10_best_0 : decode cX10_best 0 = .ok (.iload_n 1, 1) := by decide +kernel
theorem dX10_best_1 : decode cX10_best 1 = .ok (.invokestatic 179, 3) := by decide +kernel
theorem dX10_best_4 : decode cX10_best 4 = .ok (.ifCond .eq 6, 3) := by decide +kernel
theorem dX10_best_7 : decode cX10_best 7 = .ok (.bipush (-102), 2) := by decide +kernel
theorem dX10_best_9 : decode cX10_best 9 = .ok (.ireturn, 1) := by decide +kernel
theorem dX10_best_10 : decode cX10_best 10 = .ok (.aload_n 0, 1) := by decide +kernel
theorem dX10_best_11 : decode cX10_best 11 = .ok (.invokevirtual 176, 3) := by decide +kernel
theorem dX10_best_14 : decode cX10_best 14 = .ok (.ifCond .eq 6, 3) := by decide +kernel
theorem dX10_best_17 : decode cX10_best 17 = .ok (.bipush (-103), 2) := by decide +kernel
theorem dX10_best_19 : decode cX10_best 19 = .ok (.ireturn, 1) := by decide +kernel
theorem dX10_best_20 : decode cX10_best 20 = .ok (.aload_n 0, 1) := by decide +kernel
theorem dX10_best_21 : decode cX10_best 21 = .ok (.invokevirtual 145, 3) := by decide +kernel
theorem dX10_best_24 : decode cX10_best 24 = .ok (.aload_n 0, 1) := by decide +kernel
theorem dX10_best_25 : decode cX10_best 25 = .ok (.getfield 56, 3) := by decide +kernel
theorem dX10_best_28 : decode cX10_best 28 = .ok (.iload_n 1, 1) := by decide +kernel
theorem dX10_best_29 : decode cX10_best 29 = .ok (.aload_n 0, 1) := by decide +kernel
theorem dX10_best_30 : decode cX10_best 30 = .ok (.getfield 26, 3) := by decide +kernel
theorem dX10_best_33 : decode cX10_best 33 = .ok (.getfield 135, 3) := by decide +kernel
theorem dX10_best_36 : decode cX10_best 36 = .ok (.invokevirtual 185, 3) := by decide +kernel
theorem dX10_best_39 : decode cX10_best 39 = .ok (.ireturn, 1) := by decide +kernel
set_option maxRecDepth 20000 in
theorem ggX10_lasts_X10_isNoSide : GoodIn wsX10_lasts wsX10_isNoSide := goodIn_r _ [6] (by decide +kernel) (by decide +kernel)
set_option maxRecDepth 20000 in
theorem gX10_lasts_X10_isNoSide : GoodIn wsX10_lasts (va_wsS RX10 179 yX10_isNoSide wsX10_isNoSide) := goodIn_app (goodIn_of _ (by decide +kernel)) ggX10_lasts_X10_isNoSide
set_option maxRecDepth 20000 in
theorem ggX10_lasts_X10_hasNoHedge : GoodIn wsX10_lasts wsX10_hasNoHedge := goodIn_r _ [10, 11, 113, 114, 115, 116, 117, 118, 119, 120, 121, 122, 123, 124, 125, 126, 132, 133, 134, 135, 136] (by decide +kernel) (by decide +kernel)
set_option maxRecDepth 20000 in
theorem gX10_lasts_X10_hasNoHedge : GoodIn wsX10_lasts (wsV RX10 176 RX10 yX10_hasNoHedge wsX10_hasNoHedge) := goodIn_app (goodIn_of _ (by decide +kernel)) ggX10_lasts_X10_hasNoHedge
set_option maxRecDepth 20000 in
theorem ggX10_lasts_X10_chart : GoodIn wsX10_lasts wsX10_chart := goodIn_r _ [15, 16, 11, 17, 18, 1, 19, 20, 21, 22, 23, 24, 25, 26, 27, 28, 29, 30, 31, 32, 33, 34, 35, 36, 37, 38, 39, 40, 41, 42, 43, 44, 5, 45, 46, 47, 48, 49, 50, 51, 52, 53, 54, 55, 56, 57, 58, 59, 60, 61, 62, 63, 64, 65, 66, 67, 68, 69, 70, 71, 72, 73, 74, 75, 76, 77, 78, 79, 80, 81, 82, 83, 84, 85, 86, 87, 88, 89, 90, 91, 92, 93, 94, 95, 96, 97, 98, 99, 100, 101, 102, 103, 104, 105, 106, 107, 108, 113, 114, 115, 116, 117, 118, 119, 120, 121, 122, 123, 124, 125, 126, 132, 133, 134, 135, 136, 137, 138, 127, 128, 129, 130, 131, 139, 140, 141, 142, 143, 144, 145, 146, 147] (by decide +kernel) (by decide +kernel)
set_option maxRecDepth 20000 in
theorem gX10_lasts_X10_chart : GoodIn wsX10_lasts (wsV RX10 145 RX10 yX10_chart wsX10_chart) := goodIn_app (goodIn_of _ (by decide +kernel)) ggX10_lasts_X10_chart
set_option maxRecDepth 20000 in
theorem ggX10_lasts_X1_cutsFrom : GoodIn wsX10_lasts wsX1_cutsFrom := goodIn_r _ [112, 60, 44, 5, 45, 141, 142, 143] (by decide +kernel) (by decide +kernel)
set_option maxRecDepth 20000 in
theorem gX10_lasts_X1_cutsFrom : GoodIn wsX10_lasts (wsV RX10 188 RX1 yX1_cutsFrom wsX1_cutsFrom) := goodIn_app (goodIn_of _ (by decide +kernel)) ggX10_lasts_X1_cutsFrom
theorem dX10_lasts_0 : decode cX10_lasts 0 = .ok (.iload_n 1, 1) := by decide +kernel
theorem dX10_lasts_1 : decode cX10_lasts 1 = .ok (.invokestatic 179, 3) := by decide +kernel
theorem dX10_lasts_4 : decode cX10_lasts 4 = .ok (.ifCond .eq 6, 3) := by decide +kernel
theorem dX10_lasts_7 : decode cX10_lasts 7 = .ok (.bipush (-102), 2) := by decide +kernel
theorem dX10_lasts_9 : decode cX10_lasts 9 = .ok (.ireturn, 1) := by decide +kernel
theorem dX10_lasts_10 : decode cX10_lasts 10 = .ok (.aload_n 0, 1) := by decide +kernel
theorem dX10_lasts_11 : decode cX10_lasts 11 = .ok (.invokevirtual 176, 3) := by decide +kernel
theorem dX10_lasts_14 : decode cX10_lasts 14 = .ok (.ifCond .eq 6, 3) := by decide +kernel
theorem dX10_lasts_17 : decode cX10_lasts 17 = .ok (.bipush (-103), 2) := by decide +kernel
theorem dX10_lasts_19 : decode cX10_lasts 19 = .ok (.ireturn, 1) := by decide +kernel
theorem dX10_lasts_20 : decode cX10_lasts 20 = .ok (.aload_n 0, 1) := by decide +kernel
theorem dX10_lasts_21 : decode cX10_lasts 21 = .ok (.invokevirtual 145, 3) := by decide +kernel
theorem dX10_lasts_24 : decode cX10_lasts 24 = .ok (.aload_n 0, 1) := by decide +kernel
theorem dX10_lasts_25 : decode cX10_lasts 25 = .ok (.getfield 56, 3) := by decide +kernel
theorem dX10_lasts_28 : decode cX10_lasts 28 = .ok (.iload_n 1, 1) := by decide +kernel
theorem dX10_lasts_29 : decode cX10_lasts 29 = .ok (.aload_n 0, 1) := by decide +kernel
theorem dX10_lasts_30 : decode cX10_lasts 30 = .ok (.getfield 26, 3) := by decide +kernel
theorem dX10_lasts_33 : decode cX10_lasts 33 = .ok (.getfield 135, 3) := by decide +kernel
theorem dX10_lasts_36 : decode cX10_lasts 36 = .ok (.invokevirtual 188, 3) := by decide +kernel
theorem dX10_lasts_39 : decode cX10_lasts 39 = .ok (.ireturn, 1) := by decide +kernel
set_option maxRecDepth 20000 in
theorem ggX10_worth_X10_hasNoHedge : GoodIn wsX10_worth wsX10_hasNoHedge := goodIn_r _ [7, 8, 110, 111, 112, 113, 114, 115, 116, 117, 118, 119, 120, 121, 122, 123, 129, 130, 131, 132, 133] (by decide +kernel) (by decide +kernel)
set_option maxRecDepth 20000 in
theorem gX10_worth_X10_hasNoHedge : GoodIn wsX10_worth (wsV RX10 176 RX10 yX10_hasNoHedge wsX10_hasNoHedge) := goodIn_app (goodIn_of _ (by decide +kernel)) ggX10_worth_X10_hasNoHedge
set_option maxRecDepth 20000 in
theorem ggX10_worth_X10_chart : GoodIn wsX10_worth wsX10_chart := goodIn_r _ [12, 13, 8, 14, 15, 16, 1, 17, 18, 19, 20, 21, 22, 23, 24, 25, 26, 27, 28, 29, 30, 31, 32, 33, 34, 35, 36, 37, 38, 39, 40, 41, 6, 42, 43, 44, 45, 46, 47, 48, 49, 50, 51, 52, 53, 54, 55, 56, 57, 58, 59, 60, 61, 62, 63, 64, 65, 66, 67, 68, 69, 70, 71, 72, 73, 74, 75, 76, 77, 78, 79, 80, 81, 82, 83, 84, 85, 86, 87, 88, 89, 90, 91, 92, 93, 94, 95, 96, 97, 98, 99, 100, 101, 102, 103, 104, 105, 110, 111, 112, 113, 114, 115, 116, 117, 118, 119, 120, 121, 122, 123, 129, 130, 131, 132, 133, 134, 135, 124, 125, 126, 127, 128, 136, 137, 138, 139, 140, 141, 142, 143, 144] (by decide +kernel) (by decide +kernel)
set_option maxRecDepth 20000 in
theorem gX10_worth_X10_chart : GoodIn wsX10_worth (wsV RX10 145 RX10 yX10_chart wsX10_chart) := goodIn_app (goodIn_of _ (by decide +kernel)) ggX10_worth_X10_chart
set_option maxRecDepth 20000 in
theorem ggX10_worth_X9_valueOf : GoodIn wsX10_worth wsX9_valueOf := goodIn_r _ [109, 76, 141, 142] (by decide +kernel) (by decide +kernel)
set_option maxRecDepth 20000 in
theorem gX10_worth_X9_valueOf : GoodIn wsX10_worth (wsV RX10 191 RX9 yX9_valueOf wsX9_valueOf) := goodIn_app (goodIn_of _ (by decide +kernel)) ggX10_worth_X9_valueOf
theorem dX10_worth_0 : decode cX10_worth 0 = .ok (.aload_n 0, 1) := by decide +kernel
theorem dX10_worth_1 : decode cX10_worth 1 = .ok (.invokevirtual 176, 3) := by decide +kernel
theorem dX10_worth_4 : decode cX10_worth 4 = .ok (.ifCond .eq 6, 3) := by decide +kernel
theorem dX10_worth_7 : decode cX10_worth 7 = .ok (.bipush (-103), 2) := by decide +kernel
theorem dX10_worth_9 : decode cX10_worth 9 = .ok (.ireturn, 1) := by decide +kernel
theorem dX10_worth_10 : decode cX10_worth 10 = .ok (.aload_n 0, 1) := by decide +kernel
theorem dX10_worth_11 : decode cX10_worth 11 = .ok (.invokevirtual 145, 3) := by decide +kernel
theorem dX10_worth_14 : decode cX10_worth 14 = .ok (.aload_n 0, 1) := by decide +kernel
theorem dX10_worth_15 : decode cX10_worth 15 = .ok (.getfield 63, 3) := by decide +kernel
theorem dX10_worth_18 : decode cX10_worth 18 = .ok (.aload_n 0, 1) := by decide +kernel
theorem dX10_worth_19 : decode cX10_worth 19 = .ok (.getfield 26, 3) := by decide +kernel
theorem dX10_worth_22 : decode cX10_worth 22 = .ok (.getfield 135, 3) := by decide +kernel
theorem dX10_worth_25 : decode cX10_worth 25 = .ok (.invokevirtual 191, 3) := by decide +kernel
theorem dX10_worth_28 : decode cX10_worth 28 = .ok (.ireturn, 1) := by decide +kernel
set_option maxRecDepth 20000 in
theorem ggX10_tree_X10_isUnknown : GoodIn wsX10_tree wsX10_isUnknown := goodIn_r _ [8, 1, 116, 117, 118, 119, 120, 121, 122, 123, 124, 125, 126, 127, 128, 129, 130, 131, 132, 133, 134] (by decide +kernel) (by decide +kernel)
set_option maxRecDepth 20000 in
theorem gX10_tree_X10_isUnknown : GoodIn wsX10_tree (wsV RX10 124 RX10 yX10_isUnknown wsX10_isUnknown) := goodIn_app (goodIn_of _ (by decide +kernel)) ggX10_tree_X10_isUnknown
set_option maxRecDepth 20000 in
theorem ggX10_tree_X10_chart : GoodIn wsX10_tree wsX10_chart := goodIn_r _ [12, 13, 1, 14, 15, 16, 2, 17, 18, 19, 20, 21, 22, 23, 24, 25, 26, 27, 28, 29, 30, 31, 32, 33, 34, 35, 36, 37, 38, 39, 40, 41, 7, 42, 43, 44, 45, 46, 47, 48, 49, 50, 51, 52, 53, 54, 55, 56, 57, 58, 59, 60, 61, 62, 63, 64, 65, 66, 67, 68, 69, 70, 71, 72, 73, 74, 75, 76, 77, 78, 79, 80, 81, 82, 83, 84, 85, 86, 87, 88, 89, 90, 91, 92, 93, 94, 95, 96, 97, 98, 99, 100, 101, 102, 103, 104, 105, 116, 117, 118, 119, 120, 121, 122, 123, 124, 125, 126, 127, 128, 129, 130, 131, 132, 133, 134, 140, 141, 135, 136, 137, 138, 139, 142, 143, 144, 145, 146, 147, 148, 149, 150] (by decide +kernel) (by decide +kernel)
set_option maxRecDepth 20000 in
theorem gX10_tree_X10_chart : GoodIn wsX10_tree (wsV RX10 145 RX10 yX10_chart wsX10_chart) := goodIn_app (goodIn_of _ (by decide +kernel)) ggX10_tree_X10_chart
set_option maxRecDepth 20000 in
theorem ggX10_tree_X8_withAllOn : GoodIn wsX10_tree wsX8_withAllOn := goodIn_r _ [110, 111, 130, 131, 132, 133, 134] (by decide +kernel) (by decide +kernel)
set_option maxRecDepth 20000 in
theorem gX10_tree_X8_withAllOn : GoodIn wsX10_tree (wsV RX10 194 RX8 yX8_withAllOn wsX8_withAllOn) := goodIn_app (goodIn_of _ (by decide +kernel)) ggX10_tree_X8_withAllOn
set_option maxRecDepth 20000 in
theorem ggX10_tree_X9_valueOf : GoodIn wsX10_tree wsX9_valueOf := goodIn_r _ [115, 76, 147, 148] (by decide +kernel) (by decide +kernel)
set_option maxRecDepth 20000 in
theorem gX10_tree_X9_valueOf : GoodIn wsX10_tree (wsV RX10 191 RX9 yX9_valueOf wsX9_valueOf) := goodIn_app (goodIn_of _ (by decide +kernel)) ggX10_tree_X9_valueOf
theorem dX10_tree_0 : decode cX10_tree 0 = .ok (.aload_n 0, 1) := by decide +kernel
theorem dX10_tree_1 : decode cX10_tree 1 = .ok (.iload_n 1, 1) := by decide +kernel
theorem dX10_tree_2 : decode cX10_tree 2 = .ok (.invokevirtual 124, 3) := by decide +kernel
theorem dX10_tree_5 : decode cX10_tree 5 = .ok (.ifCond .eq 6, 3) := by decide +kernel
theorem dX10_tree_8 : decode cX10_tree 8 = .ok (.bipush (-101), 2) := by decide +kernel
theorem dX10_tree_10 : decode cX10_tree 10 = .ok (.ireturn, 1) := by decide +kernel
theorem dX10_tree_11 : decode cX10_tree 11 = .ok (.aload_n 0, 1) := by decide +kernel
theorem dX10_tree_12 : decode cX10_tree 12 = .ok (.getfield 19, 3) := by decide +kernel
theorem dX10_tree_15 : decode cX10_tree 15 = .ok (.getfield 132, 3) := by decide +kernel
theorem dX10_tree_18 : decode cX10_tree 18 = .ok (.iload_n 1, 1) := by decide +kernel
theorem dX10_tree_19 : decode cX10_tree 19 = .ok (.iaload, 1) := by decide +kernel
theorem dX10_tree_20 : decode cX10_tree 20 = .ok (.iconst (-1), 1) := by decide +kernel
theorem dX10_tree_21 : decode cX10_tree 21 = .ok (.if_icmp .eq 6, 3) := by decide +kernel
theorem dX10_tree_24 : decode cX10_tree 24 = .ok (.bipush (-103), 2) := by decide +kernel
theorem dX10_tree_26 : decode cX10_tree 26 = .ok (.ireturn, 1) := by decide +kernel
theorem dX10_tree_27 : decode cX10_tree 27 = .ok (.aload_n 0, 1) := by decide +kernel
theorem dX10_tree_28 : decode cX10_tree 28 = .ok (.invokevirtual 145, 3) := by decide +kernel
theorem dX10_tree_31 : decode cX10_tree 31 = .ok (.aload_n 0, 1) := by decide +kernel
theorem dX10_tree_32 : decode cX10_tree 32 = .ok (.getfield 63, 3) := by decide +kernel
theorem dX10_tree_35 : decode cX10_tree 35 = .ok (.aload_n 0, 1) := by decide +kernel
theorem dX10_tree_36 : decode cX10_tree 36 = .ok (.getfield 26, 3) := by decide +kernel
theorem dX10_tree_39 : decode cX10_tree 39 = .ok (.getfield 135, 3) := by decide +kernel
theorem dX10_tree_42 : decode cX10_tree 42 = .ok (.aload_n 0, 1) := by decide +kernel
theorem dX10_tree_43 : decode cX10_tree 43 = .ok (.getfield 19, 3) := by decide +kernel
theorem dX10_tree_46 : decode cX10_tree 46 = .ok (.iload_n 1, 1) := by decide +kernel
theorem dX10_tree_47 : decode cX10_tree 47 = .ok (.invokevirtual 194, 3) := by decide +kernel
theorem dX10_tree_50 : decode cX10_tree 50 = .ok (.iand, 1) := by decide +kernel
theorem dX10_tree_51 : decode cX10_tree 51 = .ok (.invokevirtual 191, 3) := by decide +kernel
theorem dX10_tree_54 : decode cX10_tree 54 = .ok (.ireturn, 1) := by decide +kernel
set_option maxRecDepth 20000 in
theorem ggX10_even_X10_hasNoHedge : GoodIn wsX10_even wsX10_hasNoHedge := goodIn_r _ [6, 7, 116, 117, 118, 119, 120, 121, 122, 123, 124, 125, 126, 127, 128, 129, 130, 131, 132, 133, 134] (by decide +kernel) (by decide +kernel)
set_option maxRecDepth 20000 in
theorem gX10_even_X10_hasNoHedge : GoodIn wsX10_even (wsV RX10 176 RX10 yX10_hasNoHedge wsX10_hasNoHedge) := goodIn_app (goodIn_of _ (by decide +kernel)) ggX10_even_X10_hasNoHedge
set_option maxRecDepth 20000 in
theorem ggX10_even_X10_chart : GoodIn wsX10_even wsX10_chart := goodIn_r _ [11, 12, 7, 13, 14, 15, 16, 17, 18, 19, 20, 21, 22, 23, 24, 25, 26, 27, 28, 29, 30, 31, 32, 33, 34, 35, 36, 37, 38, 39, 40, 41, 5, 42, 43, 44, 45, 46, 47, 48, 49, 50, 51, 52, 53, 54, 55, 56, 57, 58, 59, 60, 61, 62, 63, 64, 65, 66, 67, 68, 69, 70, 71, 72, 73, 74, 75, 76, 77, 78, 79, 80, 81, 82, 83, 84, 85, 86, 87, 88, 89, 90, 91, 92, 93, 94, 95, 96, 97, 98, 99, 100, 101, 102, 103, 104, 105, 116, 117, 118, 119, 120, 121, 122, 123, 124, 125, 126, 127, 128, 129, 130, 131, 132, 133, 134, 135, 136, 137, 138, 139, 140, 141, 142, 143, 144, 145, 146, 147, 148, 149, 150] (by decide +kernel) (by decide +kernel)
set_option maxRecDepth 20000 in
theorem gX10_even_X10_chart : GoodIn wsX10_even (wsV RX10 145 RX10 yX10_chart wsX10_chart) := goodIn_app (goodIn_of _ (by decide +kernel)) ggX10_even_X10_chart
set_option maxRecDepth 20000 in
theorem ggX10_even_X10_evenBy : GoodIn wsX10_even wsX10_evenBy := goodIn_r _ [109, 110, 14, 7, 111, 66, 67, 32, 68, 35, 69, 41, 5, 42, 112, 113, 114, 115, 116, 117, 118, 119, 120, 121, 122, 123, 124, 125, 126, 127, 128, 129, 137, 138, 139, 140, 141, 130, 131, 132, 133, 134, 142, 143] (by decide +kernel) (by decide +kernel)
set_option maxRecDepth 20000 in
theorem gX10_even_X10_evenBy : GoodIn wsX10_even (wsV RX10 197 RX10 yX10_evenBy wsX10_evenBy) := goodIn_app (goodIn_of _ (by decide +kernel)) ggX10_even_X10_evenBy
theorem dX10_even_0 : decode cX10_even 0 = .ok (.aload_n 0, 1) := by decide +kernel
theorem dX10_even_1 : decode cX10_even 1 = .ok (.invokevirtual 176, 3) := by decide +kernel
theorem dX10_even_4 : decode cX10_even 4 = .ok (.ifCond .ne 12, 3) := by decide +kernel
theorem dX10_even_7 : decode cX10_even 7 = .ok (.aload_n 0, 1) := by decide +kernel
theorem dX10_even_8 : decode cX10_even 8 = .ok (.getfield 92, 3) := by decide +kernel
theorem dX10_even_11 : decode cX10_even 11 = .ok (.bipush 30, 2) := by decide +kernel
theorem dX10_even_13 : decode cX10_even 13 = .ok (.if_icmp .lt 6, 3) := by decide +kernel
theorem dX10_even_16 : decode cX10_even 16 = .ok (.bipush (-103), 2) := by decide +kernel
theorem dX10_even_18 : decode cX10_even 18 = .ok (.ireturn, 1) := by decide +kernel
theorem dX10_even_19 : decode cX10_even 19 = .ok (.aload_n 0, 1) := by decide +kernel
theorem dX10_even_20 : decode cX10_even 20 = .ok (.dup, 1) := by decide +kernel
theorem dX10_even_21 : decode cX10_even 21 = .ok (.getfield 92, 3) := by decide +kernel
theorem dX10_even_24 : decode cX10_even 24 = .ok (.iconst 1, 1) := by decide +kernel
theorem dX10_even_25 : decode cX10_even 25 = .ok (.iadd, 1) := by decide +kernel
theorem dX10_even_26 : decode cX10_even 26 = .ok (.putfield 92, 3) := by decide +kernel
theorem dX10_even_29 : decode cX10_even 29 = .ok (.aload_n 0, 1) := by decide +kernel
theorem dX10_even_30 : decode cX10_even 30 = .ok (.invokevirtual 145, 3) := by decide +kernel
theorem dX10_even_33 : decode cX10_even 33 = .ok (.aload_n 0, 1) := by decide +kernel
theorem dX10_even_34 : decode cX10_even 34 = .ok (.invokevirtual 197, 3) := by decide +kernel
theorem dX10_even_37 : decode cX10_even 37 = .ok (.ireturn, 1) := by decide +kernel
set_option maxRecDepth 20000 in
theorem ggX10_likely_X10_isNoSide : GoodIn wsX10_likely wsX10_isNoSide := goodIn_r _ [6] (by decide +kernel) (by decide +kernel)
set_option maxRecDepth 20000 in
theorem gX10_likely_X10_isNoSide : GoodIn wsX10_likely (va_wsS RX10 179 yX10_isNoSide wsX10_isNoSide) := goodIn_app (goodIn_of _ (by decide +kernel)) ggX10_likely_X10_isNoSide
set_option maxRecDepth 20000 in
theorem ggX10_likely_X10_hasNoHedge : GoodIn wsX10_likely wsX10_hasNoHedge := goodIn_r _ [10, 11, 114, 115, 116, 117, 118, 119, 120, 121, 122, 123, 124, 125, 126, 127, 133, 134, 135, 136, 137] (by decide +kernel) (by decide +kernel)
set_option maxRecDepth 20000 in
theorem gX10_likely_X10_hasNoHedge : GoodIn wsX10_likely (wsV RX10 176 RX10 yX10_hasNoHedge wsX10_hasNoHedge) := goodIn_app (goodIn_of _ (by decide +kernel)) ggX10_likely_X10_hasNoHedge
set_option maxRecDepth 20000 in
theorem ggX10_likely_X10_chart : GoodIn wsX10_likely wsX10_chart := goodIn_r _ [15, 16, 11, 17, 18, 19, 20, 1, 21, 22, 23, 24, 25, 26, 27, 28, 29, 30, 31, 32, 33, 34, 35, 36, 37, 38, 39, 40, 41, 42, 43, 44, 5, 45, 46, 47, 48, 49, 50, 51, 52, 53, 54, 55, 56, 57, 58, 59, 60, 61, 62, 63, 64, 65, 66, 67, 68, 69, 70, 71, 72, 73, 74, 75, 76, 77, 78, 79, 80, 81, 82, 83, 84, 85, 86, 87, 88, 89, 90, 91, 92, 93, 94, 95, 96, 97, 98, 99, 100, 101, 102, 103, 104, 105, 106, 107, 108, 114, 115, 116, 117, 118, 119, 120, 121, 122, 123, 124, 125, 126, 127, 133, 134, 135, 136, 137, 138, 139, 128, 129, 130, 131, 132, 140, 141, 142, 143, 144, 145, 146, 147, 148] (by decide +kernel) (by decide +kernel)
set_option maxRecDepth 20000 in
theorem gX10_likely_X10_chart : GoodIn wsX10_likely (wsV RX10 145 RX10 yX10_chart wsX10_chart) := goodIn_app (goodIn_of _ (by decide +kernel)) ggX10_likely_X10_chart
set_option maxRecDepth 20000 in
theorem ggX10_likely_X0_millionths : GoodIn wsX10_likely wsX0_millionths := goodIn_r _ [112, 98, 113, 99, 44, 5, 45, 147, 148] (by decide +kernel) (by decide +kernel)
set_option maxRecDepth 20000 in
theorem gX10_likely_X0_millionths : GoodIn wsX10_likely (wsV RX10 200 RX0 yX0_millionths wsX0_millionths) := goodIn_app (goodIn_of _ (by decide +kernel)) ggX10_likely_X0_millionths
theorem dX10_likely_0 : decode cX10_likely 0 = .ok (.iload_n 1, 1) := by decide +kernel
theorem dX10_likely_1 : decode cX10_likely 1 = .ok (.invokestatic 179, 3) := by decide +kernel
theorem dX10_likely_4 : decode cX10_likely 4 = .ok (.ifCond .eq 6, 3) := by decide +kernel
theorem dX10_likely_7 : decode cX10_likely 7 = .ok (.bipush (-102), 2) := by decide +kernel
theorem dX10_likely_9 : decode cX10_likely 9 = .ok (.ireturn, 1) := by decide +kernel
theorem dX10_likely_10 : decode cX10_likely 10 = .ok (.aload_n 0, 1) := by decide +kernel
theorem dX10_likely_11 : decode cX10_likely 11 = .ok (.invokevirtual 176, 3) := by decide +kernel
theorem dX10_likely_14 : decode cX10_likely 14 = .ok (.ifCond .eq 6, 3) := by decide +kernel
theorem dX10_likely_17 : decode cX10_likely 17 = .ok (.bipush (-103), 2) := by decide +kernel
theorem dX10_likely_19 : decode cX10_likely 19 = .ok (.ireturn, 1) := by decide +kernel
theorem dX10_likely_20 : decode cX10_likely 20 = .ok (.aload_n 0, 1) := by decide +kernel
theorem dX10_likely_21 : decode cX10_likely 21 = .ok (.invokevirtual 145, 3) := by decide +kernel
theorem dX10_likely_24 : decode cX10_likely 24 = .ok (.aload_n 0, 1) := by decide +kernel
theorem dX10_likely_25 : decode cX10_likely 25 = .ok (.getfield 70, 3) := by decide +kernel
theorem dX10_likely_28 : decode cX10_likely 28 = .ok (.iload_n 1, 1) := by decide +kernel
theorem dX10_likely_29 : decode cX10_likely 29 = .ok (.aload_n 0, 1) := by decide +kernel
theorem dX10_likely_30 : decode cX10_likely 30 = .ok (.getfield 26, 3) := by decide +kernel
theorem dX10_likely_33 : decode cX10_likely 33 = .ok (.getfield 135, 3) := by decide +kernel
theorem dX10_likely_36 : decode cX10_likely 36 = .ok (.invokevirtual 200, 3) := by decide +kernel
theorem dX10_likely_39 : decode cX10_likely 39 = .ok (.ireturn, 1) := by decide +kernel
set_option maxRecDepth 20000 in
theorem ggX10_see_X10_isUnknown : GoodIn wsX10_see wsX10_isUnknown := goodIn_r _ [6, 7, 20, 21, 22, 23, 24, 25, 26, 27, 28, 29, 30, 31, 32, 33, 43, 44, 45, 46, 47] (by decide +kernel) (by decide +kernel)
set_option maxRecDepth 20000 in
theorem gX10_see_X10_isUnknown : GoodIn wsX10_see (wsV RX10 124 RX10 yX10_isUnknown wsX10_isUnknown) := goodIn_app (goodIn_of _ (by decide +kernel)) ggX10_see_X10_isUnknown
set_option maxRecDepth 20000 in
theorem ggX10_see_X10_isNoSide : GoodIn wsX10_see wsX10_isNoSide := goodIn_r _ [10] (by decide +kernel) (by decide +kernel)
set_option maxRecDepth 20000 in
theorem gX10_see_X10_isNoSide : GoodIn wsX10_see (va_wsS RX10 179 yX10_isNoSide wsX10_isNoSide) := goodIn_app (goodIn_of _ (by decide +kernel)) ggX10_see_X10_isNoSide
set_option maxRecDepth 20000 in
theorem ggX10_see_X7_add : GoodIn wsX10_see wsX7_add := goodIn_r _ [15, 16, 17, 18, 19, 39, 40, 41, 42] (by decide +kernel) (by decide +kernel)
set_option maxRecDepth 20000 in
theorem gX10_see_X7_add : GoodIn wsX10_see (wsV RX10 211 RX7 yX7_add wsX7_add) := goodIn_app (goodIn_of _ (by decide +kernel)) ggX10_see_X7_add
theorem dX10_see_0 : decode cX10_see 0 = .ok (.aload_n 0, 1) := by decide +kernel
theorem dX10_see_1 : decode cX10_see 1 = .ok (.iload_n 1, 1) := by decide +kernel
theorem dX10_see_2 : decode cX10_see 2 = .ok (.invokevirtual 124, 3) := by decide +kernel
theorem dX10_see_5 : decode cX10_see 5 = .ok (.ifCond .eq 6, 3) := by decide +kernel
theorem dX10_see_8 : decode cX10_see 8 = .ok (.bipush (-101), 2) := by decide +kernel
theorem dX10_see_10 : decode cX10_see 10 = .ok (.ireturn, 1) := by decide +kernel
theorem dX10_see_11 : decode cX10_see 11 = .ok (.iload_n 2, 1) := by decide +kernel
theorem dX10_see_12 : decode cX10_see 12 = .ok (.invokestatic 179, 3) := by decide +kernel
theorem dX10_see_15 : decode cX10_see 15 = .ok (.ifCond .eq 6, 3) := by decide +kernel
theorem dX10_see_18 : decode cX10_see 18 = .ok (.bipush (-102), 2) := by decide +kernel
theorem dX10_see_20 : decode cX10_see 20 = .ok (.ireturn, 1) := by decide +kernel
theorem dX10_see_21 : decode cX10_see 21 = .ok (.aload_n 0, 1) := by decide +kernel
theorem dX10_see_22 : decode cX10_see 22 = .ok (.getfield 26, 3) := by decide +kernel
theorem dX10_see_25 : decode cX10_see 25 = .ok (.getfield 203, 3) := by decide +kernel
theorem dX10_see_28 : decode cX10_see 28 = .ok (.getfield 207, 3) := by decide +kernel
theorem dX10_see_31 : decode cX10_see 31 = .ok (.bipush 6, 2) := by decide +kernel
theorem dX10_see_33 : decode cX10_see 33 = .ok (.if_icmp .lt 6, 3) := by decide +kernel
theorem dX10_see_36 : decode cX10_see 36 = .ok (.bipush (-104), 2) := by decide +kernel
theorem dX10_see_38 : decode cX10_see 38 = .ok (.ireturn, 1) := by decide +kernel
theorem dX10_see_39 : decode cX10_see 39 = .ok (.aload_n 0, 1) := by decide +kernel
theorem dX10_see_40 : decode cX10_see 40 = .ok (.getfield 26, 3) := by decide +kernel
theorem dX10_see_43 : decode cX10_see 43 = .ok (.getfield 203, 3) := by decide +kernel
theorem dX10_see_46 : decode cX10_see 46 = .ok (.iload_n 1, 1) := by decide +kernel
theorem dX10_see_47 : decode cX10_see 47 = .ok (.iload_n 2, 1) := by decide +kernel
theorem dX10_see_48 : decode cX10_see 48 = .ok (.iload_n 3, 1) := by decide +kernel
theorem dX10_see_49 : decode cX10_see 49 = .ok (.invokevirtual 211, 3) := by decide +kernel
theorem dX10_see_52 : decode cX10_see 52 = .ok (.aload_n 0, 1) := by decide +kernel
theorem dX10_see_53 : decode cX10_see 53 = .ok (.getfield 26, 3) := by decide +kernel
theorem dX10_see_56 : decode cX10_see 56 = .ok (.getfield 203, 3) := by decide +kernel
theorem dX10_see_59 : decode cX10_see 59 = .ok (.getfield 207, 3) := by decide +kernel
theorem dX10_see_62 : decode cX10_see 62 = .ok (.ireturn, 1) := by decide +kernel
theorem dX10_forget_0 : decode cX10_forget 0 = .ok (.aload_n 0, 1) := by decide +kernel
theorem dX10_forget_1 : decode cX10_forget 1 = .ok (.getfield 26, 3) := by decide +kernel
theorem dX10_forget_4 : decode cX10_forget 4 = .ok (.getfield 203, 3) := by decide +kernel
theorem dX10_forget_7 : decode cX10_forget 7 = .ok (.getfield 207, 3) := by decide +kernel
theorem dX10_forget_10 : decode cX10_forget 10 = .ok (.istore_n 1, 1) := by decide +kernel
theorem dX10_forget_11 : decode cX10_forget 11 = .ok (.aload_n 0, 1) := by decide +kernel
theorem dX10_forget_12 : decode cX10_forget 12 = .ok (.getfield 26, 3) := by decide +kernel
theorem dX10_forget_15 : decode cX10_forget 15 = .ok (.getfield 203, 3) := by decide +kernel
theorem dX10_forget_18 : decode cX10_forget 18 = .ok (.iconst 0, 1) := by decide +kernel
theorem dX10_forget_19 : decode cX10_forget 19 = .ok (.putfield 207, 3) := by decide +kernel
theorem dX10_forget_22 : decode cX10_forget 22 = .ok (.iload_n 1, 1) := by decide +kernel
theorem dX10_forget_23 : decode cX10_forget 23 = .ok (.ireturn, 1) := by decide +kernel
set_option maxRecDepth 20000 in
theorem ggX10_games_X10_hasNoHedge : GoodIn wsX10_games wsX10_hasNoHedge := goodIn_r _ [7, 8, 56, 57, 58, 59, 60, 61, 62, 63, 64, 65, 66, 67, 68, 69, 79, 80, 81, 82, 83] (by decide +kernel) (by decide +kernel)
set_option maxRecDepth 20000 in
theorem gX10_games_X10_hasNoHedge : GoodIn wsX10_games (wsV RX10 176 RX10 yX10_hasNoHedge wsX10_hasNoHedge) := goodIn_app (goodIn_of _ (by decide +kernel)) ggX10_games_X10_hasNoHedge
set_option maxRecDepth 20000 in
theorem ggX10_games_X2_playAll : GoodIn wsX10_games wsX2_playAll := goodIn_r _ [13, 14, 15, 16, 17, 18, 19, 12, 20, 21, 22, 23, 24, 25, 26, 27, 28, 29, 30, 31, 32, 33, 34, 35, 36, 37, 38, 39, 40, 41, 42, 43, 44, 45, 46, 47, 48, 49, 50, 51, 52, 53, 54, 55, 75, 76, 77, 78, 84, 85, 79, 80, 81, 82, 83, 70, 71, 72, 73, 74] (by decide +kernel) (by decide +kernel)
set_option maxRecDepth 20000 in
theorem gX10_games_X2_playAll : GoodIn wsX10_games (wsV RX10 214 RX2 yX2_playAll wsX2_playAll) := goodIn_app (goodIn_of _ (by decide +kernel)) ggX10_games_X2_playAll
theorem dX10_games_0 : decode cX10_games 0 = .ok (.iload_n 1, 1) := by decide +kernel
theorem dX10_games_1 : decode cX10_games 1 = .ok (.iconst 1, 1) := by decide +kernel
theorem dX10_games_2 : decode cX10_games 2 = .ok (.if_icmp .lt 22, 3) := by decide +kernel
theorem dX10_games_5 : decode cX10_games 5 = .ok (.iload_n 1, 1) := by decide +kernel
theorem dX10_games_6 : decode cX10_games 6 = .ok (.bipush 40, 2) := by decide +kernel
theorem dX10_games_8 : decode cX10_games 8 = .ok (.if_icmp .gt 16, 3) := by decide +kernel
theorem dX10_games_11 : decode cX10_games 11 = .ok (.iload_n 2, 1) := by decide +kernel
theorem dX10_games_12 : decode cX10_games 12 = .ok (.ifCond .lt 12, 3) := by decide +kernel
theorem dX10_games_15 : decode cX10_games 15 = .ok (.iload_n 3, 1) := by decide +kernel
theorem dX10_games_16 : decode cX10_games 16 = .ok (.ifCond .lt 8, 3) := by decide +kernel
theorem dX10_games_19 : decode cX10_games 19 = .ok (.iload_n 3, 1) := by decide +kernel
theorem dX10_games_20 : decode cX10_games 20 = .ok (.iconst 3, 1) := by decide +kernel
theorem dX10_games_21 : decode cX10_games 21 = .ok (.if_icmp .lt 6, 3) := by decide +kernel
theorem dX10_games_24 : decode cX10_games 24 = .ok (.bipush (-102), 2) := by decide +kernel
theorem dX10_games_26 : decode cX10_games 26 = .ok (.ireturn, 1) := by decide +kernel
theorem dX10_games_27 : decode cX10_games 27 = .ok (.aload_n 0, 1) := by decide +kernel
theorem dX10_games_28 : decode cX10_games 28 = .ok (.invokevirtual 176, 3) := by decide +kernel
theorem dX10_games_31 : decode cX10_games 31 = .ok (.ifCond .eq 6, 3) := by decide +kernel
theorem dX10_games_34 : decode cX10_games 34 = .ok (.bipush (-103), 2) := by decide +kernel
theorem dX10_games_36 : decode cX10_games 36 = .ok (.ireturn, 1) := by decide +kernel
theorem dX10_games_37 : decode cX10_games 37 = .ok (.aload_n 0, 1) := by decide +kernel
theorem dX10_games_38 : decode cX10_games 38 = .ok (.getfield 77, 3) := by decide +kernel
theorem dX10_games_41 : decode cX10_games 41 = .ok (.iload_n 1, 1) := by decide +kernel
theorem dX10_games_42 : decode cX10_games 42 = .ok (.iload_n 2, 1) := by decide +kernel
theorem dX10_games_43 : decode cX10_games 43 = .ok (.aload_n 0, 1) := by decide +kernel
theorem dX10_games_44 : decode cX10_games 44 = .ok (.getfield 26, 3) := by decide +kernel
theorem dX10_games_47 : decode cX10_games 47 = .ok (.getfield 135, 3) := by decide +kernel
end
section
theorem dX10_games_50 : decode cX10_games 50 = .ok (.invokevirtual 214, 3) := by decide +kernel
theorem dX10_games_53 : decode cX10_games 53 = .ok (.iload_n 3, 1) := by decide +kernel
theorem dX10_games_54 : decode cX10_games 54 = .ok (.lookupswitch 42 #[(0, 26), (1, 34)], 26) := by decide +kernel
theorem dX10_games_80 : decode cX10_games 80 = .ok (.aload_n 0, 1) := by decide +kernel
theorem dX10_games_81 : decode cX10_games 81 = .ok (.getfield 77, 3) := by decide +kernel
theorem dX10_games_84 : decode cX10_games 84 = .ok (.getfield 218, 3) := by decide +kernel
theorem dX10_games_87 : decode cX10_games 87 = .ok (.ireturn, 1) := by decide +kernel
theorem dX10_games_88 : decode cX10_games 88 = .ok (.aload_n 0, 1) := by decide +kernel
theorem dX10_games_89 : decode cX10_games 89 = .ok (.getfield 77, 3) := by decide +kernel
theorem dX10_games_92 : decode cX10_games 92 = .ok (.getfield 221, 3) := by decide +kernel
theorem dX10_games_95 : decode cX10_games 95 = .ok (.ireturn, 1) := by decide +kernel
theorem dX10_games_96 : decode cX10_games 96 = .ok (.aload_n 0, 1) := by decide +kernel
theorem dX10_games_97 : decode cX10_games 97 = .ok (.getfield 77, 3) := by decide +kernel
theorem dX10_games_100 : decode cX10_games 100 = .ok (.getfield 224, 3) := by decide +kernel
theorem dX10_games_103 : decode cX10_games 103 = .ok (.ireturn, 1) := by decide +kernel
set_option maxRecDepth 20000 in
theorem ggX10_image_X10_hasNoHedge : GoodIn wsX10_image wsX10_hasNoHedge := goodIn_r _ [8, 9, 33, 34, 35, 36, 37, 38, 39, 40, 41, 42, 43, 44, 45, 46, 52, 53, 54, 55, 56] (by decide +kernel) (by decide +kernel)
set_option maxRecDepth 20000 in
theorem gX10_image_X10_hasNoHedge : GoodIn wsX10_image (wsV RX10 176 RX10 yX10_hasNoHedge wsX10_hasNoHedge) := goodIn_app (goodIn_of _ (by decide +kernel)) ggX10_image_X10_hasNoHedge
set_option maxRecDepth 20000 in
theorem ggX10_image_X3_copyFrom : GoodIn wsX10_image wsX3_copyFrom := goodIn_r _ [14, 15, 16, 17, 18, 19, 20, 21, 22, 23, 24, 25, 26, 27, 28, 29, 30, 31, 32, 47, 48, 49, 50, 51, 57, 58, 59, 60] (by decide +kernel) (by decide +kernel)
set_option maxRecDepth 20000 in
theorem gX10_image_X3_copyFrom : GoodIn wsX10_image (wsV RX10 227 RX3 yX3_copyFrom wsX3_copyFrom) := goodIn_app (goodIn_of _ (by decide +kernel)) ggX10_image_X3_copyFrom
theorem dX10_image_0 : decode cX10_image 0 = .ok (.aload_n 0, 1) := by decide +kernel
theorem dX10_image_1 : decode cX10_image 1 = .ok (.invokevirtual 176, 3) := by decide +kernel
theorem dX10_image_4 : decode cX10_image 4 = .ok (.ifCond .eq 6, 3) := by decide +kernel
theorem dX10_image_7 : decode cX10_image 7 = .ok (.bipush (-103), 2) := by decide +kernel
theorem dX10_image_9 : decode cX10_image 9 = .ok (.ireturn, 1) := by decide +kernel
theorem dX10_image_10 : decode cX10_image 10 = .ok (.aload_n 0, 1) := by decide +kernel
theorem dX10_image_11 : decode cX10_image 11 = .ok (.getfield 30, 3) := by decide +kernel
theorem dX10_image_14 : decode cX10_image 14 = .ok (.aload_n 0, 1) := by decide +kernel
theorem dX10_image_15 : decode cX10_image 15 = .ok (.getfield 26, 3) := by decide +kernel
theorem dX10_image_18 : decode cX10_image 18 = .ok (.invokevirtual 227, 3) := by decide +kernel
theorem dX10_image_21 : decode cX10_image 21 = .ok (.aload_n 0, 1) := by decide +kernel
theorem dX10_image_22 : decode cX10_image 22 = .ok (.iconst 1, 1) := by decide +kernel
theorem dX10_image_23 : decode cX10_image 23 = .ok (.putfield 85, 3) := by decide +kernel
theorem dX10_image_26 : decode cX10_image 26 = .ok (.aload_n 0, 1) := by decide +kernel
theorem dX10_image_27 : decode cX10_image 27 = .ok (.getfield 26, 3) := by decide +kernel
theorem dX10_image_30 : decode cX10_image 30 = .ok (.getfield 161, 3) := by decide +kernel
theorem dX10_image_33 : decode cX10_image 33 = .ok (.ireturn, 1) := by decide +kernel
set_option maxRecDepth 20000 in
theorem ggX10_restore_X3_copyFrom : GoodIn wsX10_restore wsX3_copyFrom := goodIn_r _ [9, 10, 11, 12, 13, 14, 15, 16, 17, 18, 19, 20, 21, 22, 23, 24, 25, 26, 27, 42, 43, 44, 45, 46, 47, 48, 49, 50] (by decide +kernel) (by decide +kernel)
set_option maxRecDepth 20000 in
theorem gX10_restore_X3_copyFrom : GoodIn wsX10_restore (wsV RX10 227 RX3 yX3_copyFrom wsX3_copyFrom) := goodIn_app (goodIn_of _ (by decide +kernel)) ggX10_restore_X3_copyFrom
theorem dX10_restore_0 : decode cX10_restore 0 = .ok (.aload_n 0, 1) := by decide +kernel
theorem dX10_restore_1 : decode cX10_restore 1 = .ok (.getfield 85, 3) := by decide +kernel
theorem dX10_restore_4 : decode cX10_restore 4 = .ok (.ifCond .ne 6, 3) := by decide +kernel
theorem dX10_restore_7 : decode cX10_restore 7 = .ok (.bipush (-103), 2) := by decide +kernel
theorem dX10_restore_9 : decode cX10_restore 9 = .ok (.ireturn, 1) := by decide +kernel
theorem dX10_restore_10 : decode cX10_restore 10 = .ok (.aload_n 0, 1) := by decide +kernel
theorem dX10_restore_11 : decode cX10_restore 11 = .ok (.getfield 26, 3) := by decide +kernel
theorem dX10_restore_14 : decode cX10_restore 14 = .ok (.aload_n 0, 1) := by decide +kernel
theorem dX10_restore_15 : decode cX10_restore 15 = .ok (.getfield 30, 3) := by decide +kernel
theorem dX10_restore_18 : decode cX10_restore 18 = .ok (.invokevirtual 227, 3) := by decide +kernel
theorem dX10_restore_21 : decode cX10_restore 21 = .ok (.aload_n 0, 1) := by decide +kernel
theorem dX10_restore_22 : decode cX10_restore 22 = .ok (.iconst 0, 1) := by decide +kernel
theorem dX10_restore_23 : decode cX10_restore 23 = .ok (.putfield 81, 3) := by decide +kernel
theorem dX10_restore_26 : decode cX10_restore 26 = .ok (.aload_n 0, 1) := by decide +kernel
theorem dX10_restore_27 : decode cX10_restore 27 = .ok (.getfield 26, 3) := by decide +kernel
theorem dX10_restore_30 : decode cX10_restore 30 = .ok (.getfield 161, 3) := by decide +kernel
theorem dX10_restore_33 : decode cX10_restore 33 = .ok (.ireturn, 1) := by decide +kernel
set_option maxRecDepth 20000 in
theorem ggX10_count_J6_bitCount_0f7a4 : GoodIn wsX10_count wsJ6_bitCount_0f7a4 := goodIn_r _ [10, 11, 12, 13] (by decide +kernel) (by decide +kernel)
set_option maxRecDepth 20000 in
theorem gX10_count_J6_bitCount_0f7a4 : GoodIn wsX10_count (va_wsS RX10 164 yJ6_bitCount_0f7a4 wsJ6_bitCount_0f7a4) := goodIn_app (goodIn_of _ (by decide +kernel)) ggX10_count_J6_bitCount_0f7a4
set_option maxRecDepth 20000 in
theorem ggX10_count_X6_choices : GoodIn wsX10_count wsX6_choices := goodIn_r _ [18, 19, 20, 21, 22, 23, 17, 24, 66, 67, 52, 53, 54, 55, 56, 57, 58, 59, 60, 61] (by decide +kernel) (by decide +kernel)
set_option maxRecDepth 20000 in
theorem gX10_count_X6_choices : GoodIn wsX10_count (wsV RX10 138 RX6 yX6_choices wsX6_choices) := goodIn_app (goodIn_of _ (by decide +kernel)) ggX10_count_X6_choices
set_option maxRecDepth 20000 in
theorem ggX10_count_X8_onTheGround : GoodIn wsX10_count wsX8_onTheGround := goodIn_r _ [29, 30, 31, 52, 53, 54, 55, 56] (by decide +kernel) (by decide +kernel)
set_option maxRecDepth 20000 in
theorem gX10_count_X8_onTheGround : GoodIn wsX10_count (wsV RX10 231 RX8 yX8_onTheGround wsX8_onTheGround) := goodIn_app (goodIn_of _ (by decide +kernel)) ggX10_count_X8_onTheGround
set_option maxRecDepth 20000 in
theorem ggX10_count_X5_size : GoodIn wsX10_count wsX5_size := goodIn_r _ [36, 37, 68, 69] (by decide +kernel) (by decide +kernel)
set_option maxRecDepth 20000 in
theorem gX10_count_X5_size : GoodIn wsX10_count (wsV RX10 95 RX5 yX5_size wsX5_size) := goodIn_app (goodIn_of _ (by decide +kernel)) ggX10_count_X5_size
theorem dX10_count_0 : decode cX10_count 0 = .ok (.iload_n 1, 1) := by decide +kernel
theorem dX10_count_1 : decode cX10_count 1 = .ok (.tableswitch 169 0 10 #[59, 67, 78, 86, 94, 113, 132, 140, 151, 159, 164], 59) := by decide +kernel
theorem dX10_count_60 : decode cX10_count 60 = .ok (.aload_n 0, 1) := by decide +kernel
theorem dX10_count_61 : decode cX10_count 61 = .ok (.getfield 19, 3) := by decide +kernel
theorem dX10_count_64 : decode cX10_count 64 = .ok (.getfield 117, 3) := by decide +kernel
theorem dX10_count_67 : decode cX10_count 67 = .ok (.ireturn, 1) := by decide +kernel
theorem dX10_count_68 : decode cX10_count 68 = .ok (.aload_n 0, 1) := by decide +kernel
theorem dX10_count_69 : decode cX10_count 69 = .ok (.getfield 26, 3) := by decide +kernel
theorem dX10_count_72 : decode cX10_count 72 = .ok (.getfield 135, 3) := by decide +kernel
theorem dX10_count_75 : decode cX10_count 75 = .ok (.invokestatic 164, 3) := by decide +kernel
theorem dX10_count_78 : decode cX10_count 78 = .ok (.ireturn, 1) := by decide +kernel
theorem dX10_count_79 : decode cX10_count 79 = .ok (.aload_n 0, 1) := by decide +kernel
theorem dX10_count_80 : decode cX10_count 80 = .ok (.getfield 26, 3) := by decide +kernel
theorem dX10_count_83 : decode cX10_count 83 = .ok (.getfield 158, 3) := by decide +kernel
theorem dX10_count_86 : decode cX10_count 86 = .ok (.ireturn, 1) := by decide +kernel
theorem dX10_count_87 : decode cX10_count 87 = .ok (.aload_n 0, 1) := by decide +kernel
theorem dX10_count_88 : decode cX10_count 88 = .ok (.getfield 26, 3) := by decide +kernel
theorem dX10_count_91 : decode cX10_count 91 = .ok (.getfield 161, 3) := by decide +kernel
theorem dX10_count_94 : decode cX10_count 94 = .ok (.ireturn, 1) := by decide +kernel
theorem dX10_count_95 : decode cX10_count 95 = .ok (.aload_n 0, 1) := by decide +kernel
theorem dX10_count_96 : decode cX10_count 96 = .ok (.getfield 38, 3) := by decide +kernel
theorem dX10_count_99 : decode cX10_count 99 = .ok (.iconst 0, 1) := by decide +kernel
theorem dX10_count_100 : decode cX10_count 100 = .ok (.aload_n 0, 1) := by decide +kernel
theorem dX10_count_101 : decode cX10_count 101 = .ok (.getfield 26, 3) := by decide +kernel
theorem dX10_count_104 : decode cX10_count 104 = .ok (.getfield 135, 3) := by decide +kernel
theorem dX10_count_107 : decode cX10_count 107 = .ok (.invokevirtual 138, 3) := by decide +kernel
theorem dX10_count_110 : decode cX10_count 110 = .ok (.invokestatic 164, 3) := by decide +kernel
theorem dX10_count_113 : decode cX10_count 113 = .ok (.ireturn, 1) := by decide +kernel
theorem dX10_count_114 : decode cX10_count 114 = .ok (.aload_n 0, 1) := by decide +kernel
theorem dX10_count_115 : decode cX10_count 115 = .ok (.getfield 38, 3) := by decide +kernel
theorem dX10_count_118 : decode cX10_count 118 = .ok (.iconst 1, 1) := by decide +kernel
theorem dX10_count_119 : decode cX10_count 119 = .ok (.aload_n 0, 1) := by decide +kernel
theorem dX10_count_120 : decode cX10_count 120 = .ok (.getfield 26, 3) := by decide +kernel
theorem dX10_count_123 : decode cX10_count 123 = .ok (.getfield 135, 3) := by decide +kernel
theorem dX10_count_126 : decode cX10_count 126 = .ok (.invokevirtual 138, 3) := by decide +kernel
theorem dX10_count_129 : decode cX10_count 129 = .ok (.invokestatic 164, 3) := by decide +kernel
theorem dX10_count_132 : decode cX10_count 132 = .ok (.ireturn, 1) := by decide +kernel
theorem dX10_count_133 : decode cX10_count 133 = .ok (.aload_n 0, 1) := by decide +kernel
theorem dX10_count_134 : decode cX10_count 134 = .ok (.getfield 19, 3) := by decide +kernel
theorem dX10_count_137 : decode cX10_count 137 = .ok (.invokevirtual 231, 3) := by decide +kernel
theorem dX10_count_140 : decode cX10_count 140 = .ok (.ireturn, 1) := by decide +kernel
theorem dX10_count_141 : decode cX10_count 141 = .ok (.aload_n 0, 1) := by decide +kernel
theorem dX10_count_142 : decode cX10_count 142 = .ok (.getfield 26, 3) := by decide +kernel
theorem dX10_count_145 : decode cX10_count 145 = .ok (.getfield 203, 3) := by decide +kernel
theorem dX10_count_148 : decode cX10_count 148 = .ok (.getfield 207, 3) := by decide +kernel
theorem dX10_count_151 : decode cX10_count 151 = .ok (.ireturn, 1) := by decide +kernel
theorem dX10_count_152 : decode cX10_count 152 = .ok (.aload_n 0, 1) := by decide +kernel
theorem dX10_count_153 : decode cX10_count 153 = .ok (.getfield 10, 3) := by decide +kernel
theorem dX10_count_156 : decode cX10_count 156 = .ok (.invokevirtual 95, 3) := by decide +kernel
theorem dX10_count_159 : decode cX10_count 159 = .ok (.ireturn, 1) := by decide +kernel
theorem dX10_count_160 : decode cX10_count 160 = .ok (.aload_n 0, 1) := by decide +kernel
theorem dX10_count_161 : decode cX10_count 161 = .ok (.getfield 88, 3) := by decide +kernel
theorem dX10_count_164 : decode cX10_count 164 = .ok (.ireturn, 1) := by decide +kernel
theorem dX10_count_165 : decode cX10_count 165 = .ok (.aload_n 0, 1) := by decide +kernel
theorem dX10_count_166 : decode cX10_count 166 = .ok (.getfield 92, 3) := by decide +kernel
theorem dX10_count_169 : decode cX10_count 169 = .ok (.ireturn, 1) := by decide +kernel
theorem dX10_count_170 : decode cX10_count 170 = .ok (.bipush (-102), 2) := by decide +kernel
theorem dX10_count_172 : decode cX10_count 172 = .ok (.ireturn, 1) := by decide +kernel
set_option maxRecDepth 20000 in
theorem ggX10_digest_X10_branch : GoodIn wsX10_digest wsX10_branch := goodIn_r _ [9, 10, 2, 11, 12, 13, 14, 8, 15, 16, 17, 18, 19, 20, 21, 22, 23, 24, 25, 26, 27, 28, 29, 30, 31, 32, 33, 34, 35, 36, 37, 38, 39, 40, 41, 42, 43, 44, 45, 46, 47, 48, 49, 50, 51, 52, 53, 54, 55, 56, 57, 58, 59, 60, 61, 62, 63, 64, 65, 66, 67, 68, 69, 70, 71, 72, 73, 74, 75, 76, 77, 78, 79, 80, 81, 82, 83, 84, 85, 86, 87, 88, 89, 90, 91, 92, 93, 94, 95, 96, 97, 98, 99, 100, 101, 102, 103, 104, 105, 106, 107, 108, 109, 110, 111, 112, 113, 114, 115, 116, 117, 118, 119, 120, 121, 122, 123, 124, 125, 126, 127, 128, 129, 213, 214, 215, 216, 217, 218, 219, 220, 221, 222, 223, 224, 225, 226, 232, 233, 234, 235, 236, 227, 228, 229, 230, 231, 237, 238, 239, 240, 241, 242, 243, 244, 245, 246, 247, 248, 249, 250, 251] (by decide +kernel) (by decide +kernel)
set_option maxRecDepth 20000 in
theorem gX10_digest_X10_branch : GoodIn wsX10_digest (wsV RX10 238 RX10 yX10_branch wsX10_branch) := goodIn_app (goodIn_of _ (by decide +kernel)) ggX10_digest_X10_branch
set_option maxRecDepth 20000 in
theorem ggX10_digest_X10_hasNoHedge : GoodIn wsX10_digest wsX10_hasNoHedge := goodIn_r _ [133, 2, 213, 214, 215, 216, 217, 218, 219, 220, 221, 222, 223, 224, 225, 226, 227, 228, 229, 230, 231] (by decide +kernel) (by decide +kernel)
set_option maxRecDepth 20000 in
theorem gX10_digest_X10_hasNoHedge : GoodIn wsX10_digest (wsV RX10 176 RX10 yX10_hasNoHedge wsX10_hasNoHedge) := goodIn_app (goodIn_of _ (by decide +kernel)) ggX10_digest_X10_hasNoHedge
set_option maxRecDepth 20000 in
theorem ggX10_digest_X10_digestOutlook : GoodIn wsX10_digest wsX10_digestOutlook := goodIn_r _ [137, 3, 2, 138, 139, 140, 8, 141, 32, 10, 142, 143, 144, 130, 131, 132, 133, 27, 28, 29, 30, 31, 11, 33, 34, 35, 16, 17, 18, 19, 20, 21, 22, 23, 24, 25, 26, 36, 37, 38, 39, 40, 41, 42, 43, 44, 45, 46, 47, 48, 49, 50, 51, 52, 53, 54, 55, 56, 57, 58, 59, 60, 61, 62, 63, 64, 65, 66, 67, 68, 69, 70, 71, 72, 73, 74, 75, 76, 77, 78, 79, 80, 81, 82, 83, 84, 85, 86, 87, 88, 89, 90, 91, 92, 93, 94, 95, 96, 97, 98, 99, 100, 101, 102, 103, 104, 105, 106, 107, 108, 109, 110, 111, 112, 145, 146, 147, 148, 149, 150, 151, 152, 153, 154, 155, 156, 157, 158, 159, 160, 161, 162, 163, 164, 165, 166, 167, 168, 169, 170, 171, 172, 173, 174, 175, 176, 177, 178, 179, 180, 181, 182, 183, 12, 13, 14, 15, 184, 185, 186, 187, 188, 189, 213, 214, 215, 216, 217, 218, 219, 220, 221, 222, 223, 224, 225, 226, 227, 228, 229, 230, 231, 232, 233, 234, 235, 236, 237, 238, 239, 240, 241, 242, 243, 244, 245, 246, 247] (by decide +kernel) (by decide +kernel)
set_option maxRecDepth 20000 in
theorem gX10_digest_X10_digestOutlook : GoodIn wsX10_digest (wsV RX10 241 RX10 yX10_digestOutlook wsX10_digestOutlook) := goodIn_app (goodIn_of _ (by decide +kernel)) ggX10_digest_X10_digestOutlook
set_option maxRecDepth 20000 in
theorem ggX10_digest_X5_size : GoodIn wsX10_digest wsX5_size := goodIn_r _ [194, 195, 252, 253] (by decide +kernel) (by decide +kernel)
set_option maxRecDepth 20000 in
theorem gX10_digest_X5_size : GoodIn wsX10_digest (wsV RX10 95 RX5 yX5_size wsX5_size) := goodIn_app (goodIn_of _ (by decide +kernel)) ggX10_digest_X5_size
set_option maxRecDepth 20000 in
theorem ggX10_digest_X5_at : GoodIn wsX10_digest wsX5_at := goodIn_r _ [199, 195, 200, 252, 253] (by decide +kernel) (by decide +kernel)
set_option maxRecDepth 20000 in
theorem gX10_digest_X5_at : GoodIn wsX10_digest (wsV RX10 245 RX5 yX5_at wsX5_at) := goodIn_app (goodIn_of _ (by decide +kernel)) ggX10_digest_X5_at
set_option maxRecDepth 20000 in
theorem ggX10_digest_X10_count : GoodIn wsX10_digest wsX10_count := goodIn_r _ [204, 2, 10, 11, 4, 205, 206, 129, 106, 107, 108, 109, 110, 111, 16, 17, 18, 19, 20, 21, 22, 23, 24, 25, 26, 207, 208, 209, 187, 210, 211, 212, 190, 191, 192, 193, 194, 195, 213, 214, 215, 216, 217, 218, 219, 220, 221, 222, 223, 224, 225, 226, 227, 228, 229, 230, 231, 232, 233, 234, 235, 236, 248, 249, 250, 251, 237, 238, 252, 253] (by decide +kernel) (by decide +kernel)
set_option maxRecDepth 20000 in
theorem gX10_digest_X10_count : GoodIn wsX10_digest (wsV RX10 249 RX10 yX10_count wsX10_count) := goodIn_app (goodIn_of _ (by decide +kernel)) ggX10_digest_X10_count
theorem dX10_digest_0 : decode cX10_digest 0 = .ok (.ldc2_w 234, 3) := by decide +kernel
theorem dX10_digest_3 : decode cX10_digest 3 = .ok (.lstore_n 1, 1) := by decide +kernel
theorem dX10_digest_4 : decode cX10_digest 4 = .ok (.iconst 0, 1) := by decide +kernel
theorem dX10_digest_5 : decode cX10_digest 5 = .ok (.istore_n 3, 1) := by decide +kernel
theorem dX10_digest_6 : decode cX10_digest 6 = .ok (.iload_n 3, 1) := by decide +kernel
theorem dX10_digest_7 : decode cX10_digest 7 = .ok (.aload_n 0, 1) := by decide +kernel
theorem dX10_digest_8 : decode cX10_digest 8 = .ok (.getfield 19, 3) := by decide +kernel
theorem dX10_digest_11 : decode cX10_digest 11 = .ok (.getfield 117, 3) := by decide +kernel
theorem dX10_digest_14 : decode cX10_digest 14 = .ok (.if_icmp .ge 40, 3) := by decide +kernel
theorem dX10_digest_17 : decode cX10_digest 17 = .ok (.iconst 0, 1) := by decide +kernel
theorem dX10_digest_18 : decode cX10_digest 18 = .ok (.istore 4, 2) := by decide +kernel
theorem dX10_digest_20 : decode cX10_digest 20 = .ok (.iload 4, 2) := by decide +kernel
theorem dX10_digest_22 : decode cX10_digest 22 = .ok (.bipush 8, 2) := by decide +kernel
theorem dX10_digest_24 : decode cX10_digest 24 = .ok (.if_icmp .ge 24, 3) := by decide +kernel
theorem dX10_digest_27 : decode cX10_digest 27 = .ok (.ldc2_w 236, 3) := by decide +kernel
theorem dX10_digest_30 : decode cX10_digest 30 = .ok (.lload_n 1, 1) := by decide +kernel
theorem dX10_digest_31 : decode cX10_digest 31 = .ok (.lmul, 1) := by decide +kernel
theorem dX10_digest_32 : decode cX10_digest 32 = .ok (.aload_n 0, 1) := by decide +kernel
theorem dX10_digest_33 : decode cX10_digest 33 = .ok (.iload_n 3, 1) := by decide +kernel
theorem dX10_digest_34 : decode cX10_digest 34 = .ok (.iload 4, 2) := by decide +kernel
theorem dX10_digest_36 : decode cX10_digest 36 = .ok (.invokevirtual 238, 3) := by decide +kernel
theorem dX10_digest_39 : decode cX10_digest 39 = .ok (.i2l, 1) := by decide +kernel
theorem dX10_digest_40 : decode cX10_digest 40 = .ok (.ladd, 1) := by decide +kernel
theorem dX10_digest_41 : decode cX10_digest 41 = .ok (.lstore_n 1, 1) := by decide +kernel
theorem dX10_digest_42 : decode cX10_digest 42 = .ok (.iinc 4 1, 3) := by decide +kernel
theorem dX10_digest_45 : decode cX10_digest 45 = .ok (.goto (-25), 3) := by decide +kernel
theorem dX10_digest_48 : decode cX10_digest 48 = .ok (.iinc 3 1, 3) := by decide +kernel
theorem dX10_digest_51 : decode cX10_digest 51 = .ok (.goto (-45), 3) := by decide +kernel
theorem dX10_digest_54 : decode cX10_digest 54 = .ok (.aload_n 0, 1) := by decide +kernel
theorem dX10_digest_55 : decode cX10_digest 55 = .ok (.invokevirtual 176, 3) := by decide +kernel
theorem dX10_digest_58 : decode cX10_digest 58 = .ok (.ifCond .ne 9, 3) := by decide +kernel
theorem dX10_digest_61 : decode cX10_digest 61 = .ok (.aload_n 0, 1) := by decide +kernel
theorem dX10_digest_62 : decode cX10_digest 62 = .ok (.lload_n 1, 1) := by decide +kernel
theorem dX10_digest_63 : decode cX10_digest 63 = .ok (.invokevirtual 241, 3) := by decide +kernel
theorem dX10_digest_66 : decode cX10_digest 66 = .ok (.lstore_n 1, 1) := by decide +kernel
theorem dX10_digest_67 : decode cX10_digest 67 = .ok (.iconst 0, 1) := by decide +kernel
theorem dX10_digest_68 : decode cX10_digest 68 = .ok (.istore_n 3, 1) := by decide +kernel
theorem dX10_digest_69 : decode cX10_digest 69 = .ok (.iload_n 3, 1) := by decide +kernel
theorem dX10_digest_70 : decode cX10_digest 70 = .ok (.aload_n 0, 1) := by decide +kernel
theorem dX10_digest_71 : decode cX10_digest 71 = .ok (.getfield 10, 3) := by decide +kernel
theorem dX10_digest_74 : decode cX10_digest 74 = .ok (.invokevirtual 95, 3) := by decide +kernel
theorem dX10_digest_77 : decode cX10_digest 77 = .ok (.if_icmp .ge 25, 3) := by decide +kernel
theorem dX10_digest_80 : decode cX10_digest 80 = .ok (.ldc2_w 236, 3) := by decide +kernel
theorem dX10_digest_83 : decode cX10_digest 83 = .ok (.lload_n 1, 1) := by decide +kernel
theorem dX10_digest_84 : decode cX10_digest 84 = .ok (.lmul, 1) := by decide +kernel
theorem dX10_digest_85 : decode cX10_digest 85 = .ok (.aload_n 0, 1) := by decide +kernel
theorem dX10_digest_86 : decode cX10_digest 86 = .ok (.getfield 10, 3) := by decide +kernel
theorem dX10_digest_89 : decode cX10_digest 89 = .ok (.iload_n 3, 1) := by decide +kernel
theorem dX10_digest_90 : decode cX10_digest 90 = .ok (.invokevirtual 245, 3) := by decide +kernel
theorem dX10_digest_93 : decode cX10_digest 93 = .ok (.i2l, 1) := by decide +kernel
theorem dX10_digest_94 : decode cX10_digest 94 = .ok (.ladd, 1) := by decide +kernel
theorem dX10_digest_95 : decode cX10_digest 95 = .ok (.lstore_n 1, 1) := by decide +kernel
theorem dX10_digest_96 : decode cX10_digest 96 = .ok (.iinc 3 1, 3) := by decide +kernel
theorem dX10_digest_99 : decode cX10_digest 99 = .ok (.goto (-30), 3) := by decide +kernel
theorem dX10_digest_102 : decode cX10_digest 102 = .ok (.iconst 0, 1) := by decide +kernel
theorem dX10_digest_103 : decode cX10_digest 103 = .ok (.istore_n 3, 1) := by decide +kernel
theorem dX10_digest_104 : decode cX10_digest 104 = .ok (.iload_n 3, 1) := by decide +kernel
theorem dX10_digest_105 : decode cX10_digest 105 = .ok (.bipush 11, 2) := by decide +kernel
theorem dX10_digest_107 : decode cX10_digest 107 = .ok (.if_icmp .ge 22, 3) := by decide +kernel
theorem dX10_digest_110 : decode cX10_digest 110 = .ok (.ldc2_w 236, 3) := by decide +kernel
theorem dX10_digest_113 : decode cX10_digest 113 = .ok (.lload_n 1, 1) := by decide +kernel
theorem dX10_digest_114 : decode cX10_digest 114 = .ok (.lmul, 1) := by decide +kernel
theorem dX10_digest_115 : decode cX10_digest 115 = .ok (.aload_n 0, 1) := by decide +kernel
theorem dX10_digest_116 : decode cX10_digest 116 = .ok (.iload_n 3, 1) := by decide +kernel
theorem dX10_digest_117 : decode cX10_digest 117 = .ok (.invokevirtual 249, 3) := by decide +kernel
theorem dX10_digest_120 : decode cX10_digest 120 = .ok (.i2l, 1) := by decide +kernel
theorem dX10_digest_121 : decode cX10_digest 121 = .ok (.ladd, 1) := by decide +kernel
theorem dX10_digest_122 : decode cX10_digest 122 = .ok (.lstore_n 1, 1) := by decide +kernel
theorem dX10_digest_123 : decode cX10_digest 123 = .ok (.iinc 3 1, 3) := by decide +kernel
theorem dX10_digest_126 : decode cX10_digest 126 = .ok (.goto (-22), 3) := by decide +kernel
theorem dX10_digest_129 : decode cX10_digest 129 = .ok (.lload_n 1, 1) := by decide +kernel
theorem dX10_digest_130 : decode cX10_digest 130 = .ok (.lreturn, 1) := by decide +kernel
set_option maxRecDepth 20000 in
theorem ggX10_digestOutlook_X10_wins : GoodIn wsX10_digestOutlook wsX10_wins := goodIn_r _ [7, 8, 9, 10, 11, 6, 12, 13, 14, 15, 16, 2, 17, 18, 19, 20, 21, 22, 23, 24, 25, 26, 27, 28, 29, 30, 31, 32, 33, 34, 35, 36, 37, 38, 39, 40, 41, 42, 43, 44, 45, 46, 47, 48, 49, 50, 51, 52, 53, 54, 55, 56, 57, 58, 59, 60, 61, 62, 63, 64, 65, 66, 67, 68, 69, 70, 71, 72, 73, 74, 75, 76, 77, 78, 79, 80, 81, 82, 83, 84, 85, 86, 87, 88, 89, 90, 91, 92, 93, 94, 95, 96, 97, 98, 99, 100, 101, 102, 103, 104, 105, 106, 107, 108, 109, 110, 111, 112, 113, 114, 163, 164, 165, 166, 167, 168, 169, 170, 171, 172, 173, 174, 175, 176, 182, 183, 184, 185, 186, 177, 178, 179, 180, 181, 187, 188, 189, 190, 191, 192, 193, 194, 195, 196, 197] (by decide +kernel) (by decide +kernel)
set_option maxRecDepth 20000 in
theorem gX10_digestOutlook_X10_wins : GoodIn wsX10_digestOutlook (wsV RX10 252 RX10 yX10_wins wsX10_wins) := goodIn_app (goodIn_of _ (by decide +kernel)) ggX10_digestOutlook_X10_wins
set_option maxRecDepth 20000 in
theorem ggX10_digestOutlook_X10_best : GoodIn wsX10_digestOutlook wsX10_best := goodIn_r _ [118, 23, 9, 10, 11, 6, 12, 13, 14, 15, 16, 2, 17, 18, 19, 20, 21, 22, 8, 24, 25, 26, 27, 28, 29, 30, 31, 32, 33, 34, 35, 36, 37, 38, 39, 40, 41, 42, 43, 44, 45, 46, 47, 48, 49, 50, 51, 52, 53, 54, 55, 56, 57, 58, 59, 60, 61, 62, 63, 64, 65, 66, 67, 68, 69, 70, 71, 72, 73, 74, 75, 76, 77, 78, 79, 80, 81, 82, 83, 84, 85, 86, 87, 88, 89, 90, 91, 92, 93, 94, 95, 96, 97, 98, 99, 100, 101, 102, 103, 104, 105, 106, 107, 108, 109, 110, 111, 112, 113, 119, 120, 121, 122, 123, 163, 164, 165, 166, 167, 168, 169, 170, 171, 172, 173, 174, 175, 176, 182, 183, 184, 185, 186, 177, 178, 179, 180, 181, 187, 188, 189, 190, 191, 192, 193, 194, 195, 196, 197] (by decide +kernel) (by decide +kernel)
set_option maxRecDepth 20000 in
theorem gX10_digestOutlook_X10_best : GoodIn wsX10_digestOutlook (wsV RX10 255 RX10 yX10_best wsX10_best) := goodIn_app (goodIn_of _ (by decide +kernel)) ggX10_digestOutlook_X10_best
set_option maxRecDepth 20000 in
theorem ggX10_digestOutlook_X10_lasts : GoodIn wsX10_digestOutlook wsX10_lasts := goodIn_r _ [127, 23, 9, 10, 11, 6, 12, 13, 14, 15, 16, 2, 17, 18, 19, 20, 21, 22, 8, 24, 25, 26, 27, 28, 29, 30, 31, 32, 33, 34, 35, 36, 37, 38, 39, 40, 41, 42, 43, 44, 45, 46, 47, 48, 49, 50, 51, 52, 53, 54, 55, 56, 57, 58, 59, 60, 61, 62, 63, 64, 65, 66, 67, 68, 69, 70, 71, 72, 73, 74, 75, 76, 77, 78, 79, 80, 81, 82, 83, 84, 85, 86, 87, 88, 89, 90, 91, 92, 93, 94, 95, 96, 97, 98, 99, 100, 101, 102, 103, 104, 105, 106, 107, 108, 109, 110, 111, 112, 113, 128, 129, 130, 131, 163, 164, 165, 166, 167, 168, 169, 170, 171, 172, 173, 174, 175, 176, 182, 183, 184, 185, 186, 177, 178, 179, 180, 181, 187, 188, 189, 190, 191, 192, 193, 194, 195, 196, 197] (by decide +kernel) (by decide +kernel)
set_option maxRecDepth 20000 in
theorem gX10_digestOutlook_X10_lasts : GoodIn wsX10_digestOutlook (wsV RX10 258 RX10 yX10_lasts wsX10_lasts) := goodIn_app (goodIn_of _ (by decide +kernel)) ggX10_digestOutlook_X10_lasts
set_option maxRecDepth 20000 in
theorem ggX10_digestOutlook_X10_likely : GoodIn wsX10_digestOutlook wsX10_likely := goodIn_r _ [135, 25, 9, 10, 11, 6, 12, 13, 14, 15, 16, 2, 17, 18, 19, 20, 21, 22, 8, 23, 24, 26, 27, 28, 29, 30, 31, 32, 33, 34, 35, 36, 37, 38, 39, 40, 41, 42, 43, 44, 45, 46, 47, 48, 49, 50, 51, 52, 53, 54, 55, 56, 57, 58, 59, 60, 61, 62, 63, 64, 65, 66, 67, 68, 69, 70, 71, 72, 73, 74, 75, 76, 77, 78, 79, 80, 81, 82, 83, 84, 85, 86, 87, 88, 89, 90, 91, 92, 93, 94, 95, 96, 97, 98, 99, 100, 101, 102, 103, 104, 105, 106, 107, 108, 109, 110, 111, 112, 113, 136, 137, 138, 139, 140, 163, 164, 165, 166, 167, 168, 169, 170, 171, 172, 173, 174, 175, 176, 182, 183, 184, 185, 186, 177, 178, 179, 180, 181, 187, 188, 189, 190, 191, 192, 193, 194, 195, 196, 197] (by decide +kernel) (by decide +kernel)
set_option maxRecDepth 20000 in
theorem gX10_digestOutlook_X10_likely : GoodIn wsX10_digestOutlook (wsV RX10 261 RX10 yX10_likely wsX10_likely) := goodIn_app (goodIn_of _ (by decide +kernel)) ggX10_digestOutlook_X10_likely
set_option maxRecDepth 20000 in
theorem ggX10_digestOutlook_X10_worth : GoodIn wsX10_digestOutlook wsX10_worth := goodIn_r _ [144, 24, 9, 13, 14, 15, 6, 16, 2, 17, 18, 19, 20, 21, 22, 8, 23, 25, 26, 27, 28, 29, 30, 31, 32, 33, 34, 35, 36, 37, 38, 39, 40, 41, 42, 43, 44, 45, 46, 47, 48, 49, 50, 51, 52, 53, 54, 55, 56, 57, 58, 59, 60, 61, 62, 63, 64, 65, 66, 67, 68, 69, 70, 71, 72, 73, 74, 75, 76, 77, 78, 79, 80, 81, 82, 83, 84, 85, 86, 87, 88, 89, 90, 91, 92, 93, 94, 95, 96, 97, 98, 99, 100, 101, 102, 103, 104, 105, 106, 107, 108, 109, 110, 111, 112, 113, 145, 146, 147, 148, 163, 164, 165, 166, 167, 168, 169, 170, 171, 172, 173, 174, 175, 176, 182, 183, 184, 185, 186, 177, 178, 179, 180, 181, 187, 188, 189, 190, 191, 192, 193, 194, 195, 196, 197] (by decide +kernel) (by decide +kernel)
set_option maxRecDepth 20000 in
theorem gX10_digestOutlook_X10_worth : GoodIn wsX10_digestOutlook (wsV RX10 264 RX10 yX10_worth wsX10_worth) := goodIn_app (goodIn_of _ (by decide +kernel)) ggX10_digestOutlook_X10_worth
set_option maxRecDepth 20000 in
theorem ggX10_digestOutlook_X10_tree : GoodIn wsX10_digestOutlook wsX10_tree := goodIn_r _ [152, 2, 24, 9, 153, 154, 155, 6, 156, 17, 18, 19, 20, 21, 22, 8, 23, 25, 26, 27, 28, 29, 30, 31, 32, 33, 34, 35, 36, 37, 38, 39, 40, 41, 42, 43, 44, 45, 46, 47, 48, 49, 50, 51, 52, 53, 54, 55, 56, 57, 58, 59, 60, 61, 62, 63, 64, 65, 66, 67, 68, 69, 70, 71, 72, 73, 74, 75, 76, 77, 78, 79, 80, 81, 82, 83, 84, 85, 86, 87, 88, 89, 90, 91, 92, 93, 94, 95, 96, 97, 98, 99, 100, 101, 102, 103, 104, 105, 106, 107, 108, 109, 110, 111, 112, 113, 157, 158, 159, 160, 161, 162, 145, 146, 147, 148, 163, 164, 165, 166, 167, 168, 169, 170, 171, 172, 173, 174, 175, 176, 177, 178, 179, 180, 181, 182, 183, 184, 185, 186, 187, 188, 189, 190, 191, 192, 193, 194, 195, 196, 197] (by decide +kernel) (by decide +kernel)
set_option maxRecDepth 20000 in
theorem gX10_digestOutlook_X10_tree : GoodIn wsX10_digestOutlook (wsV RX10 267 RX10 yX10_tree wsX10_tree) := goodIn_app (goodIn_of _ (by decide +kernel)) ggX10_digestOutlook_X10_tree
theorem dX10_digestOutlook_0 : decode cX10_digestOutlook 0 = .ok (.lload_n 1, 1) := by decide +kernel
theorem dX10_digestOutlook_1 : decode cX10_digestOutlook 1 = .ok (.lstore_n 3, 1) := by decide +kernel
theorem dX10_digestOutlook_2 : decode cX10_digestOutlook 2 = .ok (.iconst 0, 1) := by decide +kernel
theorem dX10_digestOutlook_3 : decode cX10_digestOutlook 3 = .ok (.istore 5, 2) := by decide +kernel
theorem dX10_digestOutlook_5 : decode cX10_digestOutlook 5 = .ok (.iload 5, 2) := by decide +kernel
theorem dX10_digestOutlook_7 : decode cX10_digestOutlook 7 = .ok (.iconst 2, 1) := by decide +kernel
theorem dX10_digestOutlook_8 : decode cX10_digestOutlook 8 = .ok (.if_icmp .ge 65, 3) := by decide +kernel
theorem dX10_digestOutlook_11 : decode cX10_digestOutlook 11 = .ok (.ldc2_w 236, 3) := by decide +kernel
theorem dX10_digestOutlook_14 : decode cX10_digestOutlook 14 = .ok (.lload_n 3, 1) := by decide +kernel
theorem dX10_digestOutlook_15 : decode cX10_digestOutlook 15 = .ok (.lmul, 1) := by decide +kernel
theorem dX10_digestOutlook_16 : decode cX10_digestOutlook 16 = .ok (.aload_n 0, 1) := by decide +kernel
theorem dX10_digestOutlook_17 : decode cX10_digestOutlook 17 = .ok (.iload 5, 2) := by decide +kernel
theorem dX10_digestOutlook_19 : decode cX10_digestOutlook 19 = .ok (.invokevirtual 252, 3) := by decide +kernel
theorem dX10_digestOutlook_22 : decode cX10_digestOutlook 22 = .ok (.i2l, 1) := by decide +kernel
theorem dX10_digestOutlook_23 : decode cX10_digestOutlook 23 = .ok (.ladd, 1) := by decide +kernel
theorem dX10_digestOutlook_24 : decode cX10_digestOutlook 24 = .ok (.lstore_n 3, 1) := by decide +kernel
theorem dX10_digestOutlook_25 : decode cX10_digestOutlook 25 = .ok (.ldc2_w 236, 3) := by decide +kernel
theorem dX10_digestOutlook_28 : decode cX10_digestOutlook 28 = .ok (.lload_n 3, 1) := by decide +kernel
theorem dX10_digestOutlook_29 : decode cX10_digestOutlook 29 = .ok (.lmul, 1) := by decide +kernel
theorem dX10_digestOutlook_30 : decode cX10_digestOutlook 30 = .ok (.aload_n 0, 1) := by decide +kernel
theorem dX10_digestOutlook_31 : decode cX10_digestOutlook 31 = .ok (.iload 5, 2) := by decide +kernel
theorem dX10_digestOutlook_33 : decode cX10_digestOutlook 33 = .ok (.invokevirtual 255, 3) := by decide +kernel
theorem dX10_digestOutlook_36 : decode cX10_digestOutlook 36 = .ok (.i2l, 1) := by decide +kernel
theorem dX10_digestOutlook_37 : decode cX10_digestOutlook 37 = .ok (.ladd, 1) := by decide +kernel
theorem dX10_digestOutlook_38 : decode cX10_digestOutlook 38 = .ok (.lstore_n 3, 1) := by decide +kernel
theorem dX10_digestOutlook_39 : decode cX10_digestOutlook 39 = .ok (.ldc2_w 236, 3) := by decide +kernel
theorem dX10_digestOutlook_42 : decode cX10_digestOutlook 42 = .ok (.lload_n 3, 1) := by decide +kernel
theorem dX10_digestOutlook_43 : decode cX10_digestOutlook 43 = .ok (.lmul, 1) := by decide +kernel
theorem dX10_digestOutlook_44 : decode cX10_digestOutlook 44 = .ok (.aload_n 0, 1) := by decide +kernel
theorem dX10_digestOutlook_45 : decode cX10_digestOutlook 45 = .ok (.iload 5, 2) := by decide +kernel
theorem dX10_digestOutlook_47 : decode cX10_digestOutlook 47 = .ok (.invokevirtual 258, 3) := by decide +kernel
theorem dX10_digestOutlook_50 : decode cX10_digestOutlook 50 = .ok (.i2l, 1) := by decide +kernel
theorem dX10_digestOutlook_51 : decode cX10_digestOutlook 51 = .ok (.ladd, 1) := by decide +kernel
theorem dX10_digestOutlook_52 : decode cX10_digestOutlook 52 = .ok (.lstore_n 3, 1) := by decide +kernel
theorem dX10_digestOutlook_53 : decode cX10_digestOutlook 53 = .ok (.ldc2_w 236, 3) := by decide +kernel
theorem dX10_digestOutlook_56 : decode cX10_digestOutlook 56 = .ok (.lload_n 3, 1) := by decide +kernel
theorem dX10_digestOutlook_57 : decode cX10_digestOutlook 57 = .ok (.lmul, 1) := by decide +kernel
theorem dX10_digestOutlook_58 : decode cX10_digestOutlook 58 = .ok (.aload_n 0, 1) := by decide +kernel
theorem dX10_digestOutlook_59 : decode cX10_digestOutlook 59 = .ok (.iload 5, 2) := by decide +kernel
theorem dX10_digestOutlook_61 : decode cX10_digestOutlook 61 = .ok (.invokevirtual 261, 3) := by decide +kernel
theorem dX10_digestOutlook_64 : decode cX10_digestOutlook 64 = .ok (.i2l, 1) := by decide +kernel
theorem dX10_digestOutlook_65 : decode cX10_digestOutlook 65 = .ok (.ladd, 1) := by decide +kernel
theorem dX10_digestOutlook_66 : decode cX10_digestOutlook 66 = .ok (.lstore_n 3, 1) := by decide +kernel
theorem dX10_digestOutlook_67 : decode cX10_digestOutlook 67 = .ok (.iinc 5 1, 3) := by decide +kernel
theorem dX10_digestOutlook_70 : decode cX10_digestOutlook 70 = .ok (.goto (-65), 3) := by decide +kernel
theorem dX10_digestOutlook_73 : decode cX10_digestOutlook 73 = .ok (.ldc2_w 236, 3) := by decide +kernel
theorem dX10_digestOutlook_76 : decode cX10_digestOutlook 76 = .ok (.lload_n 3, 1) := by decide +kernel
theorem dX10_digestOutlook_77 : decode cX10_digestOutlook 77 = .ok (.lmul, 1) := by decide +kernel
theorem dX10_digestOutlook_78 : decode cX10_digestOutlook 78 = .ok (.aload_n 0, 1) := by decide +kernel
theorem dX10_digestOutlook_79 : decode cX10_digestOutlook 79 = .ok (.invokevirtual 264, 3) := by decide +kernel
theorem dX10_digestOutlook_82 : decode cX10_digestOutlook 82 = .ok (.i2l, 1) := by decide +kernel
theorem dX10_digestOutlook_83 : decode cX10_digestOutlook 83 = .ok (.ladd, 1) := by decide +kernel
theorem dX10_digestOutlook_84 : decode cX10_digestOutlook 84 = .ok (.lstore_n 3, 1) := by decide +kernel
theorem dX10_digestOutlook_85 : decode cX10_digestOutlook 85 = .ok (.iconst 0, 1) := by decide +kernel
theorem dX10_digestOutlook_86 : decode cX10_digestOutlook 86 = .ok (.istore 5, 2) := by decide +kernel
theorem dX10_digestOutlook_88 : decode cX10_digestOutlook 88 = .ok (.iload 5, 2) := by decide +kernel
theorem dX10_digestOutlook_90 : decode cX10_digestOutlook 90 = .ok (.aload_n 0, 1) := by decide +kernel
theorem dX10_digestOutlook_91 : decode cX10_digestOutlook 91 = .ok (.getfield 19, 3) := by decide +kernel
theorem dX10_digestOutlook_94 : decode cX10_digestOutlook 94 = .ok (.getfield 117, 3) := by decide +kernel
theorem dX10_digestOutlook_97 : decode cX10_digestOutlook 97 = .ok (.if_icmp .ge 37, 3) := by decide +kernel
theorem dX10_digestOutlook_100 : decode cX10_digestOutlook 100 = .ok (.aload_n 0, 1) := by decide +kernel
theorem dX10_digestOutlook_101 : decode cX10_digestOutlook 101 = .ok (.getfield 19, 3) := by decide +kernel
theorem dX10_digestOutlook_104 : decode cX10_digestOutlook 104 = .ok (.getfield 132, 3) := by decide +kernel
theorem dX10_digestOutlook_107 : decode cX10_digestOutlook 107 = .ok (.iload 5, 2) := by decide +kernel
theorem dX10_digestOutlook_109 : decode cX10_digestOutlook 109 = .ok (.iaload, 1) := by decide +kernel
theorem dX10_digestOutlook_110 : decode cX10_digestOutlook 110 = .ok (.iconst (-1), 1) := by decide +kernel
theorem dX10_digestOutlook_111 : decode cX10_digestOutlook 111 = .ok (.if_icmp .ne 17, 3) := by decide +kernel
theorem dX10_digestOutlook_114 : decode cX10_digestOutlook 114 = .ok (.ldc2_w 236, 3) := by decide +kernel
theorem dX10_digestOutlook_117 : decode cX10_digestOutlook 117 = .ok (.lload_n 3, 1) := by decide +kernel
theorem dX10_digestOutlook_118 : decode cX10_digestOutlook 118 = .ok (.lmul, 1) := by decide +kernel
theorem dX10_digestOutlook_119 : decode cX10_digestOutlook 119 = .ok (.aload_n 0, 1) := by decide +kernel
theorem dX10_digestOutlook_120 : decode cX10_digestOutlook 120 = .ok (.iload 5, 2) := by decide +kernel
theorem dX10_digestOutlook_122 : decode cX10_digestOutlook 122 = .ok (.invokevirtual 267, 3) := by decide +kernel
theorem dX10_digestOutlook_125 : decode cX10_digestOutlook 125 = .ok (.i2l, 1) := by decide +kernel
theorem dX10_digestOutlook_126 : decode cX10_digestOutlook 126 = .ok (.ladd, 1) := by decide +kernel
theorem dX10_digestOutlook_127 : decode cX10_digestOutlook 127 = .ok (.lstore_n 3, 1) := by decide +kernel
theorem dX10_digestOutlook_128 : decode cX10_digestOutlook 128 = .ok (.iinc 5 1, 3) := by decide +kernel
theorem dX10_digestOutlook_131 : decode cX10_digestOutlook 131 = .ok (.goto (-43), 3) := by decide +kernel
theorem dX10_digestOutlook_134 : decode cX10_digestOutlook 134 = .ok (.lload_n 3, 1) := by decide +kernel
theorem dX10_digestOutlook_135 : decode cX10_digestOutlook 135 = .ok (.lreturn, 1) := by decide +kernel
theorem dX10_hasNoHedge_0 : decode cX10_hasNoHedge 0 = .ok (.aload_n 0, 1) := by decide +kernel
theorem dX10_hasNoHedge_1 : decode cX10_hasNoHedge 1 = .ok (.getfield 19, 3) := by decide +kernel
theorem dX10_hasNoHedge_4 : decode cX10_hasNoHedge 4 = .ok (.getfield 117, 3) := by decide +kernel
theorem dX10_hasNoHedge_7 : decode cX10_hasNoHedge 7 = .ok (.ifCond .ne 7, 3) := by decide +kernel
theorem dX10_hasNoHedge_10 : decode cX10_hasNoHedge 10 = .ok (.iconst 1, 1) := by decide +kernel
theorem dX10_hasNoHedge_11 : decode cX10_hasNoHedge 11 = .ok (.goto 4, 3) := by decide +kernel
theorem dX10_hasNoHedge_14 : decode cX10_hasNoHedge 14 = .ok (.iconst 0, 1) := by decide +kernel
theorem dX10_hasNoHedge_15 : decode cX10_hasNoHedge 15 = .ok (.ireturn, 1) := by decide +kernel
theorem dX10_isUnknown_0 : decode cX10_isUnknown 0 = .ok (.iload_n 1, 1) := by decide +kernel
theorem dX10_isUnknown_1 : decode cX10_isUnknown 1 = .ok (.ifCond .lt 14, 3) := by decide +kernel
theorem dX10_isUnknown_4 : decode cX10_isUnknown 4 = .ok (.iload_n 1, 1) := by decide +kernel
theorem dX10_isUnknown_5 : decode cX10_isUnknown 5 = .ok (.aload_n 0, 1) := by decide +kernel
theorem dX10_isUnknown_6 : decode cX10_isUnknown 6 = .ok (.getfield 19, 3) := by decide +kernel
theorem dX10_isUnknown_9 : decode cX10_isUnknown 9 = .ok (.getfield 117, 3) := by decide +kernel
theorem dX10_isUnknown_12 : decode cX10_isUnknown 12 = .ok (.if_icmp .lt 7, 3) := by decide +kernel
theorem dX10_isUnknown_15 : decode cX10_isUnknown 15 = .ok (.iconst 1, 1) := by decide +kernel
theorem dX10_isUnknown_16 : decode cX10_isUnknown 16 = .ok (.goto 4, 3) := by decide +kernel
theorem dX10_isUnknown_19 : decode cX10_isUnknown 19 = .ok (.iconst 0, 1) := by decide +kernel
theorem dX10_isUnknown_20 : decode cX10_isUnknown 20 = .ok (.ireturn, 1) := by decide +kernel
theorem dX10_isNoSide_0 : decode cX10_isNoSide 0 = .ok (.iload_n 0, 1) := by decide +kernel
theorem dX10_isNoSide_1 : decode cX10_isNoSide 1 = .ok (.ifCond .eq 12, 3) := by decide +kernel
theorem dX10_isNoSide_4 : decode cX10_isNoSide 4 = .ok (.iload_n 0, 1) := by decide +kernel
theorem dX10_isNoSide_5 : decode cX10_isNoSide 5 = .ok (.iconst 1, 1) := by decide +kernel
theorem dX10_isNoSide_6 : decode cX10_isNoSide 6 = .ok (.if_icmp .eq 7, 3) := by decide +kernel
theorem dX10_isNoSide_9 : decode cX10_isNoSide 9 = .ok (.iconst 1, 1) := by decide +kernel
theorem dX10_isNoSide_10 : decode cX10_isNoSide 10 = .ok (.goto 4, 3) := by decide +kernel
theorem dX10_isNoSide_13 : decode cX10_isNoSide 13 = .ok (.iconst 0, 1) := by decide +kernel
theorem dX10_isNoSide_14 : decode cX10_isNoSide 14 = .ok (.ireturn, 1) := by decide +kernel
set_option maxRecDepth 20000 in
theorem ggX10_chart_X6_choices : GoodIn wsX10_chart wsX6_choices := goodIn_r _ [12, 13, 14, 15, 16, 17, 11, 18, 116, 117, 111, 112, 113, 114, 115, 118, 119, 120, 121, 122] (by decide +kernel) (by decide +kernel)
set_option maxRecDepth 20000 in
theorem gX10_chart_X6_choices : GoodIn wsX10_chart (wsV RX10 138 RX6 yX6_choices wsX6_choices) := goodIn_app (goodIn_of _ (by decide +kernel)) ggX10_chart_X6_choices
set_option maxRecDepth 20000 in
theorem ggX10_chart_X4_enter : GoodIn wsX10_chart wsX4_enter := goodIn_r _ [23, 24, 25, 26, 27, 28, 29, 11, 30, 13, 31, 32, 33, 34, 35, 36, 22, 37, 38, 39, 40, 16, 17, 18, 123, 124, 116, 117, 111, 112, 113, 114, 115, 118, 119, 120, 121, 122] (by decide +kernel) (by decide +kernel)
set_option maxRecDepth 20000 in
theorem gX10_chart_X4_enter : GoodIn wsX10_chart (wsV RX10 276 RX4 yX4_enter wsX4_enter) := goodIn_app (goodIn_of _ (by decide +kernel)) ggX10_chart_X4_enter
set_option maxRecDepth 20000 in
theorem ggX10_chart_X1_enter : GoodIn wsX10_chart wsX1_enter := goodIn_r _ [45, 46, 47, 48, 49, 50, 51, 52, 53, 54, 55, 56, 57, 58, 22, 59, 25, 60, 31, 32, 33, 61, 28, 29, 11, 30, 13, 125, 126, 127, 116, 117, 111, 112, 113, 114, 115, 123, 124] (by decide +kernel) (by decide +kernel)
set_option maxRecDepth 20000 in
theorem gX10_chart_X1_enter : GoodIn wsX10_chart (wsV RX10 280 RX1 yX1_enter wsX1_enter) := goodIn_app (goodIn_of _ (by decide +kernel)) ggX10_chart_X1_enter
set_option maxRecDepth 20000 in
theorem ggX10_chart_X9_enter : GoodIn wsX10_chart wsX9_enter := goodIn_r _ [66, 67, 68, 69, 70, 65, 71, 72, 73, 74, 75, 50, 51, 52, 76, 54, 55, 77, 28, 29, 11, 30, 13, 78, 79, 80, 128, 129, 116, 117, 111, 112, 113, 114, 115] (by decide +kernel) (by decide +kernel)
set_option maxRecDepth 20000 in
theorem gX10_chart_X9_enter : GoodIn wsX10_chart (wsV RX10 282 RX9 yX9_enter wsX9_enter) := goodIn_app (goodIn_of _ (by decide +kernel)) ggX10_chart_X9_enter
set_option maxRecDepth 20000 in
theorem ggX10_chart_X0_enter : GoodIn wsX10_chart wsX0_enter := goodIn_r _ [85, 86, 87, 88, 89, 90, 91, 92, 93, 94, 95, 31, 32, 33, 96, 28, 29, 11, 30, 13, 130, 131, 116, 117, 111, 112, 113, 114, 115] (by decide +kernel) (by decide +kernel)
set_option maxRecDepth 20000 in
theorem gX10_chart_X0_enter : GoodIn wsX10_chart (wsV RX10 283 RX0 yX0_enter wsX0_enter) := goodIn_app (goodIn_of _ (by decide +kernel)) ggX10_chart_X0_enter
theorem dX10_chart_0 : decode cX10_chart 0 = .ok (.aload_n 0, 1) := by decide +kernel
theorem dX10_chart_1 : decode cX10_chart 1 = .ok (.getfield 81, 3) := by decide +kernel
theorem dX10_chart_4 : decode cX10_chart 4 = .ok (.ifCond .eq 4, 3) := by decide +kernel
theorem dX10_chart_7 : decode cX10_chart 7 = .ok (.return_, 1) := by decide +kernel
theorem dX10_chart_8 : decode cX10_chart 8 = .ok (.iconst 0, 1) := by decide +kernel
theorem dX10_chart_9 : decode cX10_chart 9 = .ok (.istore_n 1, 1) := by decide +kernel
theorem dX10_chart_10 : decode cX10_chart 10 = .ok (.iload_n 1, 1) := by decide +kernel
theorem dX10_chart_11 : decode cX10_chart 11 = .ok (.aload_n 0, 1) := by decide +kernel
theorem dX10_chart_12 : decode cX10_chart 12 = .ok (.getfield 19, 3) := by decide +kernel
theorem dX10_chart_15 : decode cX10_chart 15 = .ok (.getfield 270, 3) := by decide +kernel
theorem dX10_chart_18 : decode cX10_chart 18 = .ok (.if_icmp .ge 111, 3) := by decide +kernel
theorem dX10_chart_21 : decode cX10_chart 21 = .ok (.aload_n 0, 1) := by decide +kernel
theorem dX10_chart_22 : decode cX10_chart 22 = .ok (.getfield 19, 3) := by decide +kernel
theorem dX10_chart_25 : decode cX10_chart 25 = .ok (.getfield 273, 3) := by decide +kernel
theorem dX10_chart_28 : decode cX10_chart 28 = .ok (.iload_n 1, 1) := by decide +kernel
theorem dX10_chart_29 : decode cX10_chart 29 = .ok (.iaload, 1) := by decide +kernel
theorem dX10_chart_30 : decode cX10_chart 30 = .ok (.istore_n 2, 1) := by decide +kernel
theorem dX10_chart_31 : decode cX10_chart 31 = .ok (.aload_n 0, 1) := by decide +kernel
theorem dX10_chart_32 : decode cX10_chart 32 = .ok (.getfield 38, 3) := by decide +kernel
theorem dX10_chart_35 : decode cX10_chart 35 = .ok (.iconst 0, 1) := by decide +kernel
theorem dX10_chart_36 : decode cX10_chart 36 = .ok (.iload_n 2, 1) := by decide +kernel
theorem dX10_chart_37 : decode cX10_chart 37 = .ok (.invokevirtual 138, 3) := by decide +kernel
theorem dX10_chart_40 : decode cX10_chart 40 = .ok (.istore_n 3, 1) := by decide +kernel
theorem dX10_chart_41 : decode cX10_chart 41 = .ok (.aload_n 0, 1) := by decide +kernel
theorem dX10_chart_42 : decode cX10_chart 42 = .ok (.getfield 38, 3) := by decide +kernel
theorem dX10_chart_45 : decode cX10_chart 45 = .ok (.iconst 1, 1) := by decide +kernel
theorem dX10_chart_46 : decode cX10_chart 46 = .ok (.iload_n 2, 1) := by decide +kernel
theorem dX10_chart_47 : decode cX10_chart 47 = .ok (.invokevirtual 138, 3) := by decide +kernel
theorem dX10_chart_50 : decode cX10_chart 50 = .ok (.istore 4, 2) := by decide +kernel
theorem dX10_chart_52 : decode cX10_chart 52 = .ok (.aload_n 0, 1) := by decide +kernel
theorem dX10_chart_53 : decode cX10_chart 53 = .ok (.getfield 47, 3) := by decide +kernel
theorem dX10_chart_56 : decode cX10_chart 56 = .ok (.iconst 0, 1) := by decide +kernel
theorem dX10_chart_57 : decode cX10_chart 57 = .ok (.iload_n 2, 1) := by decide +kernel
theorem dX10_chart_58 : decode cX10_chart 58 = .ok (.invokevirtual 276, 3) := by decide +kernel
theorem dX10_chart_61 : decode cX10_chart 61 = .ok (.aload_n 0, 1) := by decide +kernel
theorem dX10_chart_62 : decode cX10_chart 62 = .ok (.getfield 47, 3) := by decide +kernel
theorem dX10_chart_65 : decode cX10_chart 65 = .ok (.iconst 1, 1) := by decide +kernel
theorem dX10_chart_66 : decode cX10_chart 66 = .ok (.iload_n 2, 1) := by decide +kernel
theorem dX10_chart_67 : decode cX10_chart 67 = .ok (.invokevirtual 276, 3) := by decide +kernel
theorem dX10_chart_70 : decode cX10_chart 70 = .ok (.aload_n 0, 1) := by decide +kernel
theorem dX10_chart_71 : decode cX10_chart 71 = .ok (.getfield 56, 3) := by decide +kernel
theorem dX10_chart_74 : decode cX10_chart 74 = .ok (.iconst 0, 1) := by decide +kernel
theorem dX10_chart_75 : decode cX10_chart 75 = .ok (.iload_n 2, 1) := by decide +kernel
theorem dX10_chart_76 : decode cX10_chart 76 = .ok (.iload_n 3, 1) := by decide +kernel
theorem dX10_chart_77 : decode cX10_chart 77 = .ok (.invokevirtual 280, 3) := by decide +kernel
theorem dX10_chart_80 : decode cX10_chart 80 = .ok (.aload_n 0, 1) := by decide +kernel
theorem dX10_chart_81 : decode cX10_chart 81 = .ok (.getfield 56, 3) := by decide +kernel
theorem dX10_chart_84 : decode cX10_chart 84 = .ok (.iconst 1, 1) := by decide +kernel
theorem dX10_chart_85 : decode cX10_chart 85 = .ok (.iload_n 2, 1) := by decide +kernel
theorem dX10_chart_86 : decode cX10_chart 86 = .ok (.iload 4, 2) := by decide +kernel
theorem dX10_chart_88 : decode cX10_chart 88 = .ok (.invokevirtual 280, 3) := by decide +kernel
theorem dX10_chart_91 : decode cX10_chart 91 = .ok (.aload_n 0, 1) := by decide +kernel
theorem dX10_chart_92 : decode cX10_chart 92 = .ok (.getfield 63, 3) := by decide +kernel
theorem dX10_chart_95 : decode cX10_chart 95 = .ok (.iload_n 2, 1) := by decide +kernel
theorem dX10_chart_96 : decode cX10_chart 96 = .ok (.iload_n 3, 1) := by decide +kernel
theorem dX10_chart_97 : decode cX10_chart 97 = .ok (.iload 4, 2) := by decide +kernel
theorem dX10_chart_99 : decode cX10_chart 99 = .ok (.invokevirtual 282, 3) := by decide +kernel
theorem dX10_chart_102 : decode cX10_chart 102 = .ok (.aload_n 0, 1) := by decide +kernel
theorem dX10_chart_103 : decode cX10_chart 103 = .ok (.getfield 70, 3) := by decide +kernel
theorem dX10_chart_106 : decode cX10_chart 106 = .ok (.iconst 0, 1) := by decide +kernel
theorem dX10_chart_107 : decode cX10_chart 107 = .ok (.iload_n 2, 1) := by decide +kernel
theorem dX10_chart_108 : decode cX10_chart 108 = .ok (.iload_n 3, 1) := by decide +kernel
theorem dX10_chart_109 : decode cX10_chart 109 = .ok (.invokevirtual 283, 3) := by decide +kernel
theorem dX10_chart_112 : decode cX10_chart 112 = .ok (.aload_n 0, 1) := by decide +kernel
theorem dX10_chart_113 : decode cX10_chart 113 = .ok (.getfield 70, 3) := by decide +kernel
theorem dX10_chart_116 : decode cX10_chart 116 = .ok (.iconst 1, 1) := by decide +kernel
theorem dX10_chart_117 : decode cX10_chart 117 = .ok (.iload_n 2, 1) := by decide +kernel
theorem dX10_chart_118 : decode cX10_chart 118 = .ok (.iload 4, 2) := by decide +kernel
theorem dX10_chart_120 : decode cX10_chart 120 = .ok (.invokevirtual 283, 3) := by decide +kernel
theorem dX10_chart_123 : decode cX10_chart 123 = .ok (.iinc 1 1, 3) := by decide +kernel
theorem dX10_chart_126 : decode cX10_chart 126 = .ok (.goto (-116), 3) := by decide +kernel
theorem dX10_chart_129 : decode cX10_chart 129 = .ok (.aload_n 0, 1) := by decide +kernel
theorem dX10_chart_130 : decode cX10_chart 130 = .ok (.iconst 1, 1) := by decide +kernel
theorem dX10_chart_131 : decode cX10_chart 131 = .ok (.putfield 81, 3) := by decide +kernel
theorem dX10_chart_134 : decode cX10_chart 134 = .ok (.return_, 1) := by decide +kernel
theorem dX10_place_0 : decode cX10_place 0 = .ok (.iload_n 0, 1) := by decide +kernel
theorem dX10_place_1 : decode cX10_place 1 = .ok (.sipush 256, 3) := by decide +kernel
theorem dX10_place_4 : decode cX10_place 4 = .ok (.imul, 1) := by decide +kernel
theorem dX10_place_5 : decode cX10_place 5 = .ok (.iload_n 1, 1) := by decide +kernel
theorem dX10_place_6 : decode cX10_place 6 = .ok (.iadd, 1) := by decide +kernel
theorem dX10_place_7 : decode cX10_place 7 = .ok (.ireturn, 1) := by decide +kernel
set_option maxRecDepth 20000 in
theorem ggX10_evenBy_X4_isWonBy : GoodIn wsX10_evenBy wsX4_isWonBy := goodIn_r _ [8, 9, 10, 11, 12, 13, 42, 43] (by decide +kernel) (by decide +kernel)
set_option maxRecDepth 20000 in
theorem gX10_evenBy_X4_isWonBy : GoodIn wsX10_evenBy (wsV RX10 182 RX4 yX4_isWonBy wsX4_isWonBy) := goodIn_app (goodIn_of _ (by decide +kernel)) ggX10_evenBy_X4_isWonBy
set_option maxRecDepth 20000 in
theorem ggX10_evenBy_X4_winningKinds : GoodIn wsX10_evenBy wsX4_winningKinds := goodIn_r _ [17, 9, 11, 12, 13, 42, 43] (by decide +kernel) (by decide +kernel)
set_option maxRecDepth 20000 in
theorem gX10_evenBy_X4_winningKinds : GoodIn wsX10_evenBy (wsV RX10 284 RX4 yX4_winningKinds wsX4_winningKinds) := goodIn_app (goodIn_of _ (by decide +kernel)) ggX10_evenBy_X4_winningKinds
theorem dX10_evenBy_0 : decode cX10_evenBy 0 = .ok (.aload_n 0, 1) := by decide +kernel
theorem dX10_evenBy_1 : decode cX10_evenBy 1 = .ok (.getfield 26, 3) := by decide +kernel
theorem dX10_evenBy_4 : decode cX10_evenBy 4 = .ok (.getfield 135, 3) := by decide +kernel
theorem dX10_evenBy_7 : decode cX10_evenBy 7 = .ok (.istore_n 1, 1) := by decide +kernel
theorem dX10_evenBy_8 : decode cX10_evenBy 8 = .ok (.aload_n 0, 1) := by decide +kernel
theorem dX10_evenBy_9 : decode cX10_evenBy 9 = .ok (.getfield 47, 3) := by decide +kernel
theorem dX10_evenBy_12 : decode cX10_evenBy 12 = .ok (.iconst 0, 1) := by decide +kernel
theorem dX10_evenBy_13 : decode cX10_evenBy 13 = .ok (.iload_n 1, 1) := by decide +kernel
theorem dX10_evenBy_14 : decode cX10_evenBy 14 = .ok (.invokevirtual 182, 3) := by decide +kernel
theorem dX10_evenBy_17 : decode cX10_evenBy 17 = .ok (.ifCond .ne 18, 3) := by decide +kernel
theorem dX10_evenBy_20 : decode cX10_evenBy 20 = .ok (.aload_n 0, 1) := by decide +kernel
theorem dX10_evenBy_21 : decode cX10_evenBy 21 = .ok (.getfield 47, 3) := by decide +kernel
theorem dX10_evenBy_24 : decode cX10_evenBy 24 = .ok (.iconst 1, 1) := by decide +kernel
theorem dX10_evenBy_25 : decode cX10_evenBy 25 = .ok (.iload_n 1, 1) := by decide +kernel
theorem dX10_evenBy_26 : decode cX10_evenBy 26 = .ok (.invokevirtual 182, 3) := by decide +kernel
theorem dX10_evenBy_29 : decode cX10_evenBy 29 = .ok (.ifCond .ne 6, 3) := by decide +kernel
theorem dX10_evenBy_32 : decode cX10_evenBy 32 = .ok (.bipush (-2), 2) := by decide +kernel
theorem dX10_evenBy_34 : decode cX10_evenBy 34 = .ok (.ireturn, 1) := by decide +kernel
theorem dX10_evenBy_35 : decode cX10_evenBy 35 = .ok (.iconst 0, 1) := by decide +kernel
theorem dX10_evenBy_36 : decode cX10_evenBy 36 = .ok (.istore_n 2, 1) := by decide +kernel
theorem dX10_evenBy_37 : decode cX10_evenBy 37 = .ok (.iload_n 2, 1) := by decide +kernel
theorem dX10_evenBy_38 : decode cX10_evenBy 38 = .ok (.aload_n 0, 1) := by decide +kernel
theorem dX10_evenBy_39 : decode cX10_evenBy 39 = .ok (.getfield 19, 3) := by decide +kernel
theorem dX10_evenBy_42 : decode cX10_evenBy 42 = .ok (.getfield 117, 3) := by decide +kernel
theorem dX10_evenBy_45 : decode cX10_evenBy 45 = .ok (.if_icmp .ge 63, 3) := by decide +kernel
theorem dX10_evenBy_48 : decode cX10_evenBy 48 = .ok (.aload_n 0, 1) := by decide +kernel
theorem dX10_evenBy_49 : decode cX10_evenBy 49 = .ok (.getfield 47, 3) := by decide +kernel
theorem dX10_evenBy_52 : decode cX10_evenBy 52 = .ok (.iconst 0, 1) := by decide +kernel
theorem dX10_evenBy_53 : decode cX10_evenBy 53 = .ok (.iload_n 2, 1) := by decide +kernel
theorem dX10_evenBy_54 : decode cX10_evenBy 54 = .ok (.iload_n 1, 1) := by decide +kernel
theorem dX10_evenBy_55 : decode cX10_evenBy 55 = .ok (.invokevirtual 284, 3) := by decide +kernel
theorem dX10_evenBy_58 : decode cX10_evenBy 58 = .ok (.aload_n 0, 1) := by decide +kernel
theorem dX10_evenBy_59 : decode cX10_evenBy 59 = .ok (.getfield 47, 3) := by decide +kernel
theorem dX10_evenBy_62 : decode cX10_evenBy 62 = .ok (.iconst 1, 1) := by decide +kernel
theorem dX10_evenBy_63 : decode cX10_evenBy 63 = .ok (.iload_n 2, 1) := by decide +kernel
theorem dX10_evenBy_64 : decode cX10_evenBy 64 = .ok (.iload_n 1, 1) := by decide +kernel
theorem dX10_evenBy_65 : decode cX10_evenBy 65 = .ok (.invokevirtual 284, 3) := by decide +kernel
theorem dX10_evenBy_68 : decode cX10_evenBy 68 = .ok (.ior, 1) := by decide +kernel
theorem dX10_evenBy_69 : decode cX10_evenBy 69 = .ok (.istore_n 3, 1) := by decide +kernel
theorem dX10_evenBy_70 : decode cX10_evenBy 70 = .ok (.iconst 0, 1) := by decide +kernel
theorem dX10_evenBy_71 : decode cX10_evenBy 71 = .ok (.istore 4, 2) := by decide +kernel
theorem dX10_evenBy_73 : decode cX10_evenBy 73 = .ok (.iload 4, 2) := by decide +kernel
theorem dX10_evenBy_75 : decode cX10_evenBy 75 = .ok (.iconst 5, 1) := by decide +kernel
theorem dX10_evenBy_76 : decode cX10_evenBy 76 = .ok (.if_icmp .ge 26, 3) := by decide +kernel
theorem dX10_evenBy_79 : decode cX10_evenBy 79 = .ok (.iload_n 3, 1) := by decide +kernel
theorem dX10_evenBy_80 : decode cX10_evenBy 80 = .ok (.iload 4, 2) := by decide +kernel
theorem dX10_evenBy_82 : decode cX10_evenBy 82 = .ok (.ishr, 1) := by decide +kernel
theorem dX10_evenBy_83 : decode cX10_evenBy 83 = .ok (.iconst 1, 1) := by decide +kernel
theorem dX10_evenBy_84 : decode cX10_evenBy 84 = .ok (.iand, 1) := by decide +kernel
theorem dX10_evenBy_85 : decode cX10_evenBy 85 = .ok (.ifCond .ne 11, 3) := by decide +kernel
theorem dX10_evenBy_88 : decode cX10_evenBy 88 = .ok (.bipush 10, 2) := by decide +kernel
theorem dX10_evenBy_90 : decode cX10_evenBy 90 = .ok (.iload_n 2, 1) := by decide +kernel
theorem dX10_evenBy_91 : decode cX10_evenBy 91 = .ok (.imul, 1) := by decide +kernel
theorem dX10_evenBy_92 : decode cX10_evenBy 92 = .ok (.iload 4, 2) := by decide +kernel
theorem dX10_evenBy_94 : decode cX10_evenBy 94 = .ok (.iadd, 1) := by decide +kernel
theorem dX10_evenBy_95 : decode cX10_evenBy 95 = .ok (.ireturn, 1) := by decide +kernel
theorem dX10_evenBy_96 : decode cX10_evenBy 96 = .ok (.iinc 4 1, 3) := by decide +kernel
theorem dX10_evenBy_99 : decode cX10_evenBy 99 = .ok (.goto (-26), 3) := by decide +kernel
theorem dX10_evenBy_102 : decode cX10_evenBy 102 = .ok (.iinc 2 1, 3) := by decide +kernel
theorem dX10_evenBy_105 : decode cX10_evenBy 105 = .ok (.goto (-68), 3) := by decide +kernel
theorem dX10_evenBy_108 : decode cX10_evenBy 108 = .ok (.iconst (-1), 1) := by decide +kernel
theorem dX10_evenBy_109 : decode cX10_evenBy 109 = .ok (.ireturn, 1) := by decide +kernel
set_option maxRecDepth 20000 in
theorem ggX10_sortsOf_X4_winningKinds : GoodIn wsX10_sortsOf wsX4_winningKinds := goodIn_r _ [7, 8, 9, 10, 11, 35, 36] (by decide +kernel) (by decide +kernel)
set_option maxRecDepth 20000 in
theorem gX10_sortsOf_X4_winningKinds : GoodIn wsX10_sortsOf (wsV RX10 284 RX4 yX4_winningKinds wsX4_winningKinds) := goodIn_app (goodIn_of _ (by decide +kernel)) ggX10_sortsOf_X4_winningKinds
theorem dX10_sortsOf_0 : decode cX10_sortsOf 0 = .ok (.bipush 31, 2) := by decide +kernel
theorem dX10_sortsOf_2 : decode cX10_sortsOf 2 = .ok (.istore_n 2, 1) := by decide +kernel
theorem dX10_sortsOf_3 : decode cX10_sortsOf 3 = .ok (.iconst 0, 1) := by decide +kernel
theorem dX10_sortsOf_4 : decode cX10_sortsOf 4 = .ok (.istore_n 3, 1) := by decide +kernel
theorem dX10_sortsOf_5 : decode cX10_sortsOf 5 = .ok (.iload_n 3, 1) := by decide +kernel
theorem dX10_sortsOf_6 : decode cX10_sortsOf 6 = .ok (.aload_n 0, 1) := by decide +kernel
theorem dX10_sortsOf_7 : decode cX10_sortsOf 7 = .ok (.getfield 26, 3) := by decide +kernel
theorem dX10_sortsOf_10 : decode cX10_sortsOf 10 = .ok (.getfield 203, 3) := by decide +kernel
theorem dX10_sortsOf_13 : decode cX10_sortsOf 13 = .ok (.getfield 207, 3) := by decide +kernel
theorem dX10_sortsOf_16 : decode cX10_sortsOf 16 = .ok (.if_icmp .ge 81, 3) := by decide +kernel
theorem dX10_sortsOf_19 : decode cX10_sortsOf 19 = .ok (.aload_n 0, 1) := by decide +kernel
theorem dX10_sortsOf_20 : decode cX10_sortsOf 20 = .ok (.getfield 26, 3) := by decide +kernel
theorem dX10_sortsOf_23 : decode cX10_sortsOf 23 = .ok (.getfield 203, 3) := by decide +kernel
theorem dX10_sortsOf_26 : decode cX10_sortsOf 26 = .ok (.getfield 288, 3) := by decide +kernel
theorem dX10_sortsOf_29 : decode cX10_sortsOf 29 = .ok (.iload_n 3, 1) := by decide +kernel
theorem dX10_sortsOf_30 : decode cX10_sortsOf 30 = .ok (.iaload, 1) := by decide +kernel
theorem dX10_sortsOf_31 : decode cX10_sortsOf 31 = .ok (.iload_n 1, 1) := by decide +kernel
theorem dX10_sortsOf_32 : decode cX10_sortsOf 32 = .ok (.if_icmp .ne 59, 3) := by decide +kernel
theorem dX10_sortsOf_35 : decode cX10_sortsOf 35 = .ok (.aload_n 0, 1) := by decide +kernel
theorem dX10_sortsOf_36 : decode cX10_sortsOf 36 = .ok (.getfield 47, 3) := by decide +kernel
theorem dX10_sortsOf_39 : decode cX10_sortsOf 39 = .ok (.aload_n 0, 1) := by decide +kernel
theorem dX10_sortsOf_40 : decode cX10_sortsOf 40 = .ok (.getfield 26, 3) := by decide +kernel
theorem dX10_sortsOf_43 : decode cX10_sortsOf 43 = .ok (.getfield 203, 3) := by decide +kernel
theorem dX10_sortsOf_46 : decode cX10_sortsOf 46 = .ok (.getfield 291, 3) := by decide +kernel
theorem dX10_sortsOf_49 : decode cX10_sortsOf 49 = .ok (.iload_n 3, 1) := by decide +kernel
theorem dX10_sortsOf_50 : decode cX10_sortsOf 50 = .ok (.iaload, 1) := by decide +kernel
theorem dX10_sortsOf_51 : decode cX10_sortsOf 51 = .ok (.iload_n 1, 1) := by decide +kernel
theorem dX10_sortsOf_52 : decode cX10_sortsOf 52 = .ok (.aload_n 0, 1) := by decide +kernel
theorem dX10_sortsOf_53 : decode cX10_sortsOf 53 = .ok (.getfield 26, 3) := by decide +kernel
theorem dX10_sortsOf_56 : decode cX10_sortsOf 56 = .ok (.getfield 135, 3) := by decide +kernel
theorem dX10_sortsOf_59 : decode cX10_sortsOf 59 = .ok (.invokevirtual 284, 3) := by decide +kernel
theorem dX10_sortsOf_62 : decode cX10_sortsOf 62 = .ok (.istore 4, 2) := by decide +kernel
theorem dX10_sortsOf_64 : decode cX10_sortsOf 64 = .ok (.iload_n 2, 1) := by decide +kernel
theorem dX10_sortsOf_65 : decode cX10_sortsOf 65 = .ok (.aload_n 0, 1) := by decide +kernel
theorem dX10_sortsOf_66 : decode cX10_sortsOf 66 = .ok (.getfield 26, 3) := by decide +kernel
theorem dX10_sortsOf_69 : decode cX10_sortsOf 69 = .ok (.getfield 203, 3) := by decide +kernel
theorem dX10_sortsOf_72 : decode cX10_sortsOf 72 = .ok (.getfield 294, 3) := by decide +kernel
theorem dX10_sortsOf_75 : decode cX10_sortsOf 75 = .ok (.iload_n 3, 1) := by decide +kernel
theorem dX10_sortsOf_76 : decode cX10_sortsOf 76 = .ok (.baload, 1) := by decide +kernel
theorem dX10_sortsOf_77 : decode cX10_sortsOf 77 = .ok (.ifCond .eq 8, 3) := by decide +kernel
theorem dX10_sortsOf_80 : decode cX10_sortsOf 80 = .ok (.iload 4, 2) := by decide +kernel
theorem dX10_sortsOf_82 : decode cX10_sortsOf 82 = .ok (.goto 7, 3) := by decide +kernel
theorem dX10_sortsOf_85 : decode cX10_sortsOf 85 = .ok (.iload 4, 2) := by decide +kernel
theorem dX10_sortsOf_87 : decode cX10_sortsOf 87 = .ok (.iconst (-1), 1) := by decide +kernel
theorem dX10_sortsOf_88 : decode cX10_sortsOf 88 = .ok (.ixor, 1) := by decide +kernel
theorem dX10_sortsOf_89 : decode cX10_sortsOf 89 = .ok (.iand, 1) := by decide +kernel
theorem dX10_sortsOf_90 : decode cX10_sortsOf 90 = .ok (.istore_n 2, 1) := by decide +kernel
theorem dX10_sortsOf_91 : decode cX10_sortsOf 91 = .ok (.iinc 3 1, 3) := by decide +kernel
theorem dX10_sortsOf_94 : decode cX10_sortsOf 94 = .ok (.goto (-89), 3) := by decide +kernel
theorem dX10_sortsOf_97 : decode cX10_sortsOf 97 = .ok (.iload_n 2, 1) := by decide +kernel
theorem dX10_sortsOf_98 : decode cX10_sortsOf 98 = .ok (.ireturn, 1) := by decide +kernel
set_option maxRecDepth 20000 in
theorem ggX10_whomToLetBegin_X10_sortsOf : GoodIn wsX10_whomToLetBegin wsX10_sortsOf := goodIn_r _ [7, 2, 1, 8, 9, 10, 11, 12, 13, 14, 6, 15, 30, 31, 32, 33, 34, 35, 36, 37, 38, 39, 40, 41, 42, 43, 44, 45, 46, 47, 48, 49, 50, 51, 52, 53, 54] (by decide +kernel) (by decide +kernel)
set_option maxRecDepth 20000 in
theorem gX10_whomToLetBegin_X10_sortsOf : GoodIn wsX10_whomToLetBegin (wsV RX10 148 RX10 yX10_sortsOf wsX10_sortsOf) := goodIn_app (goodIn_of _ (by decide +kernel)) ggX10_whomToLetBegin_X10_sortsOf
set_option maxRecDepth 20000 in
theorem ggX10_whomToLetBegin_X4_winningKinds : GoodIn wsX10_whomToLetBegin wsX4_winningKinds := goodIn_r _ [12, 13, 14, 6, 15, 53, 54] (by decide +kernel) (by decide +kernel)
set_option maxRecDepth 20000 in
theorem gX10_whomToLetBegin_X4_winningKinds : GoodIn wsX10_whomToLetBegin (wsV RX10 284 RX4 yX4_winningKinds wsX4_winningKinds) := goodIn_app (goodIn_of _ (by decide +kernel)) ggX10_whomToLetBegin_X4_winningKinds
set_option maxRecDepth 20000 in
theorem ggX10_whomToLetBegin_X10_mostLeft : GoodIn wsX10_whomToLetBegin wsX10_mostLeft := goodIn_r _ [18, 19, 20, 21, 22, 23, 24, 25, 26, 27, 28, 29] (by decide +kernel) (by decide +kernel)
set_option maxRecDepth 20000 in
theorem gX10_whomToLetBegin_X10_mostLeft : GoodIn wsX10_whomToLetBegin (va_wsS RX10 298 yX10_mostLeft wsX10_mostLeft) := goodIn_app (goodIn_of _ (by decide +kernel)) ggX10_whomToLetBegin_X10_mostLeft
theorem dX10_whomToLetBegin_0 : decode cX10_whomToLetBegin 0 = .ok (.aload_n 0, 1) := by decide +kernel
theorem dX10_whomToLetBegin_1 : decode cX10_whomToLetBegin 1 = .ok (.iload_n 1, 1) := by decide +kernel
theorem dX10_whomToLetBegin_2 : decode cX10_whomToLetBegin 2 = .ok (.invokevirtual 148, 3) := by decide +kernel
theorem dX10_whomToLetBegin_5 : decode cX10_whomToLetBegin 5 = .ok (.istore_n 2, 1) := by decide +kernel
theorem dX10_whomToLetBegin_6 : decode cX10_whomToLetBegin 6 = .ok (.iload_n 2, 1) := by decide +kernel
theorem dX10_whomToLetBegin_7 : decode cX10_whomToLetBegin 7 = .ok (.ifCond .ne 5, 3) := by decide +kernel
theorem dX10_whomToLetBegin_10 : decode cX10_whomToLetBegin 10 = .ok (.iconst (-1), 1) := by decide +kernel
theorem dX10_whomToLetBegin_11 : decode cX10_whomToLetBegin 11 = .ok (.ireturn, 1) := by decide +kernel
theorem dX10_whomToLetBegin_12 : decode cX10_whomToLetBegin 12 = .ok (.iload_n 2, 1) := by decide +kernel
theorem dX10_whomToLetBegin_13 : decode cX10_whomToLetBegin 13 = .ok (.aload_n 0, 1) := by decide +kernel
theorem dX10_whomToLetBegin_14 : decode cX10_whomToLetBegin 14 = .ok (.getfield 47, 3) := by decide +kernel
theorem dX10_whomToLetBegin_17 : decode cX10_whomToLetBegin 17 = .ok (.iconst 0, 1) := by decide +kernel
theorem dX10_whomToLetBegin_18 : decode cX10_whomToLetBegin 18 = .ok (.iload_n 1, 1) := by decide +kernel
theorem dX10_whomToLetBegin_19 : decode cX10_whomToLetBegin 19 = .ok (.aload_n 0, 1) := by decide +kernel
theorem dX10_whomToLetBegin_20 : decode cX10_whomToLetBegin 20 = .ok (.getfield 26, 3) := by decide +kernel
theorem dX10_whomToLetBegin_23 : decode cX10_whomToLetBegin 23 = .ok (.getfield 135, 3) := by decide +kernel
theorem dX10_whomToLetBegin_26 : decode cX10_whomToLetBegin 26 = .ok (.invokevirtual 284, 3) := by decide +kernel
theorem dX10_whomToLetBegin_29 : decode cX10_whomToLetBegin 29 = .ok (.invokestatic 298, 3) := by decide +kernel
theorem dX10_whomToLetBegin_32 : decode cX10_whomToLetBegin 32 = .ok (.istore_n 3, 1) := by decide +kernel
theorem dX10_whomToLetBegin_33 : decode cX10_whomToLetBegin 33 = .ok (.iload_n 2, 1) := by decide +kernel
theorem dX10_whomToLetBegin_34 : decode cX10_whomToLetBegin 34 = .ok (.aload_n 0, 1) := by decide +kernel
theorem dX10_whomToLetBegin_35 : decode cX10_whomToLetBegin 35 = .ok (.getfield 47, 3) := by decide +kernel
theorem dX10_whomToLetBegin_38 : decode cX10_whomToLetBegin 38 = .ok (.iconst 1, 1) := by decide +kernel
theorem dX10_whomToLetBegin_39 : decode cX10_whomToLetBegin 39 = .ok (.iload_n 1, 1) := by decide +kernel
theorem dX10_whomToLetBegin_40 : decode cX10_whomToLetBegin 40 = .ok (.aload_n 0, 1) := by decide +kernel
theorem dX10_whomToLetBegin_41 : decode cX10_whomToLetBegin 41 = .ok (.getfield 26, 3) := by decide +kernel
theorem dX10_whomToLetBegin_44 : decode cX10_whomToLetBegin 44 = .ok (.getfield 135, 3) := by decide +kernel
theorem dX10_whomToLetBegin_47 : decode cX10_whomToLetBegin 47 = .ok (.invokevirtual 284, 3) := by decide +kernel
theorem dX10_whomToLetBegin_50 : decode cX10_whomToLetBegin 50 = .ok (.invokestatic 298, 3) := by decide +kernel
theorem dX10_whomToLetBegin_53 : decode cX10_whomToLetBegin 53 = .ok (.istore 4, 2) := by decide +kernel
theorem dX10_whomToLetBegin_55 : decode cX10_whomToLetBegin 55 = .ok (.iload 4, 2) := by decide +kernel
theorem dX10_whomToLetBegin_57 : decode cX10_whomToLetBegin 57 = .ok (.iload_n 3, 1) := by decide +kernel
theorem dX10_whomToLetBegin_58 : decode cX10_whomToLetBegin 58 = .ok (.if_icmp .ge 7, 3) := by decide +kernel
theorem dX10_whomToLetBegin_61 : decode cX10_whomToLetBegin 61 = .ok (.iconst 1, 1) := by decide +kernel
theorem dX10_whomToLetBegin_62 : decode cX10_whomToLetBegin 62 = .ok (.goto 4, 3) := by decide +kernel
theorem dX10_whomToLetBegin_65 : decode cX10_whomToLetBegin 65 = .ok (.iconst 0, 1) := by decide +kernel
theorem dX10_whomToLetBegin_66 : decode cX10_whomToLetBegin 66 = .ok (.ireturn, 1) := by decide +kernel
set_option maxRecDepth 20000 in
theorem ggX10_mostLeft_J6_bitCount_0f7a4 : GoodIn wsX10_mostLeft wsJ6_bitCount_0f7a4 := goodIn_r _ [8, 9, 10, 11] (by decide +kernel) (by decide +kernel)
set_option maxRecDepth 20000 in
theorem gX10_mostLeft_J6_bitCount_0f7a4 : GoodIn wsX10_mostLeft (va_wsS RX10 164 yJ6_bitCount_0f7a4 wsJ6_bitCount_0f7a4) := goodIn_app (goodIn_of _ (by decide +kernel)) ggX10_mostLeft_J6_bitCount_0f7a4
theorem dX10_mostLeft_0 : decode cX10_mostLeft 0 = .ok (.iload_n 0, 1) := by decide +kernel
theorem dX10_mostLeft_1 : decode cX10_mostLeft 1 = .ok (.iload_n 1, 1) := by decide +kernel
theorem dX10_mostLeft_2 : decode cX10_mostLeft 2 = .ok (.iand, 1) := by decide +kernel
theorem dX10_mostLeft_3 : decode cX10_mostLeft 3 = .ok (.invokestatic 164, 3) := by decide +kernel
theorem dX10_mostLeft_6 : decode cX10_mostLeft 6 = .ok (.iload_n 0, 1) := by decide +kernel
theorem dX10_mostLeft_7 : decode cX10_mostLeft 7 = .ok (.iload_n 1, 1) := by decide +kernel
theorem dX10_mostLeft_8 : decode cX10_mostLeft 8 = .ok (.iconst (-1), 1) := by decide +kernel
theorem dX10_mostLeft_9 : decode cX10_mostLeft 9 = .ok (.ixor, 1) := by decide +kernel
theorem dX10_mostLeft_10 : decode cX10_mostLeft 10 = .ok (.iand, 1) := by decide +kernel
theorem dX10_mostLeft_11 : decode cX10_mostLeft 11 = .ok (.invokestatic 164, 3) := by decide +kernel
theorem dX10_mostLeft_14 : decode cX10_mostLeft 14 = .ok (.invokestatic 301, 3) := by decide +kernel
theorem dX10_mostLeft_17 : decode cX10_mostLeft 17 = .ok (.ireturn, 1) := by decide +kernel
theorem dX11_init_0 : decode cX11_init 0 = .ok (.aload_n 0, 1) := by decide +kernel
theorem dX11_init_1 : decode cX11_init 1 = .ok (.invokespecial 1, 3) := by decide +kernel
theorem dX11_init_4 : decode cX11_init 4 = .ok (.aload_n 0, 1) := by decide +kernel
theorem dX11_init_5 : decode cX11_init 5 = .ok (.bipush 8, 2) := by decide +kernel
theorem dX11_init_7 : decode cX11_init 7 = .ok (.newarray .int, 2) := by decide +kernel
theorem dX11_init_9 : decode cX11_init 9 = .ok (.putfield 7, 3) := by decide +kernel
theorem dX11_init_12 : decode cX11_init 12 = .ok (.aload_n 0, 1) := by decide +kernel
theorem dX11_init_13 : decode cX11_init 13 = .ok (.bipush 8, 2) := by decide +kernel
theorem dX11_init_15 : decode cX11_init 15 = .ok (.newarray .int, 2) := by decide +kernel
theorem dX11_init_17 : decode cX11_init 17 = .ok (.putfield 13, 3) := by decide +kernel
theorem dX11_init_20 : decode cX11_init 20 = .ok (.aload_n 0, 1) := by decide +kernel
theorem dX11_init_21 : decode cX11_init 21 = .ok (.bipush 6, 2) := by decide +kernel
theorem dX11_init_23 : decode cX11_init 23 = .ok (.newarray .int, 2) := by decide +kernel
theorem dX11_init_25 : decode cX11_init 25 = .ok (.putfield 16, 3) := by decide +kernel
theorem dX11_init_28 : decode cX11_init 28 = .ok (.aload_n 0, 1) := by decide +kernel
theorem dX11_init_29 : decode cX11_init 29 = .ok (.bipush 6, 2) := by decide +kernel
theorem dX11_init_31 : decode cX11_init 31 = .ok (.newarray .int, 2) := by decide +kernel
theorem dX11_init_33 : decode cX11_init 33 = .ok (.putfield 19, 3) := by decide +kernel
theorem dX11_init_36 : decode cX11_init 36 = .ok (.aload_n 0, 1) := by decide +kernel
theorem dX11_init_37 : decode cX11_init 37 = .ok (.bipush 6, 2) := by decide +kernel
theorem dX11_init_39 : decode cX11_init 39 = .ok (.newarray .int, 2) := by decide +kernel
theorem dX11_init_41 : decode cX11_init 41 = .ok (.putfield 22, 3) := by decide +kernel
theorem dX11_init_44 : decode cX11_init 44 = .ok (.aload_n 0, 1) := by decide +kernel
theorem dX11_init_45 : decode cX11_init 45 = .ok (.bipush 26, 2) := by decide +kernel
theorem dX11_init_47 : decode cX11_init 47 = .ok (.newarray .byte, 2) := by decide +kernel
theorem dX11_init_49 : decode cX11_init 49 = .ok (.putfield 25, 3) := by decide +kernel
theorem dX11_init_52 : decode cX11_init 52 = .ok (.aload_n 0, 1) := by decide +kernel
theorem dX11_init_53 : decode cX11_init 53 = .ok (.sipush 512, 3) := by decide +kernel
theorem dX11_init_56 : decode cX11_init 56 = .ok (.newarray .int, 2) := by decide +kernel
theorem dX11_init_58 : decode cX11_init 58 = .ok (.putfield 29, 3) := by decide +kernel
theorem dX11_init_61 : decode cX11_init 61 = .ok (.aload_n 0, 1) := by decide +kernel
theorem dX11_init_62 : decode cX11_init 62 = .ok (.sipush 512, 3) := by decide +kernel
theorem dX11_init_65 : decode cX11_init 65 = .ok (.newarray .int, 2) := by decide +kernel
theorem dX11_init_67 : decode cX11_init 67 = .ok (.putfield 32, 3) := by decide +kernel
theorem dX11_init_70 : decode cX11_init 70 = .ok (.aload_n 0, 1) := by decide +kernel
theorem dX11_init_71 : decode cX11_init 71 = .ok (.sipush 256, 3) := by decide +kernel
theorem dX11_init_74 : decode cX11_init 74 = .ok (.newarray .int, 2) := by decide +kernel
theorem dX11_init_76 : decode cX11_init 76 = .ok (.putfield 35, 3) := by decide +kernel
theorem dX11_init_79 : decode cX11_init 79 = .ok (.aload_n 0, 1) := by decide +kernel
theorem dX11_init_80 : decode cX11_init 80 = .ok (.sipush 512, 3) := by decide +kernel
theorem dX11_init_83 : decode cX11_init 83 = .ok (.newarray .long, 2) := by decide +kernel
theorem dX11_init_85 : decode cX11_init 85 = .ok (.putfield 38, 3) := by decide +kernel
theorem dX11_init_88 : decode cX11_init 88 = .ok (.aload_n 0, 1) := by decide +kernel
theorem dX11_init_89 : decode cX11_init 89 = .ok (.bipush 10, 2) := by decide +kernel
theorem dX11_init_91 : decode cX11_init 91 = .ok (.newarray .int, 2) := by decide +kernel
theorem dX11_init_93 : decode cX11_init 93 = .ok (.putfield 42, 3) := by decide +kernel
theorem dX11_init_96 : decode cX11_init 96 = .ok (.aload_n 0, 1) := by decide +kernel
theorem dX11_init_97 : decode cX11_init 97 = .ok (.bipush 8, 2) := by decide +kernel
theorem dX11_init_99 : decode cX11_init 99 = .ok (.newarray .int, 2) := by decide +kernel
theorem dX11_init_101 : decode cX11_init 101 = .ok (.putfield 45, 3) := by decide +kernel
theorem dX11_init_104 : decode cX11_init 104 = .ok (.aload_n 0, 1) := by decide +kernel
theorem dX11_init_105 : decode cX11_init 105 = .ok (.bipush 6, 2) := by decide +kernel
theorem dX11_init_107 : decode cX11_init 107 = .ok (.newarray .int, 2) := by decide +kernel
theorem dX11_init_109 : decode cX11_init 109 = .ok (.putfield 48, 3) := by decide +kernel
theorem dX11_init_112 : decode cX11_init 112 = .ok (.aload_n 0, 1) := by decide +kernel
theorem dX11_init_113 : decode cX11_init 113 = .ok (.bipush 6, 2) := by decide +kernel
theorem dX11_init_115 : decode cX11_init 115 = .ok (.newarray .int, 2) := by decide +kernel
theorem dX11_init_117 : decode cX11_init 117 = .ok (.putfield 51, 3) := by decide +kernel
theorem dX11_init_120 : decode cX11_init 120 = .ok (.aload_n 0, 1) := by decide +kernel
theorem dX11_init_121 : decode cX11_init 121 = .ok (.bipush 6, 2) := by decide +kernel
theorem dX11_init_123 : decode cX11_init 123 = .ok (.newarray .int, 2) := by decide +kernel
theorem dX11_init_125 : decode cX11_init 125 = .ok (.putfield 54, 3) := by decide +kernel
theorem dX11_init_128 : decode cX11_init 128 = .ok (.return_, 1) := by decide +kernel
theorem dX11_within_0 : decode cX11_within 0 = .ok (.iload_n 0, 1) := by decide +kernel
theorem dX11_within_1 : decode cX11_within 1 = .ok (.iload_n 1, 1) := by decide +kernel
theorem dX11_within_2 : decode cX11_within 2 = .ok (.if_icmp .lt 12, 3) := by decide +kernel
theorem dX11_within_5 : decode cX11_within 5 = .ok (.iload_n 0, 1) := by decide +kernel
theorem dX11_within_6 : decode cX11_within 6 = .ok (.iload_n 2, 1) := by decide +kernel
theorem dX11_within_7 : decode cX11_within 7 = .ok (.if_icmp .gt 7, 3) := by decide +kernel
theorem dX11_within_10 : decode cX11_within 10 = .ok (.iconst 1, 1) := by decide +kernel
theorem dX11_within_11 : decode cX11_within 11 = .ok (.goto 4, 3) := by decide +kernel
theorem dX11_within_14 : decode cX11_within 14 = .ok (.iconst 0, 1) := by decide +kernel
theorem dX11_within_15 : decode cX11_within 15 = .ok (.ireturn, 1) := by decide +kernel
theorem dX11_isIn_0 : decode cX11_isIn 0 = .ok (.iload_n 0, 1) := by decide +kernel
theorem dX11_isIn_1 : decode cX11_isIn 1 = .ok (.iload_n 1, 1) := by decide +kernel
theorem dX11_isIn_2 : decode cX11_isIn 2 = .ok (.ishr, 1) := by decide +kernel
theorem dX11_isIn_3 : decode cX11_isIn 3 = .ok (.iconst 1, 1) := by decide +kernel
theorem dX11_isIn_4 : decode cX11_isIn 4 = .ok (.iand, 1) := by decide +kernel
theorem dX11_isIn_5 : decode cX11_isIn 5 = .ok (.iconst 1, 1) := by decide +kernel
theorem dX11_isIn_6 : decode cX11_isIn 6 = .ok (.if_icmp .ne 7, 3) := by decide +kernel
theorem dX11_isIn_9 : decode cX11_isIn 9 = .ok (.iconst 1, 1) := by decide +kernel
theorem dX11_isIn_10 : decode cX11_isIn 10 = .ok (.goto 4, 3) := by decide +kernel
theorem dX11_isIn_13 : decode cX11_isIn 13 = .ok (.iconst 0, 1) := by decide +kernel
theorem dX11_isIn_14 : decode cX11_isIn 14 = .ok (.ireturn, 1) := by decide +kernel
theorem dX11_size_0 : decode cX11_size 0 = .ok (.iconst 0, 1) := by decide +kernel
theorem dX11_size_1 : decode cX11_size 1 = .ok (.istore_n 1, 1) := by decide +kernel
theorem dX11_size_2 : decode cX11_size 2 = .ok (.iconst 0, 1) := by decide +kernel
theorem dX11_size_3 : decode cX11_size 3 = .ok (.istore_n 2, 1) := by decide +kernel
theorem dX11_size_4 : decode cX11_size 4 = .ok (.iload_n 2, 1) := by decide +kernel
theorem dX11_size_5 : decode cX11_size 5 = .ok (.bipush 8, 2) := by decide +kernel
theorem dX11_size_7 : decode cX11_size 7 = .ok (.if_icmp .ge 17, 3) := by decide +kernel
theorem dX11_size_10 : decode cX11_size 10 = .ok (.iload_n 1, 1) := by decide +kernel
theorem dX11_size_11 : decode cX11_size 11 = .ok (.iload_n 0, 1) := by decide +kernel
theorem dX11_size_12 : decode cX11_size 12 = .ok (.iload_n 2, 1) := by decide +kernel
theorem dX11_size_13 : decode cX11_size 13 = .ok (.ishr, 1) := by decide +kernel
theorem dX11_size_14 : decode cX11_size 14 = .ok (.iconst 1, 1) := by decide +kernel
theorem dX11_size_15 : decode cX11_size 15 = .ok (.iand, 1) := by decide +kernel
theorem dX11_size_16 : decode cX11_size 16 = .ok (.iadd, 1) := by decide +kernel
theorem dX11_size_17 : decode cX11_size 17 = .ok (.istore_n 1, 1) := by decide +kernel
theorem dX11_size_18 : decode cX11_size 18 = .ok (.iinc 2 1, 3) := by decide +kernel
theorem dX11_size_21 : decode cX11_size 21 = .ok (.goto (-17), 3) := by decide +kernel
theorem dX11_size_24 : decode cX11_size 24 = .ok (.iload_n 1, 1) := by decide +kernel
theorem dX11_size_25 : decode cX11_size 25 = .ok (.ireturn, 1) := by decide +kernel
set_option maxRecDepth 20000 in
theorem ggX11_letter_X11_within : GoodIn wsX11_letter wsX11_within := goodIn_r _ [6] (by decide +kernel) (by decide +kernel)
set_option maxRecDepth 20000 in
theorem gX11_letter_X11_within : GoodIn wsX11_letter (va_wsS RX11 57 yX11_within wsX11_within) := goodIn_app (goodIn_of _ (by decide +kernel)) ggX11_letter_X11_within
theorem dX11_letter_0 : decode cX11_letter 0 = .ok (.iload_n 1, 1) := by decide +kernel
theorem dX11_letter_1 : decode cX11_letter 1 = .ok (.bipush 32, 2) := by decide +kernel
theorem dX11_letter_3 : decode cX11_letter 3 = .ok (.bipush 126, 2) := by decide +kernel
end
section
theorem dX11_letter_5 : decode cX11_letter 5 = .ok (.invokestatic 57, 3) := by decide +kernel
theorem dX11_letter_8 : decode cX11_letter 8 = .ok (.ifCond .ne 6, 3) := by decide +kernel
theorem dX11_letter_11 : decode cX11_letter 11 = .ok (.bipush (-102), 2) := by decide +kernel
theorem dX11_letter_13 : decode cX11_letter 13 = .ok (.ireturn, 1) := by decide +kernel
theorem dX11_letter_14 : decode cX11_letter 14 = .ok (.aload_n 0, 1) := by decide +kernel
theorem dX11_letter_15 : decode cX11_letter 15 = .ok (.getfield 61, 3) := by decide +kernel
theorem dX11_letter_18 : decode cX11_letter 18 = .ok (.bipush 26, 2) := by decide +kernel
theorem dX11_letter_20 : decode cX11_letter 20 = .ok (.if_icmp .ne 6, 3) := by decide +kernel
theorem dX11_letter_23 : decode cX11_letter 23 = .ok (.bipush (-104), 2) := by decide +kernel
theorem dX11_letter_25 : decode cX11_letter 25 = .ok (.ireturn, 1) := by decide +kernel
theorem dX11_letter_26 : decode cX11_letter 26 = .ok (.aload_n 0, 1) := by decide +kernel
theorem dX11_letter_27 : decode cX11_letter 27 = .ok (.getfield 25, 3) := by decide +kernel
theorem dX11_letter_30 : decode cX11_letter 30 = .ok (.aload_n 0, 1) := by decide +kernel
theorem dX11_letter_31 : decode cX11_letter 31 = .ok (.getfield 61, 3) := by decide +kernel
theorem dX11_letter_34 : decode cX11_letter 34 = .ok (.iload_n 1, 1) := by decide +kernel
theorem dX11_letter_35 : decode cX11_letter 35 = .ok (.i2b, 1) := by decide +kernel
theorem dX11_letter_36 : decode cX11_letter 36 = .ok (.bastore, 1) := by decide +kernel
theorem dX11_letter_37 : decode cX11_letter 37 = .ok (.aload_n 0, 1) := by decide +kernel
theorem dX11_letter_38 : decode cX11_letter 38 = .ok (.dup, 1) := by decide +kernel
theorem dX11_letter_39 : decode cX11_letter 39 = .ok (.getfield 61, 3) := by decide +kernel
theorem dX11_letter_42 : decode cX11_letter 42 = .ok (.iconst 1, 1) := by decide +kernel
theorem dX11_letter_43 : decode cX11_letter 43 = .ok (.iadd, 1) := by decide +kernel
theorem dX11_letter_44 : decode cX11_letter 44 = .ok (.putfield 61, 3) := by decide +kernel
theorem dX11_letter_47 : decode cX11_letter 47 = .ok (.aload_n 0, 1) := by decide +kernel
theorem dX11_letter_48 : decode cX11_letter 48 = .ok (.getfield 61, 3) := by decide +kernel
theorem dX11_letter_51 : decode cX11_letter 51 = .ok (.ireturn, 1) := by decide +kernel
theorem dX11_blank_0 : decode cX11_blank 0 = .ok (.aload_n 0, 1) := by decide +kernel
theorem dX11_blank_1 : decode cX11_blank 1 = .ok (.getfield 61, 3) := by decide +kernel
theorem dX11_blank_4 : decode cX11_blank 4 = .ok (.istore_n 1, 1) := by decide +kernel
theorem dX11_blank_5 : decode cX11_blank 5 = .ok (.aload_n 0, 1) := by decide +kernel
theorem dX11_blank_6 : decode cX11_blank 6 = .ok (.iconst 0, 1) := by decide +kernel
theorem dX11_blank_7 : decode cX11_blank 7 = .ok (.putfield 61, 3) := by decide +kernel
theorem dX11_blank_10 : decode cX11_blank 10 = .ok (.iload_n 1, 1) := by decide +kernel
theorem dX11_blank_11 : decode cX11_blank 11 = .ok (.ireturn, 1) := by decide +kernel
theorem dX11_kindBy_0 : decode cX11_kindBy 0 = .ok (.iload_n 0, 1) := by decide +kernel
theorem dX11_kindBy_1 : decode cX11_kindBy 1 = .ok (.lookupswitch 61 #[(98, 51), (100, 55), (105, 57), (116, 59), (119, 53)], 51) := by decide +kernel
theorem dX11_kindBy_52 : decode cX11_kindBy 52 = .ok (.iconst 0, 1) := by decide +kernel
theorem dX11_kindBy_53 : decode cX11_kindBy 53 = .ok (.ireturn, 1) := by decide +kernel
theorem dX11_kindBy_54 : decode cX11_kindBy 54 = .ok (.iconst 1, 1) := by decide +kernel
theorem dX11_kindBy_55 : decode cX11_kindBy 55 = .ok (.ireturn, 1) := by decide +kernel
theorem dX11_kindBy_56 : decode cX11_kindBy 56 = .ok (.iconst 2, 1) := by decide +kernel
theorem dX11_kindBy_57 : decode cX11_kindBy 57 = .ok (.ireturn, 1) := by decide +kernel
theorem dX11_kindBy_58 : decode cX11_kindBy 58 = .ok (.iconst 3, 1) := by decide +kernel
theorem dX11_kindBy_59 : decode cX11_kindBy 59 = .ok (.ireturn, 1) := by decide +kernel
theorem dX11_kindBy_60 : decode cX11_kindBy 60 = .ok (.iconst 4, 1) := by decide +kernel
theorem dX11_kindBy_61 : decode cX11_kindBy 61 = .ok (.ireturn, 1) := by decide +kernel
theorem dX11_kindBy_62 : decode cX11_kindBy 62 = .ok (.iconst (-1), 1) := by decide +kernel
theorem dX11_kindBy_63 : decode cX11_kindBy 63 = .ok (.ireturn, 1) := by decide +kernel
theorem dX11_at_0 : decode cX11_at 0 = .ok (.iload_n 1, 1) := by decide +kernel
theorem dX11_at_1 : decode cX11_at 1 = .ok (.aload_n 0, 1) := by decide +kernel
theorem dX11_at_2 : decode cX11_at 2 = .ok (.getfield 61, 3) := by decide +kernel
theorem dX11_at_5 : decode cX11_at 5 = .ok (.if_icmp .ge 12, 3) := by decide +kernel
theorem dX11_at_8 : decode cX11_at 8 = .ok (.aload_n 0, 1) := by decide +kernel
theorem dX11_at_9 : decode cX11_at 9 = .ok (.getfield 25, 3) := by decide +kernel
theorem dX11_at_12 : decode cX11_at 12 = .ok (.iload_n 1, 1) := by decide +kernel
theorem dX11_at_13 : decode cX11_at 13 = .ok (.baload, 1) := by decide +kernel
theorem dX11_at_14 : decode cX11_at 14 = .ok (.goto 4, 3) := by decide +kernel
theorem dX11_at_17 : decode cX11_at 17 = .ok (.iconst 0, 1) := by decide +kernel
theorem dX11_at_18 : decode cX11_at 18 = .ok (.ireturn, 1) := by decide +kernel
set_option maxRecDepth 20000 in
theorem ggX11_read_X11_at : GoodIn wsX11_read wsX11_at := goodIn_r _ [8, 3, 9, 16, 17, 18, 19, 20, 21, 22, 23, 24, 25, 26, 27, 28, 29, 30, 31, 32, 33, 34, 35, 36, 37, 38, 39, 40, 41, 42, 43, 44, 45, 46, 47, 48, 49] (by decide +kernel) (by decide +kernel)
set_option maxRecDepth 20000 in
theorem gX11_read_X11_at : GoodIn wsX11_read (wsV RX11 72 RX11 yX11_at wsX11_at) := goodIn_app (goodIn_of _ (by decide +kernel)) ggX11_read_X11_at
set_option maxRecDepth 20000 in
theorem ggX11_read_X11_kindBy : GoodIn wsX11_read wsX11_kindBy := goodIn_r _ [12] (by decide +kernel) (by decide +kernel)
set_option maxRecDepth 20000 in
theorem gX11_read_X11_kindBy : GoodIn wsX11_read (va_wsS RX11 76 yX11_kindBy wsX11_kindBy) := goodIn_app (goodIn_of _ (by decide +kernel)) ggX11_read_X11_kindBy
set_option maxRecDepth 20000 in
theorem ggX11_read_X11_within : GoodIn wsX11_read wsX11_within := goodIn_r _ [15] (by decide +kernel) (by decide +kernel)
set_option maxRecDepth 20000 in
theorem gX11_read_X11_within : GoodIn wsX11_read (va_wsS RX11 57 yX11_within wsX11_within) := goodIn_app (goodIn_of _ (by decide +kernel)) ggX11_read_X11_within
theorem dX11_read_0 : decode cX11_read 0 = .ok (.aload_n 0, 1) := by decide +kernel
theorem dX11_read_1 : decode cX11_read 1 = .ok (.iconst 0, 1) := by decide +kernel
theorem dX11_read_2 : decode cX11_read 2 = .ok (.putfield 65, 3) := by decide +kernel
theorem dX11_read_5 : decode cX11_read 5 = .ok (.aload_n 0, 1) := by decide +kernel
theorem dX11_read_6 : decode cX11_read 6 = .ok (.iconst 0, 1) := by decide +kernel
theorem dX11_read_7 : decode cX11_read 7 = .ok (.putfield 69, 3) := by decide +kernel
theorem dX11_read_10 : decode cX11_read 10 = .ok (.iconst 0, 1) := by decide +kernel
theorem dX11_read_11 : decode cX11_read 11 = .ok (.istore_n 1, 1) := by decide +kernel
theorem dX11_read_12 : decode cX11_read 12 = .ok (.aload_n 0, 1) := by decide +kernel
theorem dX11_read_13 : decode cX11_read 13 = .ok (.getfield 69, 3) := by decide +kernel
theorem dX11_read_16 : decode cX11_read 16 = .ok (.bipush 8, 2) := by decide +kernel
theorem dX11_read_18 : decode cX11_read 18 = .ok (.if_icmp .ge 113, 3) := by decide +kernel
theorem dX11_read_21 : decode cX11_read 21 = .ok (.aload_n 0, 1) := by decide +kernel
theorem dX11_read_22 : decode cX11_read 22 = .ok (.iload_n 1, 1) := by decide +kernel
theorem dX11_read_23 : decode cX11_read 23 = .ok (.invokevirtual 72, 3) := by decide +kernel
theorem dX11_read_26 : decode cX11_read 26 = .ok (.invokestatic 76, 3) := by decide +kernel
theorem dX11_read_29 : decode cX11_read 29 = .ok (.iconst (-1), 1) := by decide +kernel
theorem dX11_read_30 : decode cX11_read 30 = .ok (.if_icmp .ne 5, 3) := by decide +kernel
theorem dX11_read_33 : decode cX11_read 33 = .ok (.iload_n 1, 1) := by decide +kernel
theorem dX11_read_34 : decode cX11_read 34 = .ok (.ireturn, 1) := by decide +kernel
theorem dX11_read_35 : decode cX11_read 35 = .ok (.aload_n 0, 1) := by decide +kernel
theorem dX11_read_36 : decode cX11_read 36 = .ok (.iload_n 1, 1) := by decide +kernel
theorem dX11_read_37 : decode cX11_read 37 = .ok (.iconst 1, 1) := by decide +kernel
theorem dX11_read_38 : decode cX11_read 38 = .ok (.iadd, 1) := by decide +kernel
theorem dX11_read_39 : decode cX11_read 39 = .ok (.invokevirtual 72, 3) := by decide +kernel
theorem dX11_read_42 : decode cX11_read 42 = .ok (.bipush 45, 2) := by decide +kernel
theorem dX11_read_44 : decode cX11_read 44 = .ok (.if_icmp .eq 30, 3) := by decide +kernel
theorem dX11_read_47 : decode cX11_read 47 = .ok (.aload_n 0, 1) := by decide +kernel
theorem dX11_read_48 : decode cX11_read 48 = .ok (.iload_n 1, 1) := by decide +kernel
theorem dX11_read_49 : decode cX11_read 49 = .ok (.iconst 1, 1) := by decide +kernel
theorem dX11_read_50 : decode cX11_read 50 = .ok (.iadd, 1) := by decide +kernel
theorem dX11_read_51 : decode cX11_read 51 = .ok (.invokevirtual 72, 3) := by decide +kernel
theorem dX11_read_54 : decode cX11_read 54 = .ok (.bipush 48, 2) := by decide +kernel
theorem dX11_read_56 : decode cX11_read 56 = .ok (.isub, 1) := by decide +kernel
theorem dX11_read_57 : decode cX11_read 57 = .ok (.iconst 0, 1) := by decide +kernel
theorem dX11_read_58 : decode cX11_read 58 = .ok (.aload_n 0, 1) := by decide +kernel
theorem dX11_read_59 : decode cX11_read 59 = .ok (.getfield 69, 3) := by decide +kernel
theorem dX11_read_62 : decode cX11_read 62 = .ok (.iconst 1, 1) := by decide +kernel
theorem dX11_read_63 : decode cX11_read 63 = .ok (.isub, 1) := by decide +kernel
theorem dX11_read_64 : decode cX11_read 64 = .ok (.invokestatic 57, 3) := by decide +kernel
theorem dX11_read_67 : decode cX11_read 67 = .ok (.ifCond .ne 7, 3) := by decide +kernel
theorem dX11_read_70 : decode cX11_read 70 = .ok (.iload_n 1, 1) := by decide +kernel
theorem dX11_read_71 : decode cX11_read 71 = .ok (.iconst 1, 1) := by decide +kernel
theorem dX11_read_72 : decode cX11_read 72 = .ok (.iadd, 1) := by decide +kernel
theorem dX11_read_73 : decode cX11_read 73 = .ok (.ireturn, 1) := by decide +kernel
theorem dX11_read_74 : decode cX11_read 74 = .ok (.aload_n 0, 1) := by decide +kernel
theorem dX11_read_75 : decode cX11_read 75 = .ok (.dup, 1) := by decide +kernel
theorem dX11_read_76 : decode cX11_read 76 = .ok (.getfield 69, 3) := by decide +kernel
theorem dX11_read_79 : decode cX11_read 79 = .ok (.iconst 1, 1) := by decide +kernel
theorem dX11_read_80 : decode cX11_read 80 = .ok (.iadd, 1) := by decide +kernel
theorem dX11_read_81 : decode cX11_read 81 = .ok (.putfield 69, 3) := by decide +kernel
theorem dX11_read_84 : decode cX11_read 84 = .ok (.iinc 1 2, 3) := by decide +kernel
theorem dX11_read_87 : decode cX11_read 87 = .ok (.aload_n 0, 1) := by decide +kernel
theorem dX11_read_88 : decode cX11_read 88 = .ok (.iload_n 1, 1) := by decide +kernel
theorem dX11_read_89 : decode cX11_read 89 = .ok (.aload_n 0, 1) := by decide +kernel
theorem dX11_read_90 : decode cX11_read 90 = .ok (.getfield 61, 3) := by decide +kernel
theorem dX11_read_93 : decode cX11_read 93 = .ok (.if_icmp .ne 7, 3) := by decide +kernel
theorem dX11_read_96 : decode cX11_read 96 = .ok (.iconst 1, 1) := by decide +kernel
theorem dX11_read_97 : decode cX11_read 97 = .ok (.goto 4, 3) := by decide +kernel
theorem dX11_read_100 : decode cX11_read 100 = .ok (.iconst 0, 1) := by decide +kernel
theorem dX11_read_101 : decode cX11_read 101 = .ok (.putfield 65, 3) := by decide +kernel
theorem dX11_read_104 : decode cX11_read 104 = .ok (.aload_n 0, 1) := by decide +kernel
theorem dX11_read_105 : decode cX11_read 105 = .ok (.getfield 69, 3) := by decide +kernel
theorem dX11_read_108 : decode cX11_read 108 = .ok (.bipush 8, 2) := by decide +kernel
theorem dX11_read_110 : decode cX11_read 110 = .ok (.if_icmp .eq 13, 3) := by decide +kernel
theorem dX11_read_113 : decode cX11_read 113 = .ok (.aload_n 0, 1) := by decide +kernel
theorem dX11_read_114 : decode cX11_read 114 = .ok (.iload_n 1, 1) := by decide +kernel
theorem dX11_read_115 : decode cX11_read 115 = .ok (.invokevirtual 72, 3) := by decide +kernel
theorem dX11_read_118 : decode cX11_read 118 = .ok (.bipush 44, 2) := by decide +kernel
theorem dX11_read_120 : decode cX11_read 120 = .ok (.if_icmp .eq 5, 3) := by decide +kernel
theorem dX11_read_123 : decode cX11_read 123 = .ok (.iload_n 1, 1) := by decide +kernel
theorem dX11_read_124 : decode cX11_read 124 = .ok (.ireturn, 1) := by decide +kernel
theorem dX11_read_125 : decode cX11_read 125 = .ok (.iinc 1 1, 3) := by decide +kernel
theorem dX11_read_128 : decode cX11_read 128 = .ok (.goto (-116), 3) := by decide +kernel
theorem dX11_read_131 : decode cX11_read 131 = .ok (.iload_n 1, 1) := by decide +kernel
theorem dX11_read_132 : decode cX11_read 132 = .ok (.ireturn, 1) := by decide +kernel
set_option maxRecDepth 20000 in
theorem ggX11_fault_X11_read : GoodIn wsX11_fault wsX11_read := goodIn_r _ [5, 6, 7, 8, 9, 10, 11, 4, 12, 13, 14, 15, 16, 17, 18, 19, 20, 21, 22, 23, 24, 25, 26, 27, 28, 29, 30, 31, 32, 33, 34, 35, 36, 37, 38, 39, 40, 41, 42, 43, 44, 45, 46, 47, 48, 49, 50, 51, 52, 53] (by decide +kernel) (by decide +kernel)
set_option maxRecDepth 20000 in
theorem gX11_fault_X11_read : GoodIn wsX11_fault (wsV RX11 79 RX11 yX11_read wsX11_read) := goodIn_app (goodIn_of _ (by decide +kernel)) ggX11_fault_X11_read
theorem dX11_fault_0 : decode cX11_fault 0 = .ok (.aload_n 0, 1) := by decide +kernel
theorem dX11_fault_1 : decode cX11_fault 1 = .ok (.invokevirtual 79, 3) := by decide +kernel
theorem dX11_fault_4 : decode cX11_fault 4 = .ok (.ireturn, 1) := by decide +kernel
set_option maxRecDepth 20000 in
theorem ggX11_hedge_X11_read : GoodIn wsX11_hedge wsX11_read := goodIn_r _ [17, 1, 2, 12, 18, 19, 20, 16, 21, 5, 22, 23, 24, 25, 26, 27, 28, 29, 30, 31, 32, 33, 34, 35, 36, 37, 38, 39, 40, 41, 42, 43, 44, 45, 46, 47, 48, 49, 50, 51, 52, 53, 54, 55, 56, 57, 58, 59, 60, 61] (by decide +kernel) (by decide +kernel)
set_option maxRecDepth 20000 in
theorem gX11_hedge_X11_read : GoodIn wsX11_hedge (wsV RX11 79 RX11 yX11_read wsX11_read) := goodIn_app (goodIn_of _ (by decide +kernel)) ggX11_hedge_X11_read
set_option maxRecDepth 20000 in
theorem ggX11_hedge_X11_kindBy : GoodIn wsX11_hedge wsX11_kindBy := goodIn_r _ [24] (by decide +kernel) (by decide +kernel)
set_option maxRecDepth 20000 in
theorem gX11_hedge_X11_kindBy : GoodIn wsX11_hedge (va_wsS RX11 76 yX11_kindBy wsX11_kindBy) := goodIn_app (goodIn_of _ (by decide +kernel)) ggX11_hedge_X11_kindBy
theorem dX11_hedge_0 : decode cX11_hedge 0 = .ok (.aload_n 0, 1) := by decide +kernel
theorem dX11_hedge_1 : decode cX11_hedge 1 = .ok (.invokevirtual 79, 3) := by decide +kernel
theorem dX11_hedge_4 : decode cX11_hedge 4 = .ok (.pop, 1) := by decide +kernel
theorem dX11_hedge_5 : decode cX11_hedge 5 = .ok (.aload_n 0, 1) := by decide +kernel
theorem dX11_hedge_6 : decode cX11_hedge 6 = .ok (.getfield 65, 3) := by decide +kernel
theorem dX11_hedge_9 : decode cX11_hedge 9 = .ok (.ifCond .ne 6, 3) := by decide +kernel
theorem dX11_hedge_12 : decode cX11_hedge 12 = .ok (.bipush (-103), 2) := by decide +kernel
theorem dX11_hedge_14 : decode cX11_hedge 14 = .ok (.ireturn, 1) := by decide +kernel
theorem dX11_hedge_15 : decode cX11_hedge 15 = .ok (.aload_n 0, 1) := by decide +kernel
theorem dX11_hedge_16 : decode cX11_hedge 16 = .ok (.aload_n 0, 1) := by decide +kernel
theorem dX11_hedge_17 : decode cX11_hedge 17 = .ok (.getfield 69, 3) := by decide +kernel
theorem dX11_hedge_20 : decode cX11_hedge 20 = .ok (.putfield 83, 3) := by decide +kernel
theorem dX11_hedge_23 : decode cX11_hedge 23 = .ok (.iconst 0, 1) := by decide +kernel
theorem dX11_hedge_24 : decode cX11_hedge 24 = .ok (.istore_n 1, 1) := by decide +kernel
theorem dX11_hedge_25 : decode cX11_hedge 25 = .ok (.iload_n 1, 1) := by decide +kernel
theorem dX11_hedge_26 : decode cX11_hedge 26 = .ok (.aload_n 0, 1) := by decide +kernel
theorem dX11_hedge_27 : decode cX11_hedge 27 = .ok (.getfield 83, 3) := by decide +kernel
theorem dX11_hedge_30 : decode cX11_hedge 30 = .ok (.if_icmp .ge 64, 3) := by decide +kernel
theorem dX11_hedge_33 : decode cX11_hedge 33 = .ok (.aload_n 0, 1) := by decide +kernel
theorem dX11_hedge_34 : decode cX11_hedge 34 = .ok (.getfield 7, 3) := by decide +kernel
theorem dX11_hedge_37 : decode cX11_hedge 37 = .ok (.iload_n 1, 1) := by decide +kernel
theorem dX11_hedge_38 : decode cX11_hedge 38 = .ok (.aload_n 0, 1) := by decide +kernel
theorem dX11_hedge_39 : decode cX11_hedge 39 = .ok (.getfield 25, 3) := by decide +kernel
theorem dX11_hedge_42 : decode cX11_hedge 42 = .ok (.iconst 3, 1) := by decide +kernel
theorem dX11_hedge_43 : decode cX11_hedge 43 = .ok (.iload_n 1, 1) := by decide +kernel
theorem dX11_hedge_44 : decode cX11_hedge 44 = .ok (.imul, 1) := by decide +kernel
theorem dX11_hedge_45 : decode cX11_hedge 45 = .ok (.baload, 1) := by decide +kernel
theorem dX11_hedge_46 : decode cX11_hedge 46 = .ok (.invokestatic 76, 3) := by decide +kernel
theorem dX11_hedge_49 : decode cX11_hedge 49 = .ok (.iastore, 1) := by decide +kernel
theorem dX11_hedge_50 : decode cX11_hedge 50 = .ok (.aload_n 0, 1) := by decide +kernel
theorem dX11_hedge_51 : decode cX11_hedge 51 = .ok (.getfield 13, 3) := by decide +kernel
theorem dX11_hedge_54 : decode cX11_hedge 54 = .ok (.iload_n 1, 1) := by decide +kernel
theorem dX11_hedge_55 : decode cX11_hedge 55 = .ok (.aload_n 0, 1) := by decide +kernel
theorem dX11_hedge_56 : decode cX11_hedge 56 = .ok (.getfield 25, 3) := by decide +kernel
theorem dX11_hedge_59 : decode cX11_hedge 59 = .ok (.iconst 3, 1) := by decide +kernel
theorem dX11_hedge_60 : decode cX11_hedge 60 = .ok (.iload_n 1, 1) := by decide +kernel
theorem dX11_hedge_61 : decode cX11_hedge 61 = .ok (.imul, 1) := by decide +kernel
theorem dX11_hedge_62 : decode cX11_hedge 62 = .ok (.iconst 1, 1) := by decide +kernel
theorem dX11_hedge_63 : decode cX11_hedge 63 = .ok (.iadd, 1) := by decide +kernel
theorem dX11_hedge_64 : decode cX11_hedge 64 = .ok (.baload, 1) := by decide +kernel
theorem dX11_hedge_65 : decode cX11_hedge 65 = .ok (.bipush 45, 2) := by decide +kernel
theorem dX11_hedge_67 : decode cX11_hedge 67 = .ok (.if_icmp .ne 7, 3) := by decide +kernel
theorem dX11_hedge_70 : decode cX11_hedge 70 = .ok (.iconst (-1), 1) := by decide +kernel
theorem dX11_hedge_71 : decode cX11_hedge 71 = .ok (.goto 16, 3) := by decide +kernel
theorem dX11_hedge_74 : decode cX11_hedge 74 = .ok (.aload_n 0, 1) := by decide +kernel
theorem dX11_hedge_75 : decode cX11_hedge 75 = .ok (.getfield 25, 3) := by decide +kernel
theorem dX11_hedge_78 : decode cX11_hedge 78 = .ok (.iconst 3, 1) := by decide +kernel
theorem dX11_hedge_79 : decode cX11_hedge 79 = .ok (.iload_n 1, 1) := by decide +kernel
theorem dX11_hedge_80 : decode cX11_hedge 80 = .ok (.imul, 1) := by decide +kernel
theorem dX11_hedge_81 : decode cX11_hedge 81 = .ok (.iconst 1, 1) := by decide +kernel
theorem dX11_hedge_82 : decode cX11_hedge 82 = .ok (.iadd, 1) := by decide +kernel
theorem dX11_hedge_83 : decode cX11_hedge 83 = .ok (.baload, 1) := by decide +kernel
theorem dX11_hedge_84 : decode cX11_hedge 84 = .ok (.bipush 48, 2) := by decide +kernel
theorem dX11_hedge_86 : decode cX11_hedge 86 = .ok (.isub, 1) := by decide +kernel
theorem dX11_hedge_87 : decode cX11_hedge 87 = .ok (.iastore, 1) := by decide +kernel
theorem dX11_hedge_88 : decode cX11_hedge 88 = .ok (.iinc 1 1, 3) := by decide +kernel
theorem dX11_hedge_91 : decode cX11_hedge 91 = .ok (.goto (-66), 3) := by decide +kernel
theorem dX11_hedge_94 : decode cX11_hedge 94 = .ok (.aload_n 0, 1) := by decide +kernel
theorem dX11_hedge_95 : decode cX11_hedge 95 = .ok (.iconst 1, 1) := by decide +kernel
theorem dX11_hedge_96 : decode cX11_hedge 96 = .ok (.aload_n 0, 1) := by decide +kernel
theorem dX11_hedge_97 : decode cX11_hedge 97 = .ok (.getfield 83, 3) := by decide +kernel
theorem dX11_hedge_100 : decode cX11_hedge 100 = .ok (.ishl, 1) := by decide +kernel
theorem dX11_hedge_101 : decode cX11_hedge 101 = .ok (.iconst 1, 1) := by decide +kernel
theorem dX11_hedge_102 : decode cX11_hedge 102 = .ok (.isub, 1) := by decide +kernel
theorem dX11_hedge_103 : decode cX11_hedge 103 = .ok (.putfield 86, 3) := by decide +kernel
theorem dX11_hedge_106 : decode cX11_hedge 106 = .ok (.aload_n 0, 1) := by decide +kernel
theorem dX11_hedge_107 : decode cX11_hedge 107 = .ok (.iconst 0, 1) := by decide +kernel
theorem dX11_hedge_108 : decode cX11_hedge 108 = .ok (.putfield 89, 3) := by decide +kernel
theorem dX11_hedge_111 : decode cX11_hedge 111 = .ok (.aload_n 0, 1) := by decide +kernel
theorem dX11_hedge_112 : decode cX11_hedge 112 = .ok (.iconst 0, 1) := by decide +kernel
theorem dX11_hedge_113 : decode cX11_hedge 113 = .ok (.putfield 92, 3) := by decide +kernel
theorem dX11_hedge_116 : decode cX11_hedge 116 = .ok (.aload_n 0, 1) := by decide +kernel
theorem dX11_hedge_117 : decode cX11_hedge 117 = .ok (.dup, 1) := by decide +kernel
theorem dX11_hedge_118 : decode cX11_hedge 118 = .ok (.getfield 95, 3) := by decide +kernel
theorem dX11_hedge_121 : decode cX11_hedge 121 = .ok (.iconst 1, 1) := by decide +kernel
theorem dX11_hedge_122 : decode cX11_hedge 122 = .ok (.iadd, 1) := by decide +kernel
theorem dX11_hedge_123 : decode cX11_hedge 123 = .ok (.putfield 95, 3) := by decide +kernel
theorem dX11_hedge_126 : decode cX11_hedge 126 = .ok (.aload_n 0, 1) := by decide +kernel
theorem dX11_hedge_127 : decode cX11_hedge 127 = .ok (.iconst 0, 1) := by decide +kernel
theorem dX11_hedge_128 : decode cX11_hedge 128 = .ok (.putfield 98, 3) := by decide +kernel
theorem dX11_hedge_131 : decode cX11_hedge 131 = .ok (.aload_n 0, 1) := by decide +kernel
theorem dX11_hedge_132 : decode cX11_hedge 132 = .ok (.iconst 0, 1) := by decide +kernel
theorem dX11_hedge_133 : decode cX11_hedge 133 = .ok (.putfield 61, 3) := by decide +kernel
theorem dX11_hedge_136 : decode cX11_hedge 136 = .ok (.aload_n 0, 1) := by decide +kernel
theorem dX11_hedge_137 : decode cX11_hedge 137 = .ok (.getfield 83, 3) := by decide +kernel
theorem dX11_hedge_140 : decode cX11_hedge 140 = .ok (.ireturn, 1) := by decide +kernel
set_option maxRecDepth 20000 in
theorem ggX11_isBranch_X11_within : GoodIn wsX11_isBranch wsX11_within := goodIn_r _ [5] (by decide +kernel) (by decide +kernel)
set_option maxRecDepth 20000 in
theorem gX11_isBranch_X11_within : GoodIn wsX11_isBranch (va_wsS RX11 57 yX11_within wsX11_within) := goodIn_app (goodIn_of _ (by decide +kernel)) ggX11_isBranch_X11_within
theorem dX11_isBranch_0 : decode cX11_isBranch 0 = .ok (.iload_n 1, 1) := by decide +kernel
theorem dX11_isBranch_1 : decode cX11_isBranch 1 = .ok (.iconst 0, 1) := by decide +kernel
theorem dX11_isBranch_2 : decode cX11_isBranch 2 = .ok (.aload_n 0, 1) := by decide +kernel
theorem dX11_isBranch_3 : decode cX11_isBranch 3 = .ok (.getfield 83, 3) := by decide +kernel
theorem dX11_isBranch_6 : decode cX11_isBranch 6 = .ok (.iconst 1, 1) := by decide +kernel
theorem dX11_isBranch_7 : decode cX11_isBranch 7 = .ok (.isub, 1) := by decide +kernel
theorem dX11_isBranch_8 : decode cX11_isBranch 8 = .ok (.invokestatic 57, 3) := by decide +kernel
theorem dX11_isBranch_11 : decode cX11_isBranch 11 = .ok (.ireturn, 1) := by decide +kernel
set_option maxRecDepth 20000 in
theorem ggX11_above_X11_isIn : GoodIn wsX11_above wsX11_isIn := goodIn_r _ [6] (by decide +kernel) (by decide +kernel)
set_option maxRecDepth 20000 in
theorem gX11_above_X11_isIn : GoodIn wsX11_above (va_wsS RX11 101 yX11_isIn wsX11_isIn) := goodIn_app (goodIn_of _ (by decide +kernel)) ggX11_above_X11_isIn
theorem dX11_above_0 : decode cX11_above 0 = .ok (.iconst 0, 1) := by decide +kernel
theorem dX11_above_1 : decode cX11_above 1 = .ok (.istore_n 2, 1) := by decide +kernel
theorem dX11_above_2 : decode cX11_above 2 = .ok (.iload_n 1, 1) := by decide +kernel
theorem dX11_above_3 : decode cX11_above 3 = .ok (.iconst 1, 1) := by decide +kernel
theorem dX11_above_4 : decode cX11_above 4 = .ok (.iadd, 1) := by decide +kernel
theorem dX11_above_5 : decode cX11_above 5 = .ok (.istore_n 3, 1) := by decide +kernel
theorem dX11_above_6 : decode cX11_above 6 = .ok (.iload_n 3, 1) := by decide +kernel
theorem dX11_above_7 : decode cX11_above 7 = .ok (.aload_n 0, 1) := by decide +kernel
theorem dX11_above_8 : decode cX11_above 8 = .ok (.getfield 83, 3) := by decide +kernel
theorem dX11_above_11 : decode cX11_above 11 = .ok (.if_icmp .ge 52, 3) := by decide +kernel
theorem dX11_above_14 : decode cX11_above 14 = .ok (.iload_n 2, 1) := by decide +kernel
theorem dX11_above_15 : decode cX11_above 15 = .ok (.aload_n 0, 1) := by decide +kernel
theorem dX11_above_16 : decode cX11_above 16 = .ok (.getfield 13, 3) := by decide +kernel
theorem dX11_above_19 : decode cX11_above 19 = .ok (.iload_n 3, 1) := by decide +kernel
theorem dX11_above_20 : decode cX11_above 20 = .ok (.iaload, 1) := by decide +kernel
theorem dX11_above_21 : decode cX11_above 21 = .ok (.iload_n 1, 1) := by decide +kernel
theorem dX11_above_22 : decode cX11_above 22 = .ok (.if_icmp .eq 26, 3) := by decide +kernel
theorem dX11_above_25 : decode cX11_above 25 = .ok (.aload_n 0, 1) := by decide +kernel
theorem dX11_above_26 : decode cX11_above 26 = .ok (.getfield 13, 3) := by decide +kernel
theorem dX11_above_29 : decode cX11_above 29 = .ok (.iload_n 3, 1) := by decide +kernel
theorem dX11_above_30 : decode cX11_above 30 = .ok (.iaload, 1) := by decide +kernel
theorem dX11_above_31 : decode cX11_above 31 = .ok (.iconst (-1), 1) := by decide +kernel
theorem dX11_above_32 : decode cX11_above 32 = .ok (.if_icmp .eq 22, 3) := by decide +kernel
theorem dX11_above_35 : decode cX11_above 35 = .ok (.iload_n 2, 1) := by decide +kernel
theorem dX11_above_36 : decode cX11_above 36 = .ok (.aload_n 0, 1) := by decide +kernel
theorem dX11_above_37 : decode cX11_above 37 = .ok (.getfield 13, 3) := by decide +kernel
theorem dX11_above_40 : decode cX11_above 40 = .ok (.iload_n 3, 1) := by decide +kernel
theorem dX11_above_41 : decode cX11_above 41 = .ok (.iaload, 1) := by decide +kernel
theorem dX11_above_42 : decode cX11_above 42 = .ok (.invokestatic 101, 3) := by decide +kernel
theorem dX11_above_45 : decode cX11_above 45 = .ok (.ifCond .eq 9, 3) := by decide +kernel
theorem dX11_above_48 : decode cX11_above 48 = .ok (.iconst 1, 1) := by decide +kernel
theorem dX11_above_49 : decode cX11_above 49 = .ok (.iload_n 3, 1) := by decide +kernel
theorem dX11_above_50 : decode cX11_above 50 = .ok (.ishl, 1) := by decide +kernel
theorem dX11_above_51 : decode cX11_above 51 = .ok (.goto 4, 3) := by decide +kernel
theorem dX11_above_54 : decode cX11_above 54 = .ok (.iconst 0, 1) := by decide +kernel
theorem dX11_above_55 : decode cX11_above 55 = .ok (.ior, 1) := by decide +kernel
theorem dX11_above_56 : decode cX11_above 56 = .ok (.istore_n 2, 1) := by decide +kernel
theorem dX11_above_57 : decode cX11_above 57 = .ok (.iinc 3 1, 3) := by decide +kernel
theorem dX11_above_60 : decode cX11_above 60 = .ok (.goto (-54), 3) := by decide +kernel
theorem dX11_above_63 : decode cX11_above 63 = .ok (.iload_n 2, 1) := by decide +kernel
theorem dX11_above_64 : decode cX11_above 64 = .ok (.ireturn, 1) := by decide +kernel
set_option maxRecDepth 20000 in
theorem ggX11_isBare_X11_isIn : GoodIn wsX11_isBare wsX11_isIn := goodIn_r _ [6] (by decide +kernel) (by decide +kernel)
set_option maxRecDepth 20000 in
theorem gX11_isBare_X11_isIn : GoodIn wsX11_isBare (va_wsS RX11 101 yX11_isIn wsX11_isIn) := goodIn_app (goodIn_of _ (by decide +kernel)) ggX11_isBare_X11_isIn
theorem dX11_isBare_0 : decode cX11_isBare 0 = .ok (.iconst 1, 1) := by decide +kernel
theorem dX11_isBare_1 : decode cX11_isBare 1 = .ok (.istore_n 3, 1) := by decide +kernel
theorem dX11_isBare_2 : decode cX11_isBare 2 = .ok (.iload_n 1, 1) := by decide +kernel
theorem dX11_isBare_3 : decode cX11_isBare 3 = .ok (.iconst 1, 1) := by decide +kernel
theorem dX11_isBare_4 : decode cX11_isBare 4 = .ok (.iadd, 1) := by decide +kernel
theorem dX11_isBare_5 : decode cX11_isBare 5 = .ok (.istore 4, 2) := by decide +kernel
theorem dX11_isBare_7 : decode cX11_isBare 7 = .ok (.iload 4, 2) := by decide +kernel
theorem dX11_isBare_9 : decode cX11_isBare 9 = .ok (.aload_n 0, 1) := by decide +kernel
theorem dX11_isBare_10 : decode cX11_isBare 10 = .ok (.getfield 83, 3) := by decide +kernel
theorem dX11_isBare_13 : decode cX11_isBare 13 = .ok (.if_icmp .ge 39, 3) := by decide +kernel
theorem dX11_isBare_16 : decode cX11_isBare 16 = .ok (.iload_n 3, 1) := by decide +kernel
theorem dX11_isBare_17 : decode cX11_isBare 17 = .ok (.ifCond .eq 27, 3) := by decide +kernel
theorem dX11_isBare_20 : decode cX11_isBare 20 = .ok (.aload_n 0, 1) := by decide +kernel
theorem dX11_isBare_21 : decode cX11_isBare 21 = .ok (.getfield 13, 3) := by decide +kernel
theorem dX11_isBare_24 : decode cX11_isBare 24 = .ok (.iload 4, 2) := by decide +kernel
theorem dX11_isBare_26 : decode cX11_isBare 26 = .ok (.iaload, 1) := by decide +kernel
theorem dX11_isBare_27 : decode cX11_isBare 27 = .ok (.iload_n 1, 1) := by decide +kernel
theorem dX11_isBare_28 : decode cX11_isBare 28 = .ok (.if_icmp .ne 12, 3) := by decide +kernel
theorem dX11_isBare_31 : decode cX11_isBare 31 = .ok (.iload_n 2, 1) := by decide +kernel
theorem dX11_isBare_32 : decode cX11_isBare 32 = .ok (.iload 4, 2) := by decide +kernel
theorem dX11_isBare_34 : decode cX11_isBare 34 = .ok (.invokestatic 101, 3) := by decide +kernel
theorem dX11_isBare_37 : decode cX11_isBare 37 = .ok (.ifCond .ne 7, 3) := by decide +kernel
theorem dX11_isBare_40 : decode cX11_isBare 40 = .ok (.iconst 1, 1) := by decide +kernel
theorem dX11_isBare_41 : decode cX11_isBare 41 = .ok (.goto 4, 3) := by decide +kernel
theorem dX11_isBare_44 : decode cX11_isBare 44 = .ok (.iconst 0, 1) := by decide +kernel
theorem dX11_isBare_45 : decode cX11_isBare 45 = .ok (.istore_n 3, 1) := by decide +kernel
theorem dX11_isBare_46 : decode cX11_isBare 46 = .ok (.iinc 4 1, 3) := by decide +kernel
theorem dX11_isBare_49 : decode cX11_isBare 49 = .ok (.goto (-42), 3) := by decide +kernel
theorem dX11_isBare_52 : decode cX11_isBare 52 = .ok (.iload_n 3, 1) := by decide +kernel
theorem dX11_isBare_53 : decode cX11_isBare 53 = .ok (.ireturn, 1) := by decide +kernel
set_option maxRecDepth 20000 in
theorem ggX11_mayCut_X11_isIn : GoodIn wsX11_mayCut wsX11_isIn := goodIn_r _ [5] (by decide +kernel) (by decide +kernel)
set_option maxRecDepth 20000 in
theorem gX11_mayCut_X11_isIn : GoodIn wsX11_mayCut (va_wsS RX11 101 yX11_isIn wsX11_isIn) := goodIn_app (goodIn_of _ (by decide +kernel)) ggX11_mayCut_X11_isIn
set_option maxRecDepth 20000 in
theorem ggX11_mayCut_X11_isBare : GoodIn wsX11_mayCut wsX11_isBare := goodIn_r _ [9, 10, 11, 2, 3, 4, 5, 12, 13, 14, 15, 16, 17, 18, 19, 20, 21, 22, 23, 24, 25, 26, 27, 28, 29, 30, 31, 32, 33, 34, 35, 36, 37, 38, 39, 40, 41, 42, 43, 44, 45] (by decide +kernel) (by decide +kernel)
set_option maxRecDepth 20000 in
theorem gX11_mayCut_X11_isBare : GoodIn wsX11_mayCut (wsV RX11 105 RX11 yX11_isBare wsX11_isBare) := goodIn_app (goodIn_of _ (by decide +kernel)) ggX11_mayCut_X11_isBare
theorem dX11_mayCut_0 : decode cX11_mayCut 0 = .ok (.iload_n 3, 1) := by decide +kernel
theorem dX11_mayCut_1 : decode cX11_mayCut 1 = .ok (.iload_n 2, 1) := by decide +kernel
theorem dX11_mayCut_2 : decode cX11_mayCut 2 = .ok (.invokestatic 101, 3) := by decide +kernel
theorem dX11_mayCut_5 : decode cX11_mayCut 5 = .ok (.ifCond .ne 5, 3) := by decide +kernel
theorem dX11_mayCut_8 : decode cX11_mayCut 8 = .ok (.iconst 0, 1) := by decide +kernel
theorem dX11_mayCut_9 : decode cX11_mayCut 9 = .ok (.ireturn, 1) := by decide +kernel
theorem dX11_mayCut_10 : decode cX11_mayCut 10 = .ok (.aload_n 0, 1) := by decide +kernel
theorem dX11_mayCut_11 : decode cX11_mayCut 11 = .ok (.getfield 7, 3) := by decide +kernel
theorem dX11_mayCut_14 : decode cX11_mayCut 14 = .ok (.iload_n 2, 1) := by decide +kernel
theorem dX11_mayCut_15 : decode cX11_mayCut 15 = .ok (.iaload, 1) := by decide +kernel
theorem dX11_mayCut_16 : decode cX11_mayCut 16 = .ok (.tableswitch 78 0 4 #[36, 38, 48, 78, 59], 36) := by decide +kernel
theorem dX11_mayCut_52 : decode cX11_mayCut 52 = .ok (.iconst 1, 1) := by decide +kernel
theorem dX11_mayCut_53 : decode cX11_mayCut 53 = .ok (.ireturn, 1) := by decide +kernel
theorem dX11_mayCut_54 : decode cX11_mayCut 54 = .ok (.iload_n 1, 1) := by decide +kernel
theorem dX11_mayCut_55 : decode cX11_mayCut 55 = .ok (.ifCond .ne 7, 3) := by decide +kernel
theorem dX11_mayCut_58 : decode cX11_mayCut 58 = .ok (.iconst 1, 1) := by decide +kernel
theorem dX11_mayCut_59 : decode cX11_mayCut 59 = .ok (.goto 4, 3) := by decide +kernel
theorem dX11_mayCut_62 : decode cX11_mayCut 62 = .ok (.iconst 0, 1) := by decide +kernel
theorem dX11_mayCut_63 : decode cX11_mayCut 63 = .ok (.ireturn, 1) := by decide +kernel
theorem dX11_mayCut_64 : decode cX11_mayCut 64 = .ok (.iload_n 1, 1) := by decide +kernel
theorem dX11_mayCut_65 : decode cX11_mayCut 65 = .ok (.iconst 1, 1) := by decide +kernel
theorem dX11_mayCut_66 : decode cX11_mayCut 66 = .ok (.if_icmp .ne 7, 3) := by decide +kernel
theorem dX11_mayCut_69 : decode cX11_mayCut 69 = .ok (.iconst 1, 1) := by decide +kernel
theorem dX11_mayCut_70 : decode cX11_mayCut 70 = .ok (.goto 4, 3) := by decide +kernel
theorem dX11_mayCut_73 : decode cX11_mayCut 73 = .ok (.iconst 0, 1) := by decide +kernel
theorem dX11_mayCut_74 : decode cX11_mayCut 74 = .ok (.ireturn, 1) := by decide +kernel
theorem dX11_mayCut_75 : decode cX11_mayCut 75 = .ok (.iload_n 1, 1) := by decide +kernel
theorem dX11_mayCut_76 : decode cX11_mayCut 76 = .ok (.ifCond .ne 16, 3) := by decide +kernel
theorem dX11_mayCut_79 : decode cX11_mayCut 79 = .ok (.aload_n 0, 1) := by decide +kernel
theorem dX11_mayCut_80 : decode cX11_mayCut 80 = .ok (.iload_n 2, 1) := by decide +kernel
theorem dX11_mayCut_81 : decode cX11_mayCut 81 = .ok (.iload_n 3, 1) := by decide +kernel
theorem dX11_mayCut_82 : decode cX11_mayCut 82 = .ok (.invokevirtual 105, 3) := by decide +kernel
theorem dX11_mayCut_85 : decode cX11_mayCut 85 = .ok (.ifCond .eq 7, 3) := by decide +kernel
theorem dX11_mayCut_88 : decode cX11_mayCut 88 = .ok (.iconst 1, 1) := by decide +kernel
theorem dX11_mayCut_89 : decode cX11_mayCut 89 = .ok (.goto 4, 3) := by decide +kernel
theorem dX11_mayCut_92 : decode cX11_mayCut 92 = .ok (.iconst 0, 1) := by decide +kernel
theorem dX11_mayCut_93 : decode cX11_mayCut 93 = .ok (.ireturn, 1) := by decide +kernel
theorem dX11_mayCut_94 : decode cX11_mayCut 94 = .ok (.iconst 0, 1) := by decide +kernel
theorem dX11_mayCut_95 : decode cX11_mayCut 95 = .ok (.ireturn, 1) := by decide +kernel
set_option maxRecDepth 20000 in
theorem ggX11_leaves_X11_above : GoodIn wsX11_leaves wsX11_above := goodIn_r _ [5, 6, 7, 8, 9, 4, 10, 11, 12, 13, 14, 15, 16, 17, 18, 19, 20, 21, 22, 23, 24, 25, 26, 27, 28, 29, 30, 31, 32, 33, 34, 35, 36, 37, 38, 39, 40, 41, 42, 43, 44] (by decide +kernel) (by decide +kernel)
set_option maxRecDepth 20000 in
theorem gX11_leaves_X11_above : GoodIn wsX11_leaves (wsV RX11 108 RX11 yX11_above wsX11_above) := goodIn_app (goodIn_of _ (by decide +kernel)) ggX11_leaves_X11_above
theorem dX11_leaves_0 : decode cX11_leaves 0 = .ok (.iload_n 2, 1) := by decide +kernel
theorem dX11_leaves_1 : decode cX11_leaves 1 = .ok (.aload_n 0, 1) := by decide +kernel
theorem dX11_leaves_2 : decode cX11_leaves 2 = .ok (.iload_n 1, 1) := by decide +kernel
theorem dX11_leaves_3 : decode cX11_leaves 3 = .ok (.invokevirtual 108, 3) := by decide +kernel
theorem dX11_leaves_6 : decode cX11_leaves 6 = .ok (.iconst 1, 1) := by decide +kernel
theorem dX11_leaves_7 : decode cX11_leaves 7 = .ok (.iload_n 1, 1) := by decide +kernel
theorem dX11_leaves_8 : decode cX11_leaves 8 = .ok (.ishl, 1) := by decide +kernel
theorem dX11_leaves_9 : decode cX11_leaves 9 = .ok (.ior, 1) := by decide +kernel
theorem dX11_leaves_10 : decode cX11_leaves 10 = .ok (.iconst (-1), 1) := by decide +kernel
theorem dX11_leaves_11 : decode cX11_leaves 11 = .ok (.ixor, 1) := by decide +kernel
theorem dX11_leaves_12 : decode cX11_leaves 12 = .ok (.iand, 1) := by decide +kernel
theorem dX11_leaves_13 : decode cX11_leaves 13 = .ok (.ireturn, 1) := by decide +kernel
set_option maxRecDepth 20000 in
theorem ggX11_mayCuts_X11_mayCut : GoodIn wsX11_mayCuts wsX11_mayCut := goodIn_r _ [6, 7, 8, 9, 5, 10, 11, 12, 13, 14, 1, 15, 16, 17, 18, 19, 20, 21, 22, 23, 24, 25, 26, 27, 28, 29, 30, 31, 32, 33, 34, 35, 36, 37, 38, 39, 40, 41, 42, 43, 44, 45, 46, 47, 48, 49] (by decide +kernel) (by decide +kernel)
set_option maxRecDepth 20000 in
theorem gX11_mayCuts_X11_mayCut : GoodIn wsX11_mayCuts (wsV RX11 111 RX11 yX11_mayCut wsX11_mayCut) := goodIn_app (goodIn_of _ (by decide +kernel)) ggX11_mayCuts_X11_mayCut
theorem dX11_mayCuts_0 : decode cX11_mayCuts 0 = .ok (.iconst 0, 1) := by decide +kernel
theorem dX11_mayCuts_1 : decode cX11_mayCuts 1 = .ok (.istore_n 3, 1) := by decide +kernel
theorem dX11_mayCuts_2 : decode cX11_mayCuts 2 = .ok (.iconst 0, 1) := by decide +kernel
theorem dX11_mayCuts_3 : decode cX11_mayCuts 3 = .ok (.istore 4, 2) := by decide +kernel
theorem dX11_mayCuts_5 : decode cX11_mayCuts 5 = .ok (.iload 4, 2) := by decide +kernel
theorem dX11_mayCuts_7 : decode cX11_mayCuts 7 = .ok (.aload_n 0, 1) := by decide +kernel
theorem dX11_mayCuts_8 : decode cX11_mayCuts 8 = .ok (.getfield 83, 3) := by decide +kernel
theorem dX11_mayCuts_11 : decode cX11_mayCuts 11 = .ok (.if_icmp .ge 31, 3) := by decide +kernel
theorem dX11_mayCuts_14 : decode cX11_mayCuts 14 = .ok (.iload_n 3, 1) := by decide +kernel
theorem dX11_mayCuts_15 : decode cX11_mayCuts 15 = .ok (.aload_n 0, 1) := by decide +kernel
theorem dX11_mayCuts_16 : decode cX11_mayCuts 16 = .ok (.iload_n 1, 1) := by decide +kernel
theorem dX11_mayCuts_17 : decode cX11_mayCuts 17 = .ok (.iload 4, 2) := by decide +kernel
theorem dX11_mayCuts_19 : decode cX11_mayCuts 19 = .ok (.iload_n 2, 1) := by decide +kernel
theorem dX11_mayCuts_20 : decode cX11_mayCuts 20 = .ok (.invokevirtual 111, 3) := by decide +kernel
theorem dX11_mayCuts_23 : decode cX11_mayCuts 23 = .ok (.ifCond .eq 10, 3) := by decide +kernel
theorem dX11_mayCuts_26 : decode cX11_mayCuts 26 = .ok (.iconst 1, 1) := by decide +kernel
theorem dX11_mayCuts_27 : decode cX11_mayCuts 27 = .ok (.iload 4, 2) := by decide +kernel
theorem dX11_mayCuts_29 : decode cX11_mayCuts 29 = .ok (.ishl, 1) := by decide +kernel
theorem dX11_mayCuts_30 : decode cX11_mayCuts 30 = .ok (.goto 4, 3) := by decide +kernel
theorem dX11_mayCuts_33 : decode cX11_mayCuts 33 = .ok (.iconst 0, 1) := by decide +kernel
theorem dX11_mayCuts_34 : decode cX11_mayCuts 34 = .ok (.ior, 1) := by decide +kernel
theorem dX11_mayCuts_35 : decode cX11_mayCuts 35 = .ok (.istore_n 3, 1) := by decide +kernel
theorem dX11_mayCuts_36 : decode cX11_mayCuts 36 = .ok (.iinc 4 1, 3) := by decide +kernel
theorem dX11_mayCuts_39 : decode cX11_mayCuts 39 = .ok (.goto (-34), 3) := by decide +kernel
theorem dX11_mayCuts_42 : decode cX11_mayCuts 42 = .ok (.iload_n 3, 1) := by decide +kernel
theorem dX11_mayCuts_43 : decode cX11_mayCuts 43 = .ok (.ireturn, 1) := by decide +kernel
set_option maxRecDepth 20000 in
theorem ggX11_branchNow_X11_isIn : GoodIn wsX11_branchNow wsX11_isIn := goodIn_r _ [7] (by decide +kernel) (by decide +kernel)
set_option maxRecDepth 20000 in
theorem gX11_branchNow_X11_isIn : GoodIn wsX11_branchNow (va_wsS RX11 101 yX11_isIn wsX11_isIn) := goodIn_app (goodIn_of _ (by decide +kernel)) ggX11_branchNow_X11_isIn
set_option maxRecDepth 20000 in
theorem ggX11_branchNow_X11_mayCut : GoodIn wsX11_branchNow wsX11_mayCut := goodIn_r _ [11, 1, 4, 5, 6, 7, 12, 13, 14, 15, 16, 2, 58, 59, 60, 61, 62, 63, 64, 65, 66, 67, 68, 69, 70, 71, 72, 73, 74, 75, 76, 77, 78, 79, 80, 81, 82, 83, 84, 85, 86, 87, 88, 89, 90, 91] (by decide +kernel) (by decide +kernel)
set_option maxRecDepth 20000 in
theorem gX11_branchNow_X11_mayCut : GoodIn wsX11_branchNow (wsV RX11 111 RX11 yX11_mayCut wsX11_mayCut) := goodIn_app (goodIn_of _ (by decide +kernel)) ggX11_branchNow_X11_mayCut
set_option maxRecDepth 20000 in
theorem ggX11_branchNow_X11_above : GoodIn wsX11_branchNow wsX11_above := goodIn_r _ [20, 16, 2, 4, 5, 6, 7, 58, 59, 60, 61, 62, 63, 64, 65, 66, 67, 68, 69, 70, 71, 72, 73, 74, 75, 76, 77, 78, 79, 80, 81, 82, 83, 84, 85, 86, 87, 88, 89, 90, 91] (by decide +kernel) (by decide +kernel)
set_option maxRecDepth 20000 in
theorem gX11_branchNow_X11_above : GoodIn wsX11_branchNow (wsV RX11 108 RX11 yX11_above wsX11_above) := goodIn_app (goodIn_of _ (by decide +kernel)) ggX11_branchNow_X11_above
set_option maxRecDepth 20000 in
theorem ggX11_branchNow_X11_sortsOf : GoodIn wsX11_branchNow wsX11_sortsOf := goodIn_r _ [24, 25, 26, 27, 28, 29, 30, 31, 32, 6, 33, 1, 34, 3, 35, 36, 37, 38, 39, 40, 41, 42, 16, 8, 9, 10, 11, 4, 5, 7, 12, 13, 14, 15, 2, 43, 44, 45, 46, 17, 18, 19, 20, 58, 59, 60, 61, 62, 63, 64, 65, 66, 67, 68, 69, 70, 71, 72, 73, 74, 75, 76, 77, 78, 79, 80, 81, 82, 83, 84, 85, 86, 87, 88, 89, 90, 91] (by decide +kernel) (by decide +kernel)
set_option maxRecDepth 20000 in
theorem gX11_branchNow_X11_sortsOf : GoodIn wsX11_branchNow (wsV RX11 114 RX11 yX11_sortsOf wsX11_sortsOf) := goodIn_app (goodIn_of _ (by decide +kernel)) ggX11_branchNow_X11_sortsOf
set_option maxRecDepth 20000 in
theorem ggX11_branchNow_X11_letOf : GoodIn wsX11_branchNow wsX11_letOf := goodIn_r _ [50, 21, 22, 23, 6, 24, 25, 26, 27, 28, 29, 30, 31, 32, 33, 1, 34, 3, 35, 36, 37, 38, 39, 40, 41, 42, 16, 8, 9, 10, 11, 4, 5, 7, 12, 13, 14, 15, 2, 43, 44, 45, 46, 17, 18, 19, 20, 51, 52, 53, 54, 55, 56, 57, 58, 59, 60, 61, 62, 63, 64, 65, 66, 67, 68, 69, 70, 71, 72, 73, 74, 75, 76, 77, 78, 79, 80, 81, 82, 83, 84, 85, 86, 87, 88, 89, 90, 91] (by decide +kernel) (by decide +kernel)
set_option maxRecDepth 20000 in
theorem gX11_branchNow_X11_letOf : GoodIn wsX11_branchNow (wsV RX11 117 RX11 yX11_letOf wsX11_letOf) := goodIn_app (goodIn_of _ (by decide +kernel)) ggX11_branchNow_X11_letOf
theorem dX11_branchNow_0 : decode cX11_branchNow 0 = .ok (.iload_n 2, 1) := by decide +kernel
theorem dX11_branchNow_1 : decode cX11_branchNow 1 = .ok (.tableswitch 107 0 6 #[43, 50, 57, 74, 74, 95, 101], 43) := by decide +kernel
theorem dX11_branchNow_44 : decode cX11_branchNow 44 = .ok (.aload_n 0, 1) := by decide +kernel
theorem dX11_branchNow_45 : decode cX11_branchNow 45 = .ok (.getfield 7, 3) := by decide +kernel
theorem dX11_branchNow_48 : decode cX11_branchNow 48 = .ok (.iload_n 1, 1) := by decide +kernel
theorem dX11_branchNow_49 : decode cX11_branchNow 49 = .ok (.iaload, 1) := by decide +kernel
theorem dX11_branchNow_50 : decode cX11_branchNow 50 = .ok (.ireturn, 1) := by decide +kernel
theorem dX11_branchNow_51 : decode cX11_branchNow 51 = .ok (.aload_n 0, 1) := by decide +kernel
theorem dX11_branchNow_52 : decode cX11_branchNow 52 = .ok (.getfield 13, 3) := by decide +kernel
theorem dX11_branchNow_55 : decode cX11_branchNow 55 = .ok (.iload_n 1, 1) := by decide +kernel
theorem dX11_branchNow_56 : decode cX11_branchNow 56 = .ok (.iaload, 1) := by decide +kernel
theorem dX11_branchNow_57 : decode cX11_branchNow 57 = .ok (.ireturn, 1) := by decide +kernel
theorem dX11_branchNow_58 : decode cX11_branchNow 58 = .ok (.aload_n 0, 1) := by decide +kernel
theorem dX11_branchNow_59 : decode cX11_branchNow 59 = .ok (.getfield 86, 3) := by decide +kernel
theorem dX11_branchNow_62 : decode cX11_branchNow 62 = .ok (.iload_n 1, 1) := by decide +kernel
theorem dX11_branchNow_63 : decode cX11_branchNow 63 = .ok (.invokestatic 101, 3) := by decide +kernel
theorem dX11_branchNow_66 : decode cX11_branchNow 66 = .ok (.ifCond .eq 7, 3) := by decide +kernel
theorem dX11_branchNow_69 : decode cX11_branchNow 69 = .ok (.iconst 1, 1) := by decide +kernel
theorem dX11_branchNow_70 : decode cX11_branchNow 70 = .ok (.goto 4, 3) := by decide +kernel
theorem dX11_branchNow_73 : decode cX11_branchNow 73 = .ok (.iconst 0, 1) := by decide +kernel
theorem dX11_branchNow_74 : decode cX11_branchNow 74 = .ok (.ireturn, 1) := by decide +kernel
theorem dX11_branchNow_75 : decode cX11_branchNow 75 = .ok (.aload_n 0, 1) := by decide +kernel
theorem dX11_branchNow_76 : decode cX11_branchNow 76 = .ok (.iload_n 2, 1) := by decide +kernel
theorem dX11_branchNow_77 : decode cX11_branchNow 77 = .ok (.iconst 3, 1) := by decide +kernel
theorem dX11_branchNow_78 : decode cX11_branchNow 78 = .ok (.isub, 1) := by decide +kernel
theorem dX11_branchNow_79 : decode cX11_branchNow 79 = .ok (.iload_n 1, 1) := by decide +kernel
theorem dX11_branchNow_80 : decode cX11_branchNow 80 = .ok (.aload_n 0, 1) := by decide +kernel
theorem dX11_branchNow_81 : decode cX11_branchNow 81 = .ok (.getfield 86, 3) := by decide +kernel
theorem dX11_branchNow_84 : decode cX11_branchNow 84 = .ok (.invokevirtual 111, 3) := by decide +kernel
theorem dX11_branchNow_87 : decode cX11_branchNow 87 = .ok (.ifCond .eq 7, 3) := by decide +kernel
theorem dX11_branchNow_90 : decode cX11_branchNow 90 = .ok (.iconst 1, 1) := by decide +kernel
theorem dX11_branchNow_91 : decode cX11_branchNow 91 = .ok (.goto 4, 3) := by decide +kernel
theorem dX11_branchNow_94 : decode cX11_branchNow 94 = .ok (.iconst 0, 1) := by decide +kernel
theorem dX11_branchNow_95 : decode cX11_branchNow 95 = .ok (.ireturn, 1) := by decide +kernel
theorem dX11_branchNow_96 : decode cX11_branchNow 96 = .ok (.aload_n 0, 1) := by decide +kernel
theorem dX11_branchNow_97 : decode cX11_branchNow 97 = .ok (.iload_n 1, 1) := by decide +kernel
theorem dX11_branchNow_98 : decode cX11_branchNow 98 = .ok (.invokevirtual 108, 3) := by decide +kernel
theorem dX11_branchNow_101 : decode cX11_branchNow 101 = .ok (.ireturn, 1) := by decide +kernel
theorem dX11_branchNow_102 : decode cX11_branchNow 102 = .ok (.aload_n 0, 1) := by decide +kernel
theorem dX11_branchNow_103 : decode cX11_branchNow 103 = .ok (.iload_n 1, 1) := by decide +kernel
theorem dX11_branchNow_104 : decode cX11_branchNow 104 = .ok (.invokevirtual 114, 3) := by decide +kernel
theorem dX11_branchNow_107 : decode cX11_branchNow 107 = .ok (.ireturn, 1) := by decide +kernel
theorem dX11_branchNow_108 : decode cX11_branchNow 108 = .ok (.aload_n 0, 1) := by decide +kernel
theorem dX11_branchNow_109 : decode cX11_branchNow 109 = .ok (.iload_n 1, 1) := by decide +kernel
theorem dX11_branchNow_110 : decode cX11_branchNow 110 = .ok (.invokevirtual 117, 3) := by decide +kernel
theorem dX11_branchNow_113 : decode cX11_branchNow 113 = .ok (.ireturn, 1) := by decide +kernel
set_option maxRecDepth 20000 in
theorem ggX11_branch_X11_isBranch : GoodIn wsX11_branch wsX11_isBranch := goodIn_r _ [5, 6, 7, 8, 4, 9, 69, 70, 71, 72, 73, 74, 75, 76, 77, 78, 79, 80, 81, 82, 83, 84, 85, 86, 87, 88, 89, 90, 91, 92, 93, 94, 95, 96, 97, 98, 99, 100, 101, 102] (by decide +kernel) (by decide +kernel)
set_option maxRecDepth 20000 in
theorem gX11_branch_X11_isBranch : GoodIn wsX11_branch (wsV RX11 120 RX11 yX11_isBranch wsX11_isBranch) := goodIn_app (goodIn_of _ (by decide +kernel)) ggX11_branch_X11_isBranch
set_option maxRecDepth 20000 in
theorem ggX11_branch_X11_within : GoodIn wsX11_branch wsX11_within := goodIn_r _ [9] (by decide +kernel) (by decide +kernel)
set_option maxRecDepth 20000 in
theorem gX11_branch_X11_within : GoodIn wsX11_branch (va_wsS RX11 57 yX11_within wsX11_within) := goodIn_app (goodIn_of _ (by decide +kernel)) ggX11_branch_X11_within
set_option maxRecDepth 20000 in
theorem ggX11_branch_X11_branchNow : GoodIn wsX11_branch wsX11_branchNow := goodIn_r _ [13, 14, 15, 16, 17, 18, 4, 19, 20, 21, 22, 23, 24, 25, 26, 27, 6, 28, 29, 30, 31, 32, 33, 34, 35, 36, 37, 38, 39, 40, 41, 42, 43, 44, 45, 46, 47, 48, 49, 50, 51, 52, 53, 54, 55, 56, 57, 58, 59, 60, 61, 62, 63, 64, 65, 66, 67, 68, 69, 70, 71, 72, 73, 74, 75, 76, 77, 78, 79, 80, 81, 82, 83, 84, 85, 86, 87, 88, 89, 90, 91, 92, 93, 94, 95, 96, 97, 98, 99, 100, 101, 102] (by decide +kernel) (by decide +kernel)
set_option maxRecDepth 20000 in
theorem gX11_branch_X11_branchNow : GoodIn wsX11_branch (wsV RX11 124 RX11 yX11_branchNow wsX11_branchNow) := goodIn_app (goodIn_of _ (by decide +kernel)) ggX11_branch_X11_branchNow
theorem dX11_branch_0 : decode cX11_branch 0 = .ok (.aload_n 0, 1) := by decide +kernel
theorem dX11_branch_1 : decode cX11_branch 1 = .ok (.iload_n 1, 1) := by decide +kernel
theorem dX11_branch_2 : decode cX11_branch 2 = .ok (.invokevirtual 120, 3) := by decide +kernel
theorem dX11_branch_5 : decode cX11_branch 5 = .ok (.ifCond .ne 8, 3) := by decide +kernel
theorem dX11_branch_8 : decode cX11_branch 8 = .ok (.bipush (-101), 2) := by decide +kernel
theorem dX11_branch_10 : decode cX11_branch 10 = .ok (.goto 24, 3) := by decide +kernel
theorem dX11_branch_13 : decode cX11_branch 13 = .ok (.iload_n 2, 1) := by decide +kernel
theorem dX11_branch_14 : decode cX11_branch 14 = .ok (.iconst 0, 1) := by decide +kernel
theorem dX11_branch_15 : decode cX11_branch 15 = .ok (.bipush 7, 2) := by decide +kernel
theorem dX11_branch_17 : decode cX11_branch 17 = .ok (.invokestatic 57, 3) := by decide +kernel
theorem dX11_branch_20 : decode cX11_branch 20 = .ok (.ifCond .eq 12, 3) := by decide +kernel
theorem dX11_branch_23 : decode cX11_branch 23 = .ok (.aload_n 0, 1) := by decide +kernel
theorem dX11_branch_24 : decode cX11_branch 24 = .ok (.iload_n 1, 1) := by decide +kernel
theorem dX11_branch_25 : decode cX11_branch 25 = .ok (.iload_n 2, 1) := by decide +kernel
theorem dX11_branch_26 : decode cX11_branch 26 = .ok (.invokevirtual 124, 3) := by decide +kernel
theorem dX11_branch_29 : decode cX11_branch 29 = .ok (.goto 5, 3) := by decide +kernel
theorem dX11_branch_32 : decode cX11_branch 32 = .ok (.bipush (-102), 2) := by decide +kernel
theorem dX11_branch_34 : decode cX11_branch 34 = .ok (.ireturn, 1) := by decide +kernel
set_option maxRecDepth 20000 in
theorem ggX11_as_X11_isBranch : GoodIn wsX11_as wsX11_isBranch := goodIn_r _ [6, 7, 8, 9, 5, 10, 11, 12, 13, 14, 15, 16, 17, 18, 19, 20, 21, 22, 23, 24, 25, 26, 27, 28, 29, 30, 31, 32, 33, 34, 35, 36, 37, 38, 39, 40, 41, 42, 43, 44] (by decide +kernel) (by decide +kernel)
set_option maxRecDepth 20000 in
theorem gX11_as_X11_isBranch : GoodIn wsX11_as (wsV RX11 120 RX11 yX11_isBranch wsX11_isBranch) := goodIn_app (goodIn_of _ (by decide +kernel)) ggX11_as_X11_isBranch
set_option maxRecDepth 20000 in
theorem ggX11_as_X11_within : GoodIn wsX11_as wsX11_within := goodIn_r _ [10] (by decide +kernel) (by decide +kernel)
set_option maxRecDepth 20000 in
theorem gX11_as_X11_within : GoodIn wsX11_as (va_wsS RX11 57 yX11_within wsX11_within) := goodIn_app (goodIn_of _ (by decide +kernel)) ggX11_as_X11_within
theorem dX11_as_0 : decode cX11_as 0 = .ok (.aload_n 0, 1) := by decide +kernel
theorem dX11_as_1 : decode cX11_as 1 = .ok (.iload_n 1, 1) := by decide +kernel
theorem dX11_as_2 : decode cX11_as 2 = .ok (.invokevirtual 120, 3) := by decide +kernel
theorem dX11_as_5 : decode cX11_as 5 = .ok (.ifCond .ne 6, 3) := by decide +kernel
theorem dX11_as_8 : decode cX11_as 8 = .ok (.bipush (-101), 2) := by decide +kernel
theorem dX11_as_10 : decode cX11_as 10 = .ok (.ireturn, 1) := by decide +kernel
theorem dX11_as_11 : decode cX11_as 11 = .ok (.iload_n 2, 1) := by decide +kernel
theorem dX11_as_12 : decode cX11_as 12 = .ok (.iconst 0, 1) := by decide +kernel
theorem dX11_as_13 : decode cX11_as 13 = .ok (.iconst 4, 1) := by decide +kernel
theorem dX11_as_14 : decode cX11_as 14 = .ok (.invokestatic 57, 3) := by decide +kernel
theorem dX11_as_17 : decode cX11_as 17 = .ok (.ifCond .ne 6, 3) := by decide +kernel
theorem dX11_as_20 : decode cX11_as 20 = .ok (.bipush (-102), 2) := by decide +kernel
theorem dX11_as_22 : decode cX11_as 22 = .ok (.ireturn, 1) := by decide +kernel
theorem dX11_as_23 : decode cX11_as 23 = .ok (.aload_n 0, 1) := by decide +kernel
theorem dX11_as_24 : decode cX11_as 24 = .ok (.getfield 7, 3) := by decide +kernel
theorem dX11_as_27 : decode cX11_as 27 = .ok (.iload_n 1, 1) := by decide +kernel
theorem dX11_as_28 : decode cX11_as 28 = .ok (.iaload, 1) := by decide +kernel
theorem dX11_as_29 : decode cX11_as 29 = .ok (.istore_n 3, 1) := by decide +kernel
theorem dX11_as_30 : decode cX11_as 30 = .ok (.iload_n 2, 1) := by decide +kernel
theorem dX11_as_31 : decode cX11_as 31 = .ok (.ifCond .eq 18, 3) := by decide +kernel
theorem dX11_as_34 : decode cX11_as 34 = .ok (.iload_n 3, 1) := by decide +kernel
theorem dX11_as_35 : decode cX11_as 35 = .ok (.iload_n 2, 1) := by decide +kernel
theorem dX11_as_36 : decode cX11_as 36 = .ok (.if_icmp .eq 13, 3) := by decide +kernel
theorem dX11_as_39 : decode cX11_as 39 = .ok (.iload_n 2, 1) := by decide +kernel
theorem dX11_as_40 : decode cX11_as 40 = .ok (.iconst 1, 1) := by decide +kernel
theorem dX11_as_41 : decode cX11_as 41 = .ok (.if_icmp .ne 12, 3) := by decide +kernel
theorem dX11_as_44 : decode cX11_as 44 = .ok (.iload_n 3, 1) := by decide +kernel
theorem dX11_as_45 : decode cX11_as 45 = .ok (.iconst 4, 1) := by decide +kernel
theorem dX11_as_46 : decode cX11_as 46 = .ok (.if_icmp .ne 7, 3) := by decide +kernel
theorem dX11_as_49 : decode cX11_as 49 = .ok (.iload_n 1, 1) := by decide +kernel
theorem dX11_as_50 : decode cX11_as 50 = .ok (.goto 4, 3) := by decide +kernel
theorem dX11_as_53 : decode cX11_as 53 = .ok (.iconst (-1), 1) := by decide +kernel
theorem dX11_as_54 : decode cX11_as 54 = .ok (.ireturn, 1) := by decide +kernel
set_option maxRecDepth 20000 in
theorem ggX11_cut_X11_isBranch : GoodIn wsX11_cut wsX11_isBranch := goodIn_r _ [8, 9, 10, 11, 7, 12, 37, 38, 39, 40, 41, 42, 43, 44, 45, 46, 47, 48, 49, 50, 51, 52, 53, 54, 55, 56, 57, 58, 59, 60, 61, 62, 63, 64, 65, 66, 67, 68, 69, 70] (by decide +kernel) (by decide +kernel)
set_option maxRecDepth 20000 in
theorem gX11_cut_X11_isBranch : GoodIn wsX11_cut (wsV RX11 120 RX11 yX11_isBranch wsX11_isBranch) := goodIn_app (goodIn_of _ (by decide +kernel)) ggX11_cut_X11_isBranch
set_option maxRecDepth 20000 in
theorem ggX11_cut_X11_mayCut : GoodIn wsX11_cut wsX11_mayCut := goodIn_r _ [16, 17, 18, 19, 7, 20, 21, 22, 23, 24, 9, 25, 37, 38, 39, 40, 41, 42, 43, 44, 45, 46, 47, 48, 49, 50, 51, 52, 53, 54, 55, 56, 57, 58, 59, 60, 61, 62, 63, 64, 65, 66, 67, 68, 69, 70] (by decide +kernel) (by decide +kernel)
set_option maxRecDepth 20000 in
theorem gX11_cut_X11_mayCut : GoodIn wsX11_cut (wsV RX11 111 RX11 yX11_mayCut wsX11_mayCut) := goodIn_app (goodIn_of _ (by decide +kernel)) ggX11_cut_X11_mayCut
set_option maxRecDepth 20000 in
theorem ggX11_cut_X11_leaves : GoodIn wsX11_cut wsX11_leaves := goodIn_r _ [29, 30, 31, 32, 7, 33, 9, 25, 18, 19, 20, 37, 38, 39, 40, 41, 42, 43, 44, 45, 46, 47, 48, 49, 50, 51, 52, 53, 54, 55, 56, 57, 58, 59, 60, 61, 62, 63, 64, 65, 66, 67, 68, 69, 70] (by decide +kernel) (by decide +kernel)
set_option maxRecDepth 20000 in
theorem gX11_cut_X11_leaves : GoodIn wsX11_cut (wsV RX11 128 RX11 yX11_leaves wsX11_leaves) := goodIn_app (goodIn_of _ (by decide +kernel)) ggX11_cut_X11_leaves
set_option maxRecDepth 20000 in
theorem ggX11_cut_X11_size : GoodIn wsX11_cut wsX11_size := goodIn_r _ [36] (by decide +kernel) (by decide +kernel)
set_option maxRecDepth 20000 in
theorem gX11_cut_X11_size : GoodIn wsX11_cut (va_wsS RX11 131 yX11_size wsX11_size) := goodIn_app (goodIn_of _ (by decide +kernel)) ggX11_cut_X11_size
theorem dX11_cut_0 : decode cX11_cut 0 = .ok (.aload_n 0, 1) := by decide +kernel
theorem dX11_cut_1 : decode cX11_cut 1 = .ok (.iload_n 1, 1) := by decide +kernel
theorem dX11_cut_2 : decode cX11_cut 2 = .ok (.invokevirtual 120, 3) := by decide +kernel
theorem dX11_cut_5 : decode cX11_cut 5 = .ok (.ifCond .ne 6, 3) := by decide +kernel
theorem dX11_cut_8 : decode cX11_cut 8 = .ok (.bipush (-101), 2) := by decide +kernel
theorem dX11_cut_10 : decode cX11_cut 10 = .ok (.ireturn, 1) := by decide +kernel
theorem dX11_cut_11 : decode cX11_cut 11 = .ok (.aload_n 0, 1) := by decide +kernel
theorem dX11_cut_12 : decode cX11_cut 12 = .ok (.aload_n 0, 1) := by decide +kernel
theorem dX11_cut_13 : decode cX11_cut 13 = .ok (.getfield 89, 3) := by decide +kernel
theorem dX11_cut_16 : decode cX11_cut 16 = .ok (.iload_n 1, 1) := by decide +kernel
theorem dX11_cut_17 : decode cX11_cut 17 = .ok (.aload_n 0, 1) := by decide +kernel
theorem dX11_cut_18 : decode cX11_cut 18 = .ok (.getfield 86, 3) := by decide +kernel
theorem dX11_cut_21 : decode cX11_cut 21 = .ok (.invokevirtual 111, 3) := by decide +kernel
theorem dX11_cut_24 : decode cX11_cut 24 = .ok (.ifCond .ne 6, 3) := by decide +kernel
theorem dX11_cut_27 : decode cX11_cut 27 = .ok (.bipush (-103), 2) := by decide +kernel
theorem dX11_cut_29 : decode cX11_cut 29 = .ok (.ireturn, 1) := by decide +kernel
theorem dX11_cut_30 : decode cX11_cut 30 = .ok (.aload_n 0, 1) := by decide +kernel
theorem dX11_cut_31 : decode cX11_cut 31 = .ok (.getfield 92, 3) := by decide +kernel
theorem dX11_cut_34 : decode cX11_cut 34 = .ok (.sipush 999, 3) := by decide +kernel
theorem dX11_cut_37 : decode cX11_cut 37 = .ok (.if_icmp .ne 6, 3) := by decide +kernel
theorem dX11_cut_40 : decode cX11_cut 40 = .ok (.bipush (-104), 2) := by decide +kernel
theorem dX11_cut_42 : decode cX11_cut 42 = .ok (.ireturn, 1) := by decide +kernel
theorem dX11_cut_43 : decode cX11_cut 43 = .ok (.aload_n 0, 1) := by decide +kernel
theorem dX11_cut_44 : decode cX11_cut 44 = .ok (.iload_n 1, 1) := by decide +kernel
theorem dX11_cut_45 : decode cX11_cut 45 = .ok (.aload_n 0, 1) := by decide +kernel
theorem dX11_cut_46 : decode cX11_cut 46 = .ok (.getfield 86, 3) := by decide +kernel
theorem dX11_cut_49 : decode cX11_cut 49 = .ok (.invokevirtual 128, 3) := by decide +kernel
theorem dX11_cut_52 : decode cX11_cut 52 = .ok (.istore_n 2, 1) := by decide +kernel
theorem dX11_cut_53 : decode cX11_cut 53 = .ok (.aload_n 0, 1) := by decide +kernel
theorem dX11_cut_54 : decode cX11_cut 54 = .ok (.getfield 86, 3) := by decide +kernel
theorem dX11_cut_57 : decode cX11_cut 57 = .ok (.invokestatic 131, 3) := by decide +kernel
theorem dX11_cut_60 : decode cX11_cut 60 = .ok (.iload_n 2, 1) := by decide +kernel
theorem dX11_cut_61 : decode cX11_cut 61 = .ok (.invokestatic 131, 3) := by decide +kernel
theorem dX11_cut_64 : decode cX11_cut 64 = .ok (.isub, 1) := by decide +kernel
theorem dX11_cut_65 : decode cX11_cut 65 = .ok (.istore_n 3, 1) := by decide +kernel
theorem dX11_cut_66 : decode cX11_cut 66 = .ok (.aload_n 0, 1) := by decide +kernel
theorem dX11_cut_67 : decode cX11_cut 67 = .ok (.iload_n 2, 1) := by decide +kernel
theorem dX11_cut_68 : decode cX11_cut 68 = .ok (.putfield 86, 3) := by decide +kernel
theorem dX11_cut_71 : decode cX11_cut 71 = .ok (.aload_n 0, 1) := by decide +kernel
theorem dX11_cut_72 : decode cX11_cut 72 = .ok (.iconst 1, 1) := by decide +kernel
theorem dX11_cut_73 : decode cX11_cut 73 = .ok (.aload_n 0, 1) := by decide +kernel
theorem dX11_cut_74 : decode cX11_cut 74 = .ok (.getfield 89, 3) := by decide +kernel
theorem dX11_cut_77 : decode cX11_cut 77 = .ok (.isub, 1) := by decide +kernel
theorem dX11_cut_78 : decode cX11_cut 78 = .ok (.putfield 89, 3) := by decide +kernel
theorem dX11_cut_81 : decode cX11_cut 81 = .ok (.aload_n 0, 1) := by decide +kernel
theorem dX11_cut_82 : decode cX11_cut 82 = .ok (.dup, 1) := by decide +kernel
theorem dX11_cut_83 : decode cX11_cut 83 = .ok (.getfield 92, 3) := by decide +kernel
theorem dX11_cut_86 : decode cX11_cut 86 = .ok (.iconst 1, 1) := by decide +kernel
theorem dX11_cut_87 : decode cX11_cut 87 = .ok (.iadd, 1) := by decide +kernel
theorem dX11_cut_88 : decode cX11_cut 88 = .ok (.putfield 92, 3) := by decide +kernel
theorem dX11_cut_91 : decode cX11_cut 91 = .ok (.iload_n 3, 1) := by decide +kernel
theorem dX11_cut_92 : decode cX11_cut 92 = .ok (.ireturn, 1) := by decide +kernel
set_option maxRecDepth 20000 in
theorem ggX11_grow_X11_isBranch : GoodIn wsX11_grow wsX11_isBranch := goodIn_r _ [7, 8, 9, 10, 6, 11, 18, 19, 20, 21, 22, 23, 24, 25, 26, 27, 28, 29, 30, 31, 32, 33, 34, 35, 36, 37, 38, 39, 40, 41, 42, 43, 44, 45, 46, 47, 48, 49, 50, 51] (by decide +kernel) (by decide +kernel)
set_option maxRecDepth 20000 in
theorem gX11_grow_X11_isBranch : GoodIn wsX11_grow (wsV RX11 120 RX11 yX11_isBranch wsX11_isBranch) := goodIn_app (goodIn_of _ (by decide +kernel)) ggX11_grow_X11_isBranch
set_option maxRecDepth 20000 in
theorem ggX11_grow_X11_isIn : GoodIn wsX11_grow wsX11_isIn := goodIn_r _ [14] (by decide +kernel) (by decide +kernel)
set_option maxRecDepth 20000 in
theorem gX11_grow_X11_isIn : GoodIn wsX11_grow (va_wsS RX11 101 yX11_isIn wsX11_isIn) := goodIn_app (goodIn_of _ (by decide +kernel)) ggX11_grow_X11_isIn
set_option maxRecDepth 20000 in
theorem ggX11_grow_X11_size : GoodIn wsX11_grow wsX11_size := goodIn_r _ [17] (by decide +kernel) (by decide +kernel)
set_option maxRecDepth 20000 in
theorem gX11_grow_X11_size : GoodIn wsX11_grow (va_wsS RX11 131 yX11_size wsX11_size) := goodIn_app (goodIn_of _ (by decide +kernel)) ggX11_grow_X11_size
theorem dX11_grow_0 : decode cX11_grow 0 = .ok (.aload_n 0, 1) := by decide +kernel
theorem dX11_grow_1 : decode cX11_grow 1 = .ok (.iload_n 1, 1) := by decide +kernel
theorem dX11_grow_2 : decode cX11_grow 2 = .ok (.invokevirtual 120, 3) := by decide +kernel
theorem dX11_grow_5 : decode cX11_grow 5 = .ok (.ifCond .ne 6, 3) := by decide +kernel
theorem dX11_grow_8 : decode cX11_grow 8 = .ok (.bipush (-101), 2) := by decide +kernel
theorem dX11_grow_10 : decode cX11_grow 10 = .ok (.ireturn, 1) := by decide +kernel
theorem dX11_grow_11 : decode cX11_grow 11 = .ok (.aload_n 0, 1) := by decide +kernel
theorem dX11_grow_12 : decode cX11_grow 12 = .ok (.getfield 86, 3) := by decide +kernel
theorem dX11_grow_15 : decode cX11_grow 15 = .ok (.iload_n 1, 1) := by decide +kernel
theorem dX11_grow_16 : decode cX11_grow 16 = .ok (.invokestatic 101, 3) := by decide +kernel
theorem dX11_grow_19 : decode cX11_grow 19 = .ok (.ifCond .ne 29, 3) := by decide +kernel
theorem dX11_grow_22 : decode cX11_grow 22 = .ok (.aload_n 0, 1) := by decide +kernel
theorem dX11_grow_23 : decode cX11_grow 23 = .ok (.getfield 13, 3) := by decide +kernel
theorem dX11_grow_26 : decode cX11_grow 26 = .ok (.iload_n 1, 1) := by decide +kernel
theorem dX11_grow_27 : decode cX11_grow 27 = .ok (.iaload, 1) := by decide +kernel
theorem dX11_grow_28 : decode cX11_grow 28 = .ok (.iconst (-1), 1) := by decide +kernel
theorem dX11_grow_29 : decode cX11_grow 29 = .ok (.if_icmp .eq 22, 3) := by decide +kernel
theorem dX11_grow_32 : decode cX11_grow 32 = .ok (.aload_n 0, 1) := by decide +kernel
theorem dX11_grow_33 : decode cX11_grow 33 = .ok (.getfield 86, 3) := by decide +kernel
theorem dX11_grow_36 : decode cX11_grow 36 = .ok (.aload_n 0, 1) := by decide +kernel
theorem dX11_grow_37 : decode cX11_grow 37 = .ok (.getfield 13, 3) := by decide +kernel
theorem dX11_grow_40 : decode cX11_grow 40 = .ok (.iload_n 1, 1) := by decide +kernel
theorem dX11_grow_41 : decode cX11_grow 41 = .ok (.iaload, 1) := by decide +kernel
theorem dX11_grow_42 : decode cX11_grow 42 = .ok (.invokestatic 101, 3) := by decide +kernel
theorem dX11_grow_45 : decode cX11_grow 45 = .ok (.ifCond .ne 6, 3) := by decide +kernel
theorem dX11_grow_48 : decode cX11_grow 48 = .ok (.bipush (-103), 2) := by decide +kernel
theorem dX11_grow_50 : decode cX11_grow 50 = .ok (.ireturn, 1) := by decide +kernel
theorem dX11_grow_51 : decode cX11_grow 51 = .ok (.aload_n 0, 1) := by decide +kernel
theorem dX11_grow_52 : decode cX11_grow 52 = .ok (.dup, 1) := by decide +kernel
theorem dX11_grow_53 : decode cX11_grow 53 = .ok (.getfield 86, 3) := by decide +kernel
theorem dX11_grow_56 : decode cX11_grow 56 = .ok (.iconst 1, 1) := by decide +kernel
theorem dX11_grow_57 : decode cX11_grow 57 = .ok (.iload_n 1, 1) := by decide +kernel
theorem dX11_grow_58 : decode cX11_grow 58 = .ok (.ishl, 1) := by decide +kernel
theorem dX11_grow_59 : decode cX11_grow 59 = .ok (.ior, 1) := by decide +kernel
theorem dX11_grow_60 : decode cX11_grow 60 = .ok (.putfield 86, 3) := by decide +kernel
theorem dX11_grow_63 : decode cX11_grow 63 = .ok (.aload_n 0, 1) := by decide +kernel
theorem dX11_grow_64 : decode cX11_grow 64 = .ok (.getfield 86, 3) := by decide +kernel
theorem dX11_grow_67 : decode cX11_grow 67 = .ok (.invokestatic 131, 3) := by decide +kernel
theorem dX11_grow_70 : decode cX11_grow 70 = .ok (.ireturn, 1) := by decide +kernel
theorem dX11_pass_0 : decode cX11_pass 0 = .ok (.aload_n 0, 1) := by decide +kernel
theorem dX11_pass_1 : decode cX11_pass 1 = .ok (.getfield 83, 3) := by decide +kernel
theorem dX11_pass_4 : decode cX11_pass 4 = .ok (.ifCond .ne 6, 3) := by decide +kernel
theorem dX11_pass_7 : decode cX11_pass 7 = .ok (.bipush (-103), 2) := by decide +kernel
theorem dX11_pass_9 : decode cX11_pass 9 = .ok (.ireturn, 1) := by decide +kernel
theorem dX11_pass_10 : decode cX11_pass 10 = .ok (.aload_n 0, 1) := by decide +kernel
theorem dX11_pass_11 : decode cX11_pass 11 = .ok (.iconst 1, 1) := by decide +kernel
theorem dX11_pass_12 : decode cX11_pass 12 = .ok (.aload_n 0, 1) := by decide +kernel
theorem dX11_pass_13 : decode cX11_pass 13 = .ok (.getfield 89, 3) := by decide +kernel
theorem dX11_pass_16 : decode cX11_pass 16 = .ok (.isub, 1) := by decide +kernel
theorem dX11_pass_17 : decode cX11_pass 17 = .ok (.putfield 89, 3) := by decide +kernel
theorem dX11_pass_20 : decode cX11_pass 20 = .ok (.iconst 1, 1) := by decide +kernel
theorem dX11_pass_21 : decode cX11_pass 21 = .ok (.aload_n 0, 1) := by decide +kernel
theorem dX11_pass_22 : decode cX11_pass 22 = .ok (.getfield 89, 3) := by decide +kernel
theorem dX11_pass_25 : decode cX11_pass 25 = .ok (.isub, 1) := by decide +kernel
theorem dX11_pass_26 : decode cX11_pass 26 = .ok (.ireturn, 1) := by decide +kernel
set_option maxRecDepth 20000 in
theorem ggX11_graft_X11_isBranch : GoodIn wsX11_graft wsX11_isBranch := goodIn_r _ [6, 7, 8, 9, 5, 10, 11, 12, 13, 14, 15, 16, 17, 18, 19, 20, 21, 22, 23, 24, 25, 26, 27, 28, 29, 30, 31, 32, 33, 34, 35, 36, 37, 38, 39, 40, 41, 42, 43, 44] (by decide +kernel) (by decide +kernel)
set_option maxRecDepth 20000 in
theorem gX11_graft_X11_isBranch : GoodIn wsX11_graft (wsV RX11 120 RX11 yX11_isBranch wsX11_isBranch) := goodIn_app (goodIn_of _ (by decide +kernel)) ggX11_graft_X11_isBranch
set_option maxRecDepth 20000 in
theorem ggX11_graft_X11_within : GoodIn wsX11_graft wsX11_within := goodIn_r _ [10] (by decide +kernel) (by decide +kernel)
set_option maxRecDepth 20000 in
theorem gX11_graft_X11_within : GoodIn wsX11_graft (va_wsS RX11 57 yX11_within wsX11_within) := goodIn_app (goodIn_of _ (by decide +kernel)) ggX11_graft_X11_within
theorem dX11_graft_0 : decode cX11_graft 0 = .ok (.aload_n 0, 1) := by decide +kernel
theorem dX11_graft_1 : decode cX11_graft 1 = .ok (.iload_n 1, 1) := by decide +kernel
theorem dX11_graft_2 : decode cX11_graft 2 = .ok (.invokevirtual 120, 3) := by decide +kernel
theorem dX11_graft_5 : decode cX11_graft 5 = .ok (.ifCond .ne 6, 3) := by decide +kernel
theorem dX11_graft_8 : decode cX11_graft 8 = .ok (.bipush (-101), 2) := by decide +kernel
theorem dX11_graft_10 : decode cX11_graft 10 = .ok (.ireturn, 1) := by decide +kernel
theorem dX11_graft_11 : decode cX11_graft 11 = .ok (.iload_n 2, 1) := by decide +kernel
theorem dX11_graft_12 : decode cX11_graft 12 = .ok (.iconst 0, 1) := by decide +kernel
theorem dX11_graft_13 : decode cX11_graft 13 = .ok (.iconst 4, 1) := by decide +kernel
theorem dX11_graft_14 : decode cX11_graft 14 = .ok (.invokestatic 57, 3) := by decide +kernel
theorem dX11_graft_17 : decode cX11_graft 17 = .ok (.ifCond .ne 6, 3) := by decide +kernel
theorem dX11_graft_20 : decode cX11_graft 20 = .ok (.bipush (-102), 2) := by decide +kernel
theorem dX11_graft_22 : decode cX11_graft 22 = .ok (.ireturn, 1) := by decide +kernel
theorem dX11_graft_23 : decode cX11_graft 23 = .ok (.aload_n 0, 1) := by decide +kernel
theorem dX11_graft_24 : decode cX11_graft 24 = .ok (.getfield 7, 3) := by decide +kernel
theorem dX11_graft_27 : decode cX11_graft 27 = .ok (.iload_n 1, 1) := by decide +kernel
theorem dX11_graft_28 : decode cX11_graft 28 = .ok (.iaload, 1) := by decide +kernel
theorem dX11_graft_29 : decode cX11_graft 29 = .ok (.istore_n 3, 1) := by decide +kernel
theorem dX11_graft_30 : decode cX11_graft 30 = .ok (.aload_n 0, 1) := by decide +kernel
theorem dX11_graft_31 : decode cX11_graft 31 = .ok (.getfield 7, 3) := by decide +kernel
theorem dX11_graft_34 : decode cX11_graft 34 = .ok (.iload_n 1, 1) := by decide +kernel
theorem dX11_graft_35 : decode cX11_graft 35 = .ok (.iload_n 2, 1) := by decide +kernel
theorem dX11_graft_36 : decode cX11_graft 36 = .ok (.iastore, 1) := by decide +kernel
theorem dX11_graft_37 : decode cX11_graft 37 = .ok (.iload_n 3, 1) := by decide +kernel
theorem dX11_graft_38 : decode cX11_graft 38 = .ok (.ireturn, 1) := by decide +kernel
set_option maxRecDepth 20000 in
theorem ggX11_winnerFrom_X11_mayCut : GoodIn wsX11_winnerFrom wsX11_mayCut := goodIn_r _ [7, 8, 9, 10, 6, 11, 12, 13, 14, 15, 1, 16, 25, 26, 27, 28, 29, 30, 31, 32, 33, 34, 35, 36, 37, 38, 39, 40, 41, 42, 43, 44, 45, 46, 47, 48, 49, 50, 51, 52, 53, 54, 55, 56, 57, 58] (by decide +kernel) (by decide +kernel)
set_option maxRecDepth 20000 in
theorem gX11_winnerFrom_X11_mayCut : GoodIn wsX11_winnerFrom (wsV RX11 111 RX11 yX11_mayCut wsX11_mayCut) := goodIn_app (goodIn_of _ (by decide +kernel)) ggX11_winnerFrom_X11_mayCut
set_option maxRecDepth 20000 in
theorem ggX11_winnerFrom_X11_leaves : GoodIn wsX11_winnerFrom wsX11_leaves := goodIn_r _ [20, 21, 22, 23, 6, 24, 1, 16, 9, 10, 11, 25, 26, 27, 28, 29, 30, 31, 32, 33, 34, 35, 36, 37, 38, 39, 40, 41, 42, 43, 44, 45, 46, 47, 48, 49, 50, 51, 52, 53, 54, 55, 56, 57, 58] (by decide +kernel) (by decide +kernel)
set_option maxRecDepth 20000 in
theorem gX11_winnerFrom_X11_leaves : GoodIn wsX11_winnerFrom (wsV RX11 128 RX11 yX11_leaves wsX11_leaves) := goodIn_app (goodIn_of _ (by decide +kernel)) ggX11_winnerFrom_X11_leaves
theorem dX11_winnerFrom_0 : decode cX11_winnerFrom 0 = .ok (.iconst 0, 1) := by decide +kernel
theorem dX11_winnerFrom_1 : decode cX11_winnerFrom 1 = .ok (.istore_n 3, 1) := by decide +kernel
theorem dX11_winnerFrom_2 : decode cX11_winnerFrom 2 = .ok (.iload_n 3, 1) := by decide +kernel
theorem dX11_winnerFrom_3 : decode cX11_winnerFrom 3 = .ok (.aload_n 0, 1) := by decide +kernel
theorem dX11_winnerFrom_4 : decode cX11_winnerFrom 4 = .ok (.getfield 83, 3) := by decide +kernel
theorem dX11_winnerFrom_7 : decode cX11_winnerFrom 7 = .ok (.if_icmp .ge 42, 3) := by decide +kernel
theorem dX11_winnerFrom_10 : decode cX11_winnerFrom 10 = .ok (.aload_n 0, 1) := by decide +kernel
theorem dX11_winnerFrom_11 : decode cX11_winnerFrom 11 = .ok (.iload_n 2, 1) := by decide +kernel
theorem dX11_winnerFrom_12 : decode cX11_winnerFrom 12 = .ok (.iload_n 3, 1) := by decide +kernel
theorem dX11_winnerFrom_13 : decode cX11_winnerFrom 13 = .ok (.iload_n 1, 1) := by decide +kernel
theorem dX11_winnerFrom_14 : decode cX11_winnerFrom 14 = .ok (.invokevirtual 111, 3) := by decide +kernel
theorem dX11_winnerFrom_17 : decode cX11_winnerFrom 17 = .ok (.ifCond .eq 26, 3) := by decide +kernel
theorem dX11_winnerFrom_20 : decode cX11_winnerFrom 20 = .ok (.aload_n 0, 1) := by decide +kernel
theorem dX11_winnerFrom_21 : decode cX11_winnerFrom 21 = .ok (.getfield 29, 3) := by decide +kernel
theorem dX11_winnerFrom_24 : decode cX11_winnerFrom 24 = .ok (.iconst 2, 1) := by decide +kernel
theorem dX11_winnerFrom_25 : decode cX11_winnerFrom 25 = .ok (.aload_n 0, 1) := by decide +kernel
theorem dX11_winnerFrom_26 : decode cX11_winnerFrom 26 = .ok (.iload_n 3, 1) := by decide +kernel
theorem dX11_winnerFrom_27 : decode cX11_winnerFrom 27 = .ok (.iload_n 1, 1) := by decide +kernel
theorem dX11_winnerFrom_28 : decode cX11_winnerFrom 28 = .ok (.invokevirtual 128, 3) := by decide +kernel
theorem dX11_winnerFrom_31 : decode cX11_winnerFrom 31 = .ok (.imul, 1) := by decide +kernel
theorem dX11_winnerFrom_32 : decode cX11_winnerFrom 32 = .ok (.iconst 1, 1) := by decide +kernel
theorem dX11_winnerFrom_33 : decode cX11_winnerFrom 33 = .ok (.iadd, 1) := by decide +kernel
theorem dX11_winnerFrom_34 : decode cX11_winnerFrom 34 = .ok (.iload_n 2, 1) := by decide +kernel
end
section
theorem dX11_winnerFrom_35 : decode cX11_winnerFrom 35 = .ok (.isub, 1) := by decide +kernel
theorem dX11_winnerFrom_36 : decode cX11_winnerFrom 36 = .ok (.iaload, 1) := by decide +kernel
theorem dX11_winnerFrom_37 : decode cX11_winnerFrom 37 = .ok (.iload_n 2, 1) := by decide +kernel
theorem dX11_winnerFrom_38 : decode cX11_winnerFrom 38 = .ok (.if_icmp .ne 5, 3) := by decide +kernel
theorem dX11_winnerFrom_41 : decode cX11_winnerFrom 41 = .ok (.iload_n 2, 1) := by decide +kernel
theorem dX11_winnerFrom_42 : decode cX11_winnerFrom 42 = .ok (.ireturn, 1) := by decide +kernel
theorem dX11_winnerFrom_43 : decode cX11_winnerFrom 43 = .ok (.iinc 3 1, 3) := by decide +kernel
theorem dX11_winnerFrom_46 : decode cX11_winnerFrom 46 = .ok (.goto (-44), 3) := by decide +kernel
theorem dX11_winnerFrom_49 : decode cX11_winnerFrom 49 = .ok (.iconst 1, 1) := by decide +kernel
theorem dX11_winnerFrom_50 : decode cX11_winnerFrom 50 = .ok (.iload_n 2, 1) := by decide +kernel
theorem dX11_winnerFrom_51 : decode cX11_winnerFrom 51 = .ok (.isub, 1) := by decide +kernel
theorem dX11_winnerFrom_52 : decode cX11_winnerFrom 52 = .ok (.ireturn, 1) := by decide +kernel
set_option maxRecDepth 20000 in
theorem ggX11_lastingFrom_X11_mayCut : GoodIn wsX11_lastingFrom wsX11_mayCut := goodIn_r _ [9, 10, 11, 12, 8, 13, 14, 15, 16, 17, 3, 18, 27, 28, 29, 30, 31, 32, 33, 34, 35, 36, 37, 38, 39, 40, 41, 42, 43, 44, 45, 46, 47, 48, 49, 50, 51, 52, 53, 54, 55, 56, 57, 58, 59, 60] (by decide +kernel) (by decide +kernel)
set_option maxRecDepth 20000 in
theorem gX11_lastingFrom_X11_mayCut : GoodIn wsX11_lastingFrom (wsV RX11 111 RX11 yX11_mayCut wsX11_mayCut) := goodIn_app (goodIn_of _ (by decide +kernel)) ggX11_lastingFrom_X11_mayCut
set_option maxRecDepth 20000 in
theorem ggX11_lastingFrom_X11_leaves : GoodIn wsX11_lastingFrom wsX11_leaves := goodIn_r _ [22, 23, 24, 25, 8, 26, 3, 18, 11, 12, 13, 27, 28, 29, 30, 31, 32, 33, 34, 35, 36, 37, 38, 39, 40, 41, 42, 43, 44, 45, 46, 47, 48, 49, 50, 51, 52, 53, 54, 55, 56, 57, 58, 59, 60] (by decide +kernel) (by decide +kernel)
set_option maxRecDepth 20000 in
theorem gX11_lastingFrom_X11_leaves : GoodIn wsX11_lastingFrom (wsV RX11 128 RX11 yX11_leaves wsX11_leaves) := goodIn_app (goodIn_of _ (by decide +kernel)) ggX11_lastingFrom_X11_leaves
theorem dX11_lastingFrom_0 : decode cX11_lastingFrom 0 = .ok (.aload_n 0, 1) := by decide +kernel
theorem dX11_lastingFrom_1 : decode cX11_lastingFrom 1 = .ok (.getfield 29, 3) := by decide +kernel
theorem dX11_lastingFrom_4 : decode cX11_lastingFrom 4 = .ok (.iconst 2, 1) := by decide +kernel
theorem dX11_lastingFrom_5 : decode cX11_lastingFrom 5 = .ok (.iload_n 1, 1) := by decide +kernel
theorem dX11_lastingFrom_6 : decode cX11_lastingFrom 6 = .ok (.imul, 1) := by decide +kernel
theorem dX11_lastingFrom_7 : decode cX11_lastingFrom 7 = .ok (.iload_n 2, 1) := by decide +kernel
theorem dX11_lastingFrom_8 : decode cX11_lastingFrom 8 = .ok (.iadd, 1) := by decide +kernel
theorem dX11_lastingFrom_9 : decode cX11_lastingFrom 9 = .ok (.iaload, 1) := by decide +kernel
theorem dX11_lastingFrom_10 : decode cX11_lastingFrom 10 = .ok (.iload_n 2, 1) := by decide +kernel
theorem dX11_lastingFrom_11 : decode cX11_lastingFrom 11 = .ok (.if_icmp .ne 7, 3) := by decide +kernel
theorem dX11_lastingFrom_14 : decode cX11_lastingFrom 14 = .ok (.iconst 1, 1) := by decide +kernel
theorem dX11_lastingFrom_15 : decode cX11_lastingFrom 15 = .ok (.goto 4, 3) := by decide +kernel
theorem dX11_lastingFrom_18 : decode cX11_lastingFrom 18 = .ok (.iconst 0, 1) := by decide +kernel
theorem dX11_lastingFrom_19 : decode cX11_lastingFrom 19 = .ok (.istore_n 3, 1) := by decide +kernel
theorem dX11_lastingFrom_20 : decode cX11_lastingFrom 20 = .ok (.iload_n 3, 1) := by decide +kernel
theorem dX11_lastingFrom_21 : decode cX11_lastingFrom 21 = .ok (.ifCond .eq 8, 3) := by decide +kernel
theorem dX11_lastingFrom_24 : decode cX11_lastingFrom 24 = .ok (.ldc 134, 2) := by decide +kernel
theorem dX11_lastingFrom_26 : decode cX11_lastingFrom 26 = .ok (.goto 4, 3) := by decide +kernel
theorem dX11_lastingFrom_29 : decode cX11_lastingFrom 29 = .ok (.iconst (-1), 1) := by decide +kernel
theorem dX11_lastingFrom_30 : decode cX11_lastingFrom 30 = .ok (.istore 4, 2) := by decide +kernel
theorem dX11_lastingFrom_32 : decode cX11_lastingFrom 32 = .ok (.iconst 0, 1) := by decide +kernel
theorem dX11_lastingFrom_33 : decode cX11_lastingFrom 33 = .ok (.istore 5, 2) := by decide +kernel
theorem dX11_lastingFrom_35 : decode cX11_lastingFrom 35 = .ok (.iload 5, 2) := by decide +kernel
theorem dX11_lastingFrom_37 : decode cX11_lastingFrom 37 = .ok (.aload_n 0, 1) := by decide +kernel
theorem dX11_lastingFrom_38 : decode cX11_lastingFrom 38 = .ok (.getfield 83, 3) := by decide +kernel
theorem dX11_lastingFrom_41 : decode cX11_lastingFrom 41 = .ok (.if_icmp .ge 102, 3) := by decide +kernel
theorem dX11_lastingFrom_44 : decode cX11_lastingFrom 44 = .ok (.aload_n 0, 1) := by decide +kernel
theorem dX11_lastingFrom_45 : decode cX11_lastingFrom 45 = .ok (.iload_n 2, 1) := by decide +kernel
theorem dX11_lastingFrom_46 : decode cX11_lastingFrom 46 = .ok (.iload 5, 2) := by decide +kernel
theorem dX11_lastingFrom_48 : decode cX11_lastingFrom 48 = .ok (.iload_n 1, 1) := by decide +kernel
theorem dX11_lastingFrom_49 : decode cX11_lastingFrom 49 = .ok (.invokevirtual 111, 3) := by decide +kernel
theorem dX11_lastingFrom_52 : decode cX11_lastingFrom 52 = .ok (.ifCond .eq 85, 3) := by decide +kernel
theorem dX11_lastingFrom_55 : decode cX11_lastingFrom 55 = .ok (.iconst 2, 1) := by decide +kernel
theorem dX11_lastingFrom_56 : decode cX11_lastingFrom 56 = .ok (.aload_n 0, 1) := by decide +kernel
theorem dX11_lastingFrom_57 : decode cX11_lastingFrom 57 = .ok (.iload 5, 2) := by decide +kernel
theorem dX11_lastingFrom_59 : decode cX11_lastingFrom 59 = .ok (.iload_n 1, 1) := by decide +kernel
theorem dX11_lastingFrom_60 : decode cX11_lastingFrom 60 = .ok (.invokevirtual 128, 3) := by decide +kernel
theorem dX11_lastingFrom_63 : decode cX11_lastingFrom 63 = .ok (.imul, 1) := by decide +kernel
theorem dX11_lastingFrom_64 : decode cX11_lastingFrom 64 = .ok (.iconst 1, 1) := by decide +kernel
theorem dX11_lastingFrom_65 : decode cX11_lastingFrom 65 = .ok (.iadd, 1) := by decide +kernel
theorem dX11_lastingFrom_66 : decode cX11_lastingFrom 66 = .ok (.iload_n 2, 1) := by decide +kernel
theorem dX11_lastingFrom_67 : decode cX11_lastingFrom 67 = .ok (.isub, 1) := by decide +kernel
theorem dX11_lastingFrom_68 : decode cX11_lastingFrom 68 = .ok (.istore 6, 2) := by decide +kernel
theorem dX11_lastingFrom_70 : decode cX11_lastingFrom 70 = .ok (.aload_n 0, 1) := by decide +kernel
theorem dX11_lastingFrom_71 : decode cX11_lastingFrom 71 = .ok (.getfield 32, 3) := by decide +kernel
theorem dX11_lastingFrom_74 : decode cX11_lastingFrom 74 = .ok (.iload 6, 2) := by decide +kernel
theorem dX11_lastingFrom_76 : decode cX11_lastingFrom 76 = .ok (.iaload, 1) := by decide +kernel
theorem dX11_lastingFrom_77 : decode cX11_lastingFrom 77 = .ok (.istore 7, 2) := by decide +kernel
theorem dX11_lastingFrom_79 : decode cX11_lastingFrom 79 = .ok (.iload_n 3, 1) := by decide +kernel
theorem dX11_lastingFrom_80 : decode cX11_lastingFrom 80 = .ok (.ifCond .eq 29, 3) := by decide +kernel
theorem dX11_lastingFrom_83 : decode cX11_lastingFrom 83 = .ok (.aload_n 0, 1) := by decide +kernel
theorem dX11_lastingFrom_84 : decode cX11_lastingFrom 84 = .ok (.getfield 29, 3) := by decide +kernel
theorem dX11_lastingFrom_87 : decode cX11_lastingFrom 87 = .ok (.iload 6, 2) := by decide +kernel
theorem dX11_lastingFrom_89 : decode cX11_lastingFrom 89 = .ok (.iaload, 1) := by decide +kernel
theorem dX11_lastingFrom_90 : decode cX11_lastingFrom 90 = .ok (.iload_n 2, 1) := by decide +kernel
theorem dX11_lastingFrom_91 : decode cX11_lastingFrom 91 = .ok (.if_icmp .ne 14, 3) := by decide +kernel
theorem dX11_lastingFrom_94 : decode cX11_lastingFrom 94 = .ok (.iload 7, 2) := by decide +kernel
theorem dX11_lastingFrom_96 : decode cX11_lastingFrom 96 = .ok (.iload 4, 2) := by decide +kernel
theorem dX11_lastingFrom_98 : decode cX11_lastingFrom 98 = .ok (.if_icmp .ge 7, 3) := by decide +kernel
theorem dX11_lastingFrom_101 : decode cX11_lastingFrom 101 = .ok (.iconst 1, 1) := by decide +kernel
theorem dX11_lastingFrom_102 : decode cX11_lastingFrom 102 = .ok (.goto 19, 3) := by decide +kernel
theorem dX11_lastingFrom_105 : decode cX11_lastingFrom 105 = .ok (.iconst 0, 1) := by decide +kernel
theorem dX11_lastingFrom_106 : decode cX11_lastingFrom 106 = .ok (.goto 15, 3) := by decide +kernel
theorem dX11_lastingFrom_109 : decode cX11_lastingFrom 109 = .ok (.iload 7, 2) := by decide +kernel
theorem dX11_lastingFrom_111 : decode cX11_lastingFrom 111 = .ok (.iload 4, 2) := by decide +kernel
theorem dX11_lastingFrom_113 : decode cX11_lastingFrom 113 = .ok (.if_icmp .le 7, 3) := by decide +kernel
theorem dX11_lastingFrom_116 : decode cX11_lastingFrom 116 = .ok (.iconst 1, 1) := by decide +kernel
theorem dX11_lastingFrom_117 : decode cX11_lastingFrom 117 = .ok (.goto 4, 3) := by decide +kernel
theorem dX11_lastingFrom_120 : decode cX11_lastingFrom 120 = .ok (.iconst 0, 1) := by decide +kernel
theorem dX11_lastingFrom_121 : decode cX11_lastingFrom 121 = .ok (.istore 8, 2) := by decide +kernel
theorem dX11_lastingFrom_123 : decode cX11_lastingFrom 123 = .ok (.iload 8, 2) := by decide +kernel
theorem dX11_lastingFrom_125 : decode cX11_lastingFrom 125 = .ok (.ifCond .eq 8, 3) := by decide +kernel
theorem dX11_lastingFrom_128 : decode cX11_lastingFrom 128 = .ok (.iload 7, 2) := by decide +kernel
theorem dX11_lastingFrom_130 : decode cX11_lastingFrom 130 = .ok (.goto 5, 3) := by decide +kernel
theorem dX11_lastingFrom_133 : decode cX11_lastingFrom 133 = .ok (.iload 4, 2) := by decide +kernel
theorem dX11_lastingFrom_135 : decode cX11_lastingFrom 135 = .ok (.istore 4, 2) := by decide +kernel
theorem dX11_lastingFrom_137 : decode cX11_lastingFrom 137 = .ok (.iinc 5 1, 3) := by decide +kernel
theorem dX11_lastingFrom_140 : decode cX11_lastingFrom 140 = .ok (.goto (-105), 3) := by decide +kernel
theorem dX11_lastingFrom_143 : decode cX11_lastingFrom 143 = .ok (.iload 4, 2) := by decide +kernel
theorem dX11_lastingFrom_145 : decode cX11_lastingFrom 145 = .ok (.iconst 1, 1) := by decide +kernel
theorem dX11_lastingFrom_146 : decode cX11_lastingFrom 146 = .ok (.iadd, 1) := by decide +kernel
theorem dX11_lastingFrom_147 : decode cX11_lastingFrom 147 = .ok (.ireturn, 1) := by decide +kernel
set_option maxRecDepth 20000 in
theorem ggX11_layWinners_X11_winnerFrom : GoodIn wsX11_layWinners wsX11_winnerFrom := goodIn_r _ [7, 8, 2, 9, 10, 11, 6, 12, 13, 14, 15, 16, 17, 18, 19, 20, 21, 22, 23, 24, 25, 26, 27, 28, 29, 30, 31, 32, 33, 34, 35, 36, 37, 38, 39, 40, 41, 42, 43, 44, 45, 46, 47, 48, 49, 50, 51, 52, 53, 54, 55, 56, 57, 58, 59, 60, 61, 62, 63] (by decide +kernel) (by decide +kernel)
set_option maxRecDepth 20000 in
theorem gX11_layWinners_X11_winnerFrom : GoodIn wsX11_layWinners (wsV RX11 135 RX11 yX11_winnerFrom wsX11_winnerFrom) := goodIn_app (goodIn_of _ (by decide +kernel)) ggX11_layWinners_X11_winnerFrom
theorem dX11_layWinners_0 : decode cX11_layWinners 0 = .ok (.iconst 0, 1) := by decide +kernel
theorem dX11_layWinners_1 : decode cX11_layWinners 1 = .ok (.istore_n 1, 1) := by decide +kernel
theorem dX11_layWinners_2 : decode cX11_layWinners 2 = .ok (.iload_n 1, 1) := by decide +kernel
theorem dX11_layWinners_3 : decode cX11_layWinners 3 = .ok (.aload_n 0, 1) := by decide +kernel
theorem dX11_layWinners_4 : decode cX11_layWinners 4 = .ok (.getfield 86, 3) := by decide +kernel
theorem dX11_layWinners_7 : decode cX11_layWinners 7 = .ok (.if_icmp .gt 50, 3) := by decide +kernel
theorem dX11_layWinners_10 : decode cX11_layWinners 10 = .ok (.iload_n 1, 1) := by decide +kernel
theorem dX11_layWinners_11 : decode cX11_layWinners 11 = .ok (.aload_n 0, 1) := by decide +kernel
theorem dX11_layWinners_12 : decode cX11_layWinners 12 = .ok (.getfield 86, 3) := by decide +kernel
theorem dX11_layWinners_15 : decode cX11_layWinners 15 = .ok (.iconst (-1), 1) := by decide +kernel
theorem dX11_layWinners_16 : decode cX11_layWinners 16 = .ok (.ixor, 1) := by decide +kernel
theorem dX11_layWinners_17 : decode cX11_layWinners 17 = .ok (.iand, 1) := by decide +kernel
theorem dX11_layWinners_18 : decode cX11_layWinners 18 = .ok (.ifCond .ne 33, 3) := by decide +kernel
theorem dX11_layWinners_21 : decode cX11_layWinners 21 = .ok (.aload_n 0, 1) := by decide +kernel
theorem dX11_layWinners_22 : decode cX11_layWinners 22 = .ok (.getfield 29, 3) := by decide +kernel
theorem dX11_layWinners_25 : decode cX11_layWinners 25 = .ok (.iconst 2, 1) := by decide +kernel
theorem dX11_layWinners_26 : decode cX11_layWinners 26 = .ok (.iload_n 1, 1) := by decide +kernel
theorem dX11_layWinners_27 : decode cX11_layWinners 27 = .ok (.imul, 1) := by decide +kernel
theorem dX11_layWinners_28 : decode cX11_layWinners 28 = .ok (.aload_n 0, 1) := by decide +kernel
theorem dX11_layWinners_29 : decode cX11_layWinners 29 = .ok (.iload_n 1, 1) := by decide +kernel
theorem dX11_layWinners_30 : decode cX11_layWinners 30 = .ok (.iconst 0, 1) := by decide +kernel
theorem dX11_layWinners_31 : decode cX11_layWinners 31 = .ok (.invokevirtual 135, 3) := by decide +kernel
theorem dX11_layWinners_34 : decode cX11_layWinners 34 = .ok (.iastore, 1) := by decide +kernel
theorem dX11_layWinners_35 : decode cX11_layWinners 35 = .ok (.aload_n 0, 1) := by decide +kernel
theorem dX11_layWinners_36 : decode cX11_layWinners 36 = .ok (.getfield 29, 3) := by decide +kernel
theorem dX11_layWinners_39 : decode cX11_layWinners 39 = .ok (.iconst 2, 1) := by decide +kernel
theorem dX11_layWinners_40 : decode cX11_layWinners 40 = .ok (.iload_n 1, 1) := by decide +kernel
theorem dX11_layWinners_41 : decode cX11_layWinners 41 = .ok (.imul, 1) := by decide +kernel
theorem dX11_layWinners_42 : decode cX11_layWinners 42 = .ok (.iconst 1, 1) := by decide +kernel
theorem dX11_layWinners_43 : decode cX11_layWinners 43 = .ok (.iadd, 1) := by decide +kernel
theorem dX11_layWinners_44 : decode cX11_layWinners 44 = .ok (.aload_n 0, 1) := by decide +kernel
theorem dX11_layWinners_45 : decode cX11_layWinners 45 = .ok (.iload_n 1, 1) := by decide +kernel
theorem dX11_layWinners_46 : decode cX11_layWinners 46 = .ok (.iconst 1, 1) := by decide +kernel
theorem dX11_layWinners_47 : decode cX11_layWinners 47 = .ok (.invokevirtual 135, 3) := by decide +kernel
theorem dX11_layWinners_50 : decode cX11_layWinners 50 = .ok (.iastore, 1) := by decide +kernel
theorem dX11_layWinners_51 : decode cX11_layWinners 51 = .ok (.iinc 1 1, 3) := by decide +kernel
theorem dX11_layWinners_54 : decode cX11_layWinners 54 = .ok (.goto (-52), 3) := by decide +kernel
theorem dX11_layWinners_57 : decode cX11_layWinners 57 = .ok (.return_, 1) := by decide +kernel
set_option maxRecDepth 20000 in
theorem ggX11_layLasting_X11_layWinners : GoodIn wsX11_layLasting wsX11_layWinners := goodIn_r _ [7, 1, 8, 9, 10, 11, 6, 12, 13, 14, 15, 16, 17, 18, 19, 20, 21, 22, 23, 24, 25, 26, 27, 28, 29, 30, 31, 32, 33, 34, 40, 41, 42, 43, 44, 45, 46, 47, 48, 49, 50, 51, 52, 53, 54, 55, 56, 57, 58, 59, 60, 61, 62, 63, 64, 65, 66, 67, 68, 69, 70, 71, 72, 73] (by decide +kernel) (by decide +kernel)
set_option maxRecDepth 20000 in
theorem gX11_layLasting_X11_layWinners : GoodIn wsX11_layLasting (wsV RX11 138 RX11 yX11_layWinners wsX11_layWinners) := goodIn_app (goodIn_of _ (by decide +kernel)) ggX11_layLasting_X11_layWinners
set_option maxRecDepth 20000 in
theorem ggX11_layLasting_X11_lastingFrom : GoodIn wsX11_layLasting wsX11_lastingFrom := goodIn_r _ [38, 8, 39, 13, 2, 14, 15, 16, 6, 17, 18, 19, 20, 21, 22, 23, 24, 25, 26, 27, 28, 29, 30, 31, 32, 33, 34, 40, 41, 42, 43, 44, 45, 46, 47, 48, 49, 50, 51, 52, 53, 54, 55, 56, 57, 58, 59, 60, 61, 62, 63, 64, 65, 66, 67, 68, 69, 70, 71, 72, 73] (by decide +kernel) (by decide +kernel)
set_option maxRecDepth 20000 in
theorem gX11_layLasting_X11_lastingFrom : GoodIn wsX11_layLasting (wsV RX11 141 RX11 yX11_lastingFrom wsX11_lastingFrom) := goodIn_app (goodIn_of _ (by decide +kernel)) ggX11_layLasting_X11_lastingFrom
theorem dX11_layLasting_0 : decode cX11_layLasting 0 = .ok (.aload_n 0, 1) := by decide +kernel
theorem dX11_layLasting_1 : decode cX11_layLasting 1 = .ok (.invokevirtual 138, 3) := by decide +kernel
theorem dX11_layLasting_4 : decode cX11_layLasting 4 = .ok (.iconst 0, 1) := by decide +kernel
theorem dX11_layLasting_5 : decode cX11_layLasting 5 = .ok (.istore_n 1, 1) := by decide +kernel
theorem dX11_layLasting_6 : decode cX11_layLasting 6 = .ok (.iload_n 1, 1) := by decide +kernel
theorem dX11_layLasting_7 : decode cX11_layLasting 7 = .ok (.aload_n 0, 1) := by decide +kernel
theorem dX11_layLasting_8 : decode cX11_layLasting 8 = .ok (.getfield 86, 3) := by decide +kernel
theorem dX11_layLasting_11 : decode cX11_layLasting 11 = .ok (.if_icmp .gt 50, 3) := by decide +kernel
theorem dX11_layLasting_14 : decode cX11_layLasting 14 = .ok (.iload_n 1, 1) := by decide +kernel
theorem dX11_layLasting_15 : decode cX11_layLasting 15 = .ok (.aload_n 0, 1) := by decide +kernel
theorem dX11_layLasting_16 : decode cX11_layLasting 16 = .ok (.getfield 86, 3) := by decide +kernel
theorem dX11_layLasting_19 : decode cX11_layLasting 19 = .ok (.iconst (-1), 1) := by decide +kernel
theorem dX11_layLasting_20 : decode cX11_layLasting 20 = .ok (.ixor, 1) := by decide +kernel
theorem dX11_layLasting_21 : decode cX11_layLasting 21 = .ok (.iand, 1) := by decide +kernel
theorem dX11_layLasting_22 : decode cX11_layLasting 22 = .ok (.ifCond .ne 33, 3) := by decide +kernel
theorem dX11_layLasting_25 : decode cX11_layLasting 25 = .ok (.aload_n 0, 1) := by decide +kernel
theorem dX11_layLasting_26 : decode cX11_layLasting 26 = .ok (.getfield 32, 3) := by decide +kernel
theorem dX11_layLasting_29 : decode cX11_layLasting 29 = .ok (.iconst 2, 1) := by decide +kernel
theorem dX11_layLasting_30 : decode cX11_layLasting 30 = .ok (.iload_n 1, 1) := by decide +kernel
theorem dX11_layLasting_31 : decode cX11_layLasting 31 = .ok (.imul, 1) := by decide +kernel
theorem dX11_layLasting_32 : decode cX11_layLasting 32 = .ok (.aload_n 0, 1) := by decide +kernel
theorem dX11_layLasting_33 : decode cX11_layLasting 33 = .ok (.iload_n 1, 1) := by decide +kernel
theorem dX11_layLasting_34 : decode cX11_layLasting 34 = .ok (.iconst 0, 1) := by decide +kernel
theorem dX11_layLasting_35 : decode cX11_layLasting 35 = .ok (.invokevirtual 141, 3) := by decide +kernel
theorem dX11_layLasting_38 : decode cX11_layLasting 38 = .ok (.iastore, 1) := by decide +kernel
theorem dX11_layLasting_39 : decode cX11_layLasting 39 = .ok (.aload_n 0, 1) := by decide +kernel
theorem dX11_layLasting_40 : decode cX11_layLasting 40 = .ok (.getfield 32, 3) := by decide +kernel
theorem dX11_layLasting_43 : decode cX11_layLasting 43 = .ok (.iconst 2, 1) := by decide +kernel
theorem dX11_layLasting_44 : decode cX11_layLasting 44 = .ok (.iload_n 1, 1) := by decide +kernel
theorem dX11_layLasting_45 : decode cX11_layLasting 45 = .ok (.imul, 1) := by decide +kernel
theorem dX11_layLasting_46 : decode cX11_layLasting 46 = .ok (.iconst 1, 1) := by decide +kernel
theorem dX11_layLasting_47 : decode cX11_layLasting 47 = .ok (.iadd, 1) := by decide +kernel
theorem dX11_layLasting_48 : decode cX11_layLasting 48 = .ok (.aload_n 0, 1) := by decide +kernel
theorem dX11_layLasting_49 : decode cX11_layLasting 49 = .ok (.iload_n 1, 1) := by decide +kernel
theorem dX11_layLasting_50 : decode cX11_layLasting 50 = .ok (.iconst 1, 1) := by decide +kernel
theorem dX11_layLasting_51 : decode cX11_layLasting 51 = .ok (.invokevirtual 141, 3) := by decide +kernel
theorem dX11_layLasting_54 : decode cX11_layLasting 54 = .ok (.iastore, 1) := by decide +kernel
theorem dX11_layLasting_55 : decode cX11_layLasting 55 = .ok (.iinc 1 1, 3) := by decide +kernel
theorem dX11_layLasting_58 : decode cX11_layLasting 58 = .ok (.goto (-52), 3) := by decide +kernel
theorem dX11_layLasting_61 : decode cX11_layLasting 61 = .ok (.return_, 1) := by decide +kernel
set_option maxRecDepth 20000 in
theorem ggX11_bestNow_X11_layLasting : GoodIn wsX11_bestNow wsX11_layLasting := goodIn_r _ [9, 2, 4, 10, 11, 12, 8, 13, 3, 14, 15, 16, 17, 1, 18, 19, 20, 21, 22, 23, 24, 25, 26, 27, 28, 29, 30, 31, 32, 33, 34, 35, 36, 37, 38, 39, 40, 41, 42, 43, 44, 45, 46, 47, 48, 49, 50, 51, 52, 53, 54, 55, 56, 57, 58, 59, 60, 61, 62, 63, 64, 65, 66, 67, 68, 69, 70, 71, 72, 73, 74, 75, 76, 77] (by decide +kernel) (by decide +kernel)
set_option maxRecDepth 20000 in
theorem gX11_bestNow_X11_layLasting : GoodIn wsX11_bestNow (wsV RX11 144 RX11 yX11_layLasting wsX11_layLasting) := goodIn_app (goodIn_of _ (by decide +kernel)) ggX11_bestNow_X11_layLasting
set_option maxRecDepth 20000 in
theorem ggX11_bestNow_X11_mayCut : GoodIn wsX11_bestNow wsX11_mayCut := goodIn_r _ [21, 22, 23, 24, 8, 25, 26, 27, 28, 29, 1, 30, 44, 45, 46, 47, 48, 49, 50, 51, 52, 53, 54, 55, 56, 57, 58, 59, 60, 61, 62, 63, 64, 65, 66, 67, 68, 69, 70, 71, 72, 73, 74, 75, 76, 77] (by decide +kernel) (by decide +kernel)
set_option maxRecDepth 20000 in
theorem gX11_bestNow_X11_mayCut : GoodIn wsX11_bestNow (wsV RX11 111 RX11 yX11_mayCut wsX11_mayCut) := goodIn_app (goodIn_of _ (by decide +kernel)) ggX11_bestNow_X11_mayCut
set_option maxRecDepth 20000 in
theorem ggX11_bestNow_X11_leaves : GoodIn wsX11_bestNow wsX11_leaves := goodIn_r _ [34, 35, 36, 37, 8, 38, 1, 30, 23, 24, 25, 44, 45, 46, 47, 48, 49, 50, 51, 52, 53, 54, 55, 56, 57, 58, 59, 60, 61, 62, 63, 64, 65, 66, 67, 68, 69, 70, 71, 72, 73, 74, 75, 76, 77] (by decide +kernel) (by decide +kernel)
set_option maxRecDepth 20000 in
theorem gX11_bestNow_X11_leaves : GoodIn wsX11_bestNow (wsV RX11 128 RX11 yX11_leaves wsX11_leaves) := goodIn_app (goodIn_of _ (by decide +kernel)) ggX11_bestNow_X11_leaves
theorem dX11_bestNow_0 : decode cX11_bestNow 0 = .ok (.aload_n 0, 1) := by decide +kernel
theorem dX11_bestNow_1 : decode cX11_bestNow 1 = .ok (.invokevirtual 144, 3) := by decide +kernel
theorem dX11_bestNow_4 : decode cX11_bestNow 4 = .ok (.iconst (-1), 1) := by decide +kernel
theorem dX11_bestNow_5 : decode cX11_bestNow 5 = .ok (.istore_n 2, 1) := by decide +kernel
theorem dX11_bestNow_6 : decode cX11_bestNow 6 = .ok (.iconst (-1), 1) := by decide +kernel
theorem dX11_bestNow_7 : decode cX11_bestNow 7 = .ok (.istore_n 3, 1) := by decide +kernel
theorem dX11_bestNow_8 : decode cX11_bestNow 8 = .ok (.iconst 0, 1) := by decide +kernel
theorem dX11_bestNow_9 : decode cX11_bestNow 9 = .ok (.istore 4, 2) := by decide +kernel
theorem dX11_bestNow_11 : decode cX11_bestNow 11 = .ok (.iload 4, 2) := by decide +kernel
theorem dX11_bestNow_13 : decode cX11_bestNow 13 = .ok (.aload_n 0, 1) := by decide +kernel
theorem dX11_bestNow_14 : decode cX11_bestNow 14 = .ok (.getfield 83, 3) := by decide +kernel
theorem dX11_bestNow_17 : decode cX11_bestNow 17 = .ok (.if_icmp .ge 96, 3) := by decide +kernel
theorem dX11_bestNow_20 : decode cX11_bestNow 20 = .ok (.aload_n 0, 1) := by decide +kernel
theorem dX11_bestNow_21 : decode cX11_bestNow 21 = .ok (.iload_n 1, 1) := by decide +kernel
theorem dX11_bestNow_22 : decode cX11_bestNow 22 = .ok (.iload 4, 2) := by decide +kernel
theorem dX11_bestNow_24 : decode cX11_bestNow 24 = .ok (.aload_n 0, 1) := by decide +kernel
theorem dX11_bestNow_25 : decode cX11_bestNow 25 = .ok (.getfield 86, 3) := by decide +kernel
theorem dX11_bestNow_28 : decode cX11_bestNow 28 = .ok (.invokevirtual 111, 3) := by decide +kernel
theorem dX11_bestNow_31 : decode cX11_bestNow 31 = .ok (.ifCond .eq 76, 3) := by decide +kernel
theorem dX11_bestNow_34 : decode cX11_bestNow 34 = .ok (.iconst 2, 1) := by decide +kernel
theorem dX11_bestNow_35 : decode cX11_bestNow 35 = .ok (.aload_n 0, 1) := by decide +kernel
theorem dX11_bestNow_36 : decode cX11_bestNow 36 = .ok (.iload 4, 2) := by decide +kernel
theorem dX11_bestNow_38 : decode cX11_bestNow 38 = .ok (.aload_n 0, 1) := by decide +kernel
theorem dX11_bestNow_39 : decode cX11_bestNow 39 = .ok (.getfield 86, 3) := by decide +kernel
theorem dX11_bestNow_42 : decode cX11_bestNow 42 = .ok (.invokevirtual 128, 3) := by decide +kernel
theorem dX11_bestNow_45 : decode cX11_bestNow 45 = .ok (.imul, 1) := by decide +kernel
theorem dX11_bestNow_46 : decode cX11_bestNow 46 = .ok (.iconst 1, 1) := by decide +kernel
theorem dX11_bestNow_47 : decode cX11_bestNow 47 = .ok (.iadd, 1) := by decide +kernel
theorem dX11_bestNow_48 : decode cX11_bestNow 48 = .ok (.iload_n 1, 1) := by decide +kernel
theorem dX11_bestNow_49 : decode cX11_bestNow 49 = .ok (.isub, 1) := by decide +kernel
theorem dX11_bestNow_50 : decode cX11_bestNow 50 = .ok (.istore 5, 2) := by decide +kernel
theorem dX11_bestNow_52 : decode cX11_bestNow 52 = .ok (.aload_n 0, 1) := by decide +kernel
theorem dX11_bestNow_53 : decode cX11_bestNow 53 = .ok (.getfield 29, 3) := by decide +kernel
theorem dX11_bestNow_56 : decode cX11_bestNow 56 = .ok (.iload 5, 2) := by decide +kernel
theorem dX11_bestNow_58 : decode cX11_bestNow 58 = .ok (.iaload, 1) := by decide +kernel
theorem dX11_bestNow_59 : decode cX11_bestNow 59 = .ok (.iload_n 1, 1) := by decide +kernel
theorem dX11_bestNow_60 : decode cX11_bestNow 60 = .ok (.if_icmp .ne 6, 3) := by decide +kernel
theorem dX11_bestNow_63 : decode cX11_bestNow 63 = .ok (.iload 4, 2) := by decide +kernel
theorem dX11_bestNow_65 : decode cX11_bestNow 65 = .ok (.ireturn, 1) := by decide +kernel
theorem dX11_bestNow_66 : decode cX11_bestNow 66 = .ok (.aload_n 0, 1) := by decide +kernel
theorem dX11_bestNow_67 : decode cX11_bestNow 67 = .ok (.getfield 32, 3) := by decide +kernel
theorem dX11_bestNow_70 : decode cX11_bestNow 70 = .ok (.iload 5, 2) := by decide +kernel
theorem dX11_bestNow_72 : decode cX11_bestNow 72 = .ok (.iaload, 1) := by decide +kernel
theorem dX11_bestNow_73 : decode cX11_bestNow 73 = .ok (.iload_n 3, 1) := by decide +kernel
theorem dX11_bestNow_74 : decode cX11_bestNow 74 = .ok (.if_icmp .le 8, 3) := by decide +kernel
theorem dX11_bestNow_77 : decode cX11_bestNow 77 = .ok (.iload 4, 2) := by decide +kernel
theorem dX11_bestNow_79 : decode cX11_bestNow 79 = .ok (.goto 4, 3) := by decide +kernel
theorem dX11_bestNow_82 : decode cX11_bestNow 82 = .ok (.iload_n 2, 1) := by decide +kernel
theorem dX11_bestNow_83 : decode cX11_bestNow 83 = .ok (.istore_n 2, 1) := by decide +kernel
theorem dX11_bestNow_84 : decode cX11_bestNow 84 = .ok (.aload_n 0, 1) := by decide +kernel
theorem dX11_bestNow_85 : decode cX11_bestNow 85 = .ok (.getfield 32, 3) := by decide +kernel
theorem dX11_bestNow_88 : decode cX11_bestNow 88 = .ok (.iload 5, 2) := by decide +kernel
theorem dX11_bestNow_90 : decode cX11_bestNow 90 = .ok (.iaload, 1) := by decide +kernel
theorem dX11_bestNow_91 : decode cX11_bestNow 91 = .ok (.iload_n 3, 1) := by decide +kernel
theorem dX11_bestNow_92 : decode cX11_bestNow 92 = .ok (.if_icmp .le 13, 3) := by decide +kernel
theorem dX11_bestNow_95 : decode cX11_bestNow 95 = .ok (.aload_n 0, 1) := by decide +kernel
theorem dX11_bestNow_96 : decode cX11_bestNow 96 = .ok (.getfield 32, 3) := by decide +kernel
theorem dX11_bestNow_99 : decode cX11_bestNow 99 = .ok (.iload 5, 2) := by decide +kernel
theorem dX11_bestNow_101 : decode cX11_bestNow 101 = .ok (.iaload, 1) := by decide +kernel
theorem dX11_bestNow_102 : decode cX11_bestNow 102 = .ok (.goto 4, 3) := by decide +kernel
theorem dX11_bestNow_105 : decode cX11_bestNow 105 = .ok (.iload_n 3, 1) := by decide +kernel
theorem dX11_bestNow_106 : decode cX11_bestNow 106 = .ok (.istore_n 3, 1) := by decide +kernel
theorem dX11_bestNow_107 : decode cX11_bestNow 107 = .ok (.iinc 4 1, 3) := by decide +kernel
theorem dX11_bestNow_110 : decode cX11_bestNow 110 = .ok (.goto (-99), 3) := by decide +kernel
theorem dX11_bestNow_113 : decode cX11_bestNow 113 = .ok (.iload_n 2, 1) := by decide +kernel
theorem dX11_bestNow_114 : decode cX11_bestNow 114 = .ok (.ireturn, 1) := by decide +kernel
set_option maxRecDepth 20000 in
theorem ggX11_winsNow_X11_layWinners : GoodIn wsX11_winsNow wsX11_layWinners := goodIn_r _ [7, 2, 1, 8, 9, 10, 6, 11, 12, 13, 14, 15, 16, 17, 18, 19, 20, 21, 22, 23, 24, 25, 26, 27, 28, 29, 30, 31, 32, 33, 34, 35, 36, 37, 38, 39, 40, 41, 42, 43, 44, 45, 46, 47, 48, 49, 50, 51, 52, 53, 54, 55, 56, 57, 58, 59, 60, 61, 62, 63, 64, 65, 66, 67] (by decide +kernel) (by decide +kernel)
set_option maxRecDepth 20000 in
theorem gX11_winsNow_X11_layWinners : GoodIn wsX11_winsNow (wsV RX11 138 RX11 yX11_layWinners wsX11_layWinners) := goodIn_app (goodIn_of _ (by decide +kernel)) ggX11_winsNow_X11_layWinners
theorem dX11_winsNow_0 : decode cX11_winsNow 0 = .ok (.aload_n 0, 1) := by decide +kernel
theorem dX11_winsNow_1 : decode cX11_winsNow 1 = .ok (.invokevirtual 138, 3) := by decide +kernel
theorem dX11_winsNow_4 : decode cX11_winsNow 4 = .ok (.aload_n 0, 1) := by decide +kernel
theorem dX11_winsNow_5 : decode cX11_winsNow 5 = .ok (.getfield 29, 3) := by decide +kernel
theorem dX11_winsNow_8 : decode cX11_winsNow 8 = .ok (.iconst 2, 1) := by decide +kernel
theorem dX11_winsNow_9 : decode cX11_winsNow 9 = .ok (.aload_n 0, 1) := by decide +kernel
theorem dX11_winsNow_10 : decode cX11_winsNow 10 = .ok (.getfield 86, 3) := by decide +kernel
theorem dX11_winsNow_13 : decode cX11_winsNow 13 = .ok (.imul, 1) := by decide +kernel
theorem dX11_winsNow_14 : decode cX11_winsNow 14 = .ok (.iload_n 1, 1) := by decide +kernel
theorem dX11_winsNow_15 : decode cX11_winsNow 15 = .ok (.iadd, 1) := by decide +kernel
theorem dX11_winsNow_16 : decode cX11_winsNow 16 = .ok (.iaload, 1) := by decide +kernel
theorem dX11_winsNow_17 : decode cX11_winsNow 17 = .ok (.ireturn, 1) := by decide +kernel
set_option maxRecDepth 20000 in
theorem ggX11_lastsNow_X11_layLasting : GoodIn wsX11_lastsNow wsX11_layLasting := goodIn_r _ [7, 2, 1, 8, 9, 10, 6, 11, 12, 13, 14, 15, 16, 17, 18, 19, 20, 21, 22, 23, 24, 25, 26, 27, 28, 29, 30, 31, 32, 33, 34, 35, 36, 37, 38, 39, 40, 41, 42, 43, 44, 45, 46, 47, 48, 49, 50, 51, 52, 53, 54, 55, 56, 57, 58, 59, 60, 61, 62, 63, 64, 65, 66, 67, 68, 69, 70, 71, 72, 73, 74, 75, 76, 77] (by decide +kernel) (by decide +kernel)
set_option maxRecDepth 20000 in
theorem gX11_lastsNow_X11_layLasting : GoodIn wsX11_lastsNow (wsV RX11 144 RX11 yX11_layLasting wsX11_layLasting) := goodIn_app (goodIn_of _ (by decide +kernel)) ggX11_lastsNow_X11_layLasting
theorem dX11_lastsNow_0 : decode cX11_lastsNow 0 = .ok (.aload_n 0, 1) := by decide +kernel
theorem dX11_lastsNow_1 : decode cX11_lastsNow 1 = .ok (.invokevirtual 144, 3) := by decide +kernel
theorem dX11_lastsNow_4 : decode cX11_lastsNow 4 = .ok (.aload_n 0, 1) := by decide +kernel
theorem dX11_lastsNow_5 : decode cX11_lastsNow 5 = .ok (.getfield 32, 3) := by decide +kernel
theorem dX11_lastsNow_8 : decode cX11_lastsNow 8 = .ok (.iconst 2, 1) := by decide +kernel
theorem dX11_lastsNow_9 : decode cX11_lastsNow 9 = .ok (.aload_n 0, 1) := by decide +kernel
theorem dX11_lastsNow_10 : decode cX11_lastsNow 10 = .ok (.getfield 86, 3) := by decide +kernel
theorem dX11_lastsNow_13 : decode cX11_lastsNow 13 = .ok (.imul, 1) := by decide +kernel
theorem dX11_lastsNow_14 : decode cX11_lastsNow 14 = .ok (.iload_n 1, 1) := by decide +kernel
theorem dX11_lastsNow_15 : decode cX11_lastsNow 15 = .ok (.iadd, 1) := by decide +kernel
theorem dX11_lastsNow_16 : decode cX11_lastsNow 16 = .ok (.iaload, 1) := by decide +kernel
theorem dX11_lastsNow_17 : decode cX11_lastsNow 17 = .ok (.ireturn, 1) := by decide +kernel
set_option maxRecDepth 20000 in
theorem ggX11_refused_X11_within : GoodIn wsX11_refused wsX11_within := goodIn_r _ [5] (by decide +kernel) (by decide +kernel)
set_option maxRecDepth 20000 in
theorem gX11_refused_X11_within : GoodIn wsX11_refused (va_wsS RX11 57 yX11_within wsX11_within) := goodIn_app (goodIn_of _ (by decide +kernel)) ggX11_refused_X11_within
theorem dX11_refused_0 : decode cX11_refused 0 = .ok (.iload_n 1, 1) := by decide +kernel
theorem dX11_refused_1 : decode cX11_refused 1 = .ok (.iconst 0, 1) := by decide +kernel
theorem dX11_refused_2 : decode cX11_refused 2 = .ok (.iconst 1, 1) := by decide +kernel
theorem dX11_refused_3 : decode cX11_refused 3 = .ok (.invokestatic 57, 3) := by decide +kernel
theorem dX11_refused_6 : decode cX11_refused 6 = .ok (.ifCond .ne 8, 3) := by decide +kernel
theorem dX11_refused_9 : decode cX11_refused 9 = .ok (.bipush (-102), 2) := by decide +kernel
theorem dX11_refused_11 : decode cX11_refused 11 = .ok (.goto 16, 3) := by decide +kernel
theorem dX11_refused_14 : decode cX11_refused 14 = .ok (.aload_n 0, 1) := by decide +kernel
theorem dX11_refused_15 : decode cX11_refused 15 = .ok (.getfield 83, 3) := by decide +kernel
theorem dX11_refused_18 : decode cX11_refused 18 = .ok (.ifCond .ne 8, 3) := by decide +kernel
theorem dX11_refused_21 : decode cX11_refused 21 = .ok (.bipush (-103), 2) := by decide +kernel
theorem dX11_refused_23 : decode cX11_refused 23 = .ok (.goto 4, 3) := by decide +kernel
theorem dX11_refused_26 : decode cX11_refused 26 = .ok (.iconst 0, 1) := by decide +kernel
theorem dX11_refused_27 : decode cX11_refused 27 = .ok (.ireturn, 1) := by decide +kernel
set_option maxRecDepth 20000 in
theorem ggX11_wins_X11_refused : GoodIn wsX11_wins wsX11_refused := goodIn_r _ [5, 6, 7, 8, 4, 9, 45, 46, 47, 48, 49, 50, 51, 52, 53, 54, 55, 56, 57, 58, 59, 60, 61, 62, 63, 64, 65, 66, 67, 68, 69, 70, 71, 72, 73, 74, 75, 76, 77, 78] (by decide +kernel) (by decide +kernel)
set_option maxRecDepth 20000 in
theorem gX11_wins_X11_refused : GoodIn wsX11_wins (wsV RX11 147 RX11 yX11_refused wsX11_refused) := goodIn_app (goodIn_of _ (by decide +kernel)) ggX11_wins_X11_refused
set_option maxRecDepth 20000 in
theorem ggX11_wins_X11_winsNow : GoodIn wsX11_wins wsX11_winsNow := goodIn_r _ [13, 14, 15, 16, 17, 18, 4, 19, 20, 21, 22, 23, 6, 24, 25, 26, 27, 28, 29, 30, 31, 32, 33, 34, 35, 36, 37, 38, 39, 40, 41, 42, 43, 44, 45, 46, 47, 48, 49, 50, 51, 52, 53, 54, 55, 56, 57, 58, 59, 60, 61, 62, 63, 64, 65, 66, 67, 68, 69, 70, 71, 72, 73, 74, 75, 76, 77, 78] (by decide +kernel) (by decide +kernel)
set_option maxRecDepth 20000 in
theorem gX11_wins_X11_winsNow : GoodIn wsX11_wins (wsV RX11 150 RX11 yX11_winsNow wsX11_winsNow) := goodIn_app (goodIn_of _ (by decide +kernel)) ggX11_wins_X11_winsNow
theorem dX11_wins_0 : decode cX11_wins 0 = .ok (.aload_n 0, 1) := by decide +kernel
theorem dX11_wins_1 : decode cX11_wins 1 = .ok (.iload_n 1, 1) := by decide +kernel
theorem dX11_wins_2 : decode cX11_wins 2 = .ok (.invokevirtual 147, 3) := by decide +kernel
theorem dX11_wins_5 : decode cX11_wins 5 = .ok (.ifCond .ge 11, 3) := by decide +kernel
theorem dX11_wins_8 : decode cX11_wins 8 = .ok (.aload_n 0, 1) := by decide +kernel
theorem dX11_wins_9 : decode cX11_wins 9 = .ok (.iload_n 1, 1) := by decide +kernel
theorem dX11_wins_10 : decode cX11_wins 10 = .ok (.invokevirtual 147, 3) := by decide +kernel
theorem dX11_wins_13 : decode cX11_wins 13 = .ok (.goto 8, 3) := by decide +kernel
theorem dX11_wins_16 : decode cX11_wins 16 = .ok (.aload_n 0, 1) := by decide +kernel
theorem dX11_wins_17 : decode cX11_wins 17 = .ok (.iload_n 1, 1) := by decide +kernel
theorem dX11_wins_18 : decode cX11_wins 18 = .ok (.invokevirtual 150, 3) := by decide +kernel
theorem dX11_wins_21 : decode cX11_wins 21 = .ok (.ireturn, 1) := by decide +kernel
set_option maxRecDepth 20000 in
theorem ggX11_best_X11_refused : GoodIn wsX11_best wsX11_refused := goodIn_r _ [5, 6, 7, 8, 4, 9, 55, 56, 57, 58, 59, 60, 61, 62, 63, 64, 65, 66, 67, 68, 69, 70, 71, 72, 73, 74, 75, 76, 77, 78, 79, 80, 81, 82, 83, 84, 85, 86, 87, 88] (by decide +kernel) (by decide +kernel)
set_option maxRecDepth 20000 in
theorem gX11_best_X11_refused : GoodIn wsX11_best (wsV RX11 147 RX11 yX11_refused wsX11_refused) := goodIn_app (goodIn_of _ (by decide +kernel)) ggX11_best_X11_refused
set_option maxRecDepth 20000 in
theorem ggX11_best_X11_bestNow : GoodIn wsX11_best wsX11_bestNow := goodIn_r _ [13, 6, 14, 15, 16, 17, 18, 19, 4, 20, 21, 22, 23, 24, 25, 26, 27, 28, 29, 30, 31, 32, 33, 34, 35, 36, 37, 38, 39, 40, 41, 42, 43, 44, 45, 46, 47, 48, 49, 50, 51, 52, 53, 54, 55, 56, 57, 58, 59, 60, 61, 62, 63, 64, 65, 66, 67, 68, 69, 70, 71, 72, 73, 74, 75, 76, 77, 78, 79, 80, 81, 82, 83, 84, 85, 86, 87, 88] (by decide +kernel) (by decide +kernel)
set_option maxRecDepth 20000 in
theorem gX11_best_X11_bestNow : GoodIn wsX11_best (wsV RX11 153 RX11 yX11_bestNow wsX11_bestNow) := goodIn_app (goodIn_of _ (by decide +kernel)) ggX11_best_X11_bestNow
theorem dX11_best_0 : decode cX11_best 0 = .ok (.aload_n 0, 1) := by decide +kernel
theorem dX11_best_1 : decode cX11_best 1 = .ok (.iload_n 1, 1) := by decide +kernel
theorem dX11_best_2 : decode cX11_best 2 = .ok (.invokevirtual 147, 3) := by decide +kernel
theorem dX11_best_5 : decode cX11_best 5 = .ok (.ifCond .ge 11, 3) := by decide +kernel
theorem dX11_best_8 : decode cX11_best 8 = .ok (.aload_n 0, 1) := by decide +kernel
theorem dX11_best_9 : decode cX11_best 9 = .ok (.iload_n 1, 1) := by decide +kernel
theorem dX11_best_10 : decode cX11_best 10 = .ok (.invokevirtual 147, 3) := by decide +kernel
theorem dX11_best_13 : decode cX11_best 13 = .ok (.goto 8, 3) := by decide +kernel
theorem dX11_best_16 : decode cX11_best 16 = .ok (.aload_n 0, 1) := by decide +kernel
theorem dX11_best_17 : decode cX11_best 17 = .ok (.iload_n 1, 1) := by decide +kernel
theorem dX11_best_18 : decode cX11_best 18 = .ok (.invokevirtual 153, 3) := by decide +kernel
theorem dX11_best_21 : decode cX11_best 21 = .ok (.ireturn, 1) := by decide +kernel
set_option maxRecDepth 20000 in
theorem ggX11_lasts_X11_refused : GoodIn wsX11_lasts wsX11_refused := goodIn_r _ [5, 6, 7, 8, 4, 9, 55, 56, 57, 58, 59, 60, 61, 62, 63, 64, 65, 66, 67, 68, 69, 70, 71, 72, 73, 74, 75, 76, 77, 78, 79, 80, 81, 82, 83, 84, 85, 86, 87, 88] (by decide +kernel) (by decide +kernel)
set_option maxRecDepth 20000 in
theorem gX11_lasts_X11_refused : GoodIn wsX11_lasts (wsV RX11 147 RX11 yX11_refused wsX11_refused) := goodIn_app (goodIn_of _ (by decide +kernel)) ggX11_lasts_X11_refused
set_option maxRecDepth 20000 in
theorem ggX11_lasts_X11_lastsNow : GoodIn wsX11_lasts wsX11_lastsNow := goodIn_r _ [13, 14, 15, 16, 17, 18, 4, 19, 20, 21, 22, 23, 24, 25, 26, 27, 28, 6, 29, 30, 31, 32, 33, 34, 35, 36, 37, 38, 39, 40, 41, 42, 43, 44, 45, 46, 47, 48, 49, 50, 51, 52, 53, 54, 55, 56, 57, 58, 59, 60, 61, 62, 63, 64, 65, 66, 67, 68, 69, 70, 71, 72, 73, 74, 75, 76, 77, 78, 79, 80, 81, 82, 83, 84, 85, 86, 87, 88] (by decide +kernel) (by decide +kernel)
set_option maxRecDepth 20000 in
theorem gX11_lasts_X11_lastsNow : GoodIn wsX11_lasts (wsV RX11 156 RX11 yX11_lastsNow wsX11_lastsNow) := goodIn_app (goodIn_of _ (by decide +kernel)) ggX11_lasts_X11_lastsNow
theorem dX11_lasts_0 : decode cX11_lasts 0 = .ok (.aload_n 0, 1) := by decide +kernel
theorem dX11_lasts_1 : decode cX11_lasts 1 = .ok (.iload_n 1, 1) := by decide +kernel
theorem dX11_lasts_2 : decode cX11_lasts 2 = .ok (.invokevirtual 147, 3) := by decide +kernel
theorem dX11_lasts_5 : decode cX11_lasts 5 = .ok (.ifCond .ge 11, 3) := by decide +kernel
theorem dX11_lasts_8 : decode cX11_lasts 8 = .ok (.aload_n 0, 1) := by decide +kernel
theorem dX11_lasts_9 : decode cX11_lasts 9 = .ok (.iload_n 1, 1) := by decide +kernel
theorem dX11_lasts_10 : decode cX11_lasts 10 = .ok (.invokevirtual 147, 3) := by decide +kernel
theorem dX11_lasts_13 : decode cX11_lasts 13 = .ok (.goto 8, 3) := by decide +kernel
theorem dX11_lasts_16 : decode cX11_lasts 16 = .ok (.aload_n 0, 1) := by decide +kernel
theorem dX11_lasts_17 : decode cX11_lasts 17 = .ok (.iload_n 1, 1) := by decide +kernel
theorem dX11_lasts_18 : decode cX11_lasts 18 = .ok (.invokevirtual 156, 3) := by decide +kernel
theorem dX11_lasts_21 : decode cX11_lasts 21 = .ok (.ireturn, 1) := by decide +kernel
theorem dX11_simplest_0 : decode cX11_simplest 0 = .ok (.iload_n 0, 1) := by decide +kernel
theorem dX11_simplest_1 : decode cX11_simplest 1 = .ok (.ifCond .ge 9, 3) := by decide +kernel
theorem dX11_simplest_4 : decode cX11_simplest 4 = .ok (.iload_n 1, 1) := by decide +kernel
theorem dX11_simplest_5 : decode cX11_simplest 5 = .ok (.ifCond .le 5, 3) := by decide +kernel
theorem dX11_simplest_8 : decode cX11_simplest 8 = .ok (.iconst 0, 1) := by decide +kernel
theorem dX11_simplest_9 : decode cX11_simplest 9 = .ok (.ireturn, 1) := by decide +kernel
theorem dX11_simplest_10 : decode cX11_simplest 10 = .ok (.sipush 256, 3) := by decide +kernel
theorem dX11_simplest_13 : decode cX11_simplest 13 = .ok (.istore_n 2, 1) := by decide +kernel
theorem dX11_simplest_14 : decode cX11_simplest 14 = .ok (.iload_n 2, 1) := by decide +kernel
theorem dX11_simplest_15 : decode cX11_simplest 15 = .ok (.ifCond .le 67, 3) := by decide +kernel
theorem dX11_simplest_18 : decode cX11_simplest 18 = .ok (.iload_n 0, 1) := by decide +kernel
theorem dX11_simplest_19 : decode cX11_simplest 19 = .ok (.ifCond .lt 13, 3) := by decide +kernel
theorem dX11_simplest_22 : decode cX11_simplest 22 = .ok (.iload_n 0, 1) := by decide +kernel
theorem dX11_simplest_23 : decode cX11_simplest 23 = .ok (.iload_n 2, 1) := by decide +kernel
theorem dX11_simplest_24 : decode cX11_simplest 24 = .ok (.idiv, 1) := by decide +kernel
theorem dX11_simplest_25 : decode cX11_simplest 25 = .ok (.iconst 1, 1) := by decide +kernel
theorem dX11_simplest_26 : decode cX11_simplest 26 = .ok (.iadd, 1) := by decide +kernel
theorem dX11_simplest_27 : decode cX11_simplest 27 = .ok (.iload_n 2, 1) := by decide +kernel
theorem dX11_simplest_28 : decode cX11_simplest 28 = .ok (.imul, 1) := by decide +kernel
theorem dX11_simplest_29 : decode cX11_simplest 29 = .ok (.goto 4, 3) := by decide +kernel
theorem dX11_simplest_32 : decode cX11_simplest 32 = .ok (.iconst 0, 1) := by decide +kernel
theorem dX11_simplest_33 : decode cX11_simplest 33 = .ok (.istore_n 3, 1) := by decide +kernel
theorem dX11_simplest_34 : decode cX11_simplest 34 = .ok (.iload_n 1, 1) := by decide +kernel
theorem dX11_simplest_35 : decode cX11_simplest 35 = .ok (.ifCond .gt 13, 3) := by decide +kernel
theorem dX11_simplest_38 : decode cX11_simplest 38 = .ok (.iload_n 1, 1) := by decide +kernel
theorem dX11_simplest_39 : decode cX11_simplest 39 = .ok (.iload_n 2, 1) := by decide +kernel
theorem dX11_simplest_40 : decode cX11_simplest 40 = .ok (.idiv, 1) := by decide +kernel
theorem dX11_simplest_41 : decode cX11_simplest 41 = .ok (.iconst 1, 1) := by decide +kernel
theorem dX11_simplest_42 : decode cX11_simplest 42 = .ok (.isub, 1) := by decide +kernel
theorem dX11_simplest_43 : decode cX11_simplest 43 = .ok (.iload_n 2, 1) := by decide +kernel
theorem dX11_simplest_44 : decode cX11_simplest 44 = .ok (.imul, 1) := by decide +kernel
theorem dX11_simplest_45 : decode cX11_simplest 45 = .ok (.goto 4, 3) := by decide +kernel
theorem dX11_simplest_48 : decode cX11_simplest 48 = .ok (.iconst 0, 1) := by decide +kernel
theorem dX11_simplest_49 : decode cX11_simplest 49 = .ok (.istore 4, 2) := by decide +kernel
theorem dX11_simplest_51 : decode cX11_simplest 51 = .ok (.iload_n 0, 1) := by decide +kernel
theorem dX11_simplest_52 : decode cX11_simplest 52 = .ok (.ifCond .lt 10, 3) := by decide +kernel
theorem dX11_simplest_55 : decode cX11_simplest 55 = .ok (.iload_n 3, 1) := by decide +kernel
theorem dX11_simplest_56 : decode cX11_simplest 56 = .ok (.iload_n 1, 1) := by decide +kernel
theorem dX11_simplest_57 : decode cX11_simplest 57 = .ok (.if_icmp .ge 5, 3) := by decide +kernel
theorem dX11_simplest_60 : decode cX11_simplest 60 = .ok (.iload_n 3, 1) := by decide +kernel
theorem dX11_simplest_61 : decode cX11_simplest 61 = .ok (.ireturn, 1) := by decide +kernel
theorem dX11_simplest_62 : decode cX11_simplest 62 = .ok (.iload_n 0, 1) := by decide +kernel
theorem dX11_simplest_63 : decode cX11_simplest 63 = .ok (.ifCond .ge 12, 3) := by decide +kernel
theorem dX11_simplest_66 : decode cX11_simplest 66 = .ok (.iload 4, 2) := by decide +kernel
theorem dX11_simplest_68 : decode cX11_simplest 68 = .ok (.iload_n 0, 1) := by decide +kernel
theorem dX11_simplest_69 : decode cX11_simplest 69 = .ok (.if_icmp .le 6, 3) := by decide +kernel
theorem dX11_simplest_72 : decode cX11_simplest 72 = .ok (.iload 4, 2) := by decide +kernel
theorem dX11_simplest_74 : decode cX11_simplest 74 = .ok (.ireturn, 1) := by decide +kernel
theorem dX11_simplest_75 : decode cX11_simplest 75 = .ok (.iload_n 2, 1) := by decide +kernel
theorem dX11_simplest_76 : decode cX11_simplest 76 = .ok (.iconst 2, 1) := by decide +kernel
theorem dX11_simplest_77 : decode cX11_simplest 77 = .ok (.idiv, 1) := by decide +kernel
theorem dX11_simplest_78 : decode cX11_simplest 78 = .ok (.istore_n 2, 1) := by decide +kernel
theorem dX11_simplest_79 : decode cX11_simplest 79 = .ok (.goto (-65), 3) := by decide +kernel
theorem dX11_simplest_82 : decode cX11_simplest 82 = .ok (.sipush (-9999), 3) := by decide +kernel
theorem dX11_simplest_85 : decode cX11_simplest 85 = .ok (.ireturn, 1) := by decide +kernel
set_option maxRecDepth 20000 in
theorem ggX11_worthFrom_X11_leaves : GoodIn wsX11_worthFrom wsX11_leaves := goodIn_r _ [9, 10, 11, 12, 8, 13, 3, 14, 15, 16, 17, 30, 31, 32, 33, 34, 35, 36, 37, 38, 39, 40, 41, 42, 43, 44, 45, 46, 47, 48, 49, 50, 51, 52, 53, 54, 55, 56, 57, 58, 59, 60, 61, 62, 63] (by decide +kernel) (by decide +kernel)
set_option maxRecDepth 20000 in
theorem gX11_worthFrom_X11_leaves : GoodIn wsX11_worthFrom (wsV RX11 128 RX11 yX11_leaves wsX11_leaves) := goodIn_app (goodIn_of _ (by decide +kernel)) ggX11_worthFrom_X11_leaves
set_option maxRecDepth 20000 in
theorem ggX11_worthFrom_X11_mayCut : GoodIn wsX11_worthFrom wsX11_mayCut := goodIn_r _ [21, 22, 15, 16, 8, 17, 23, 24, 25, 26, 3, 14, 30, 31, 32, 33, 34, 35, 36, 37, 38, 39, 40, 41, 42, 43, 44, 45, 46, 47, 48, 49, 50, 51, 52, 53, 54, 55, 56, 57, 58, 59, 60, 61, 62, 63] (by decide +kernel) (by decide +kernel)
set_option maxRecDepth 20000 in
theorem gX11_worthFrom_X11_mayCut : GoodIn wsX11_worthFrom (wsV RX11 111 RX11 yX11_mayCut wsX11_mayCut) := goodIn_app (goodIn_of _ (by decide +kernel)) ggX11_worthFrom_X11_mayCut
set_option maxRecDepth 20000 in
theorem ggX11_worthFrom_X11_simplest : GoodIn wsX11_worthFrom wsX11_simplest := goodIn_r _ [29] (by decide +kernel) (by decide +kernel)
set_option maxRecDepth 20000 in
theorem gX11_worthFrom_X11_simplest : GoodIn wsX11_worthFrom (va_wsS RX11 160 yX11_simplest wsX11_simplest) := goodIn_app (goodIn_of _ (by decide +kernel)) ggX11_worthFrom_X11_simplest
theorem dX11_worthFrom_0 : decode cX11_worthFrom 0 = .ok (.ldc 159, 2) := by decide +kernel
theorem dX11_worthFrom_2 : decode cX11_worthFrom 2 = .ok (.istore_n 2, 1) := by decide +kernel
theorem dX11_worthFrom_3 : decode cX11_worthFrom 3 = .ok (.ldc 134, 2) := by decide +kernel
theorem dX11_worthFrom_5 : decode cX11_worthFrom 5 = .ok (.istore_n 3, 1) := by decide +kernel
theorem dX11_worthFrom_6 : decode cX11_worthFrom 6 = .ok (.iconst 0, 1) := by decide +kernel
theorem dX11_worthFrom_7 : decode cX11_worthFrom 7 = .ok (.istore 4, 2) := by decide +kernel
theorem dX11_worthFrom_9 : decode cX11_worthFrom 9 = .ok (.iload 4, 2) := by decide +kernel
theorem dX11_worthFrom_11 : decode cX11_worthFrom 11 = .ok (.aload_n 0, 1) := by decide +kernel
theorem dX11_worthFrom_12 : decode cX11_worthFrom 12 = .ok (.getfield 83, 3) := by decide +kernel
theorem dX11_worthFrom_15 : decode cX11_worthFrom 15 = .ok (.if_icmp .ge 101, 3) := by decide +kernel
theorem dX11_worthFrom_18 : decode cX11_worthFrom 18 = .ok (.aload_n 0, 1) := by decide +kernel
theorem dX11_worthFrom_19 : decode cX11_worthFrom 19 = .ok (.getfield 35, 3) := by decide +kernel
theorem dX11_worthFrom_22 : decode cX11_worthFrom 22 = .ok (.aload_n 0, 1) := by decide +kernel
theorem dX11_worthFrom_23 : decode cX11_worthFrom 23 = .ok (.iload 4, 2) := by decide +kernel
theorem dX11_worthFrom_25 : decode cX11_worthFrom 25 = .ok (.iload_n 1, 1) := by decide +kernel
theorem dX11_worthFrom_26 : decode cX11_worthFrom 26 = .ok (.invokevirtual 128, 3) := by decide +kernel
theorem dX11_worthFrom_29 : decode cX11_worthFrom 29 = .ok (.iaload, 1) := by decide +kernel
theorem dX11_worthFrom_30 : decode cX11_worthFrom 30 = .ok (.istore 5, 2) := by decide +kernel
theorem dX11_worthFrom_32 : decode cX11_worthFrom 32 = .ok (.aload_n 0, 1) := by decide +kernel
theorem dX11_worthFrom_33 : decode cX11_worthFrom 33 = .ok (.iconst 0, 1) := by decide +kernel
theorem dX11_worthFrom_34 : decode cX11_worthFrom 34 = .ok (.iload 4, 2) := by decide +kernel
theorem dX11_worthFrom_36 : decode cX11_worthFrom 36 = .ok (.iload_n 1, 1) := by decide +kernel
theorem dX11_worthFrom_37 : decode cX11_worthFrom 37 = .ok (.invokevirtual 111, 3) := by decide +kernel
theorem dX11_worthFrom_40 : decode cX11_worthFrom 40 = .ok (.istore 6, 2) := by decide +kernel
theorem dX11_worthFrom_42 : decode cX11_worthFrom 42 = .ok (.aload_n 0, 1) := by decide +kernel
theorem dX11_worthFrom_43 : decode cX11_worthFrom 43 = .ok (.iconst 1, 1) := by decide +kernel
theorem dX11_worthFrom_44 : decode cX11_worthFrom 44 = .ok (.iload 4, 2) := by decide +kernel
theorem dX11_worthFrom_46 : decode cX11_worthFrom 46 = .ok (.iload_n 1, 1) := by decide +kernel
theorem dX11_worthFrom_47 : decode cX11_worthFrom 47 = .ok (.invokevirtual 111, 3) := by decide +kernel
theorem dX11_worthFrom_50 : decode cX11_worthFrom 50 = .ok (.istore 7, 2) := by decide +kernel
theorem dX11_worthFrom_52 : decode cX11_worthFrom 52 = .ok (.iload 6, 2) := by decide +kernel
theorem dX11_worthFrom_54 : decode cX11_worthFrom 54 = .ok (.ifCond .ne 8, 3) := by decide +kernel
theorem dX11_worthFrom_57 : decode cX11_worthFrom 57 = .ok (.iload 7, 2) := by decide +kernel
theorem dX11_worthFrom_59 : decode cX11_worthFrom 59 = .ok (.ifCond .eq 15, 3) := by decide +kernel
theorem dX11_worthFrom_62 : decode cX11_worthFrom 62 = .ok (.iload 5, 2) := by decide +kernel
theorem dX11_worthFrom_64 : decode cX11_worthFrom 64 = .ok (.sipush (-9999), 3) := by decide +kernel
theorem dX11_worthFrom_67 : decode cX11_worthFrom 67 = .ok (.if_icmp .ne 7, 3) := by decide +kernel
theorem dX11_worthFrom_70 : decode cX11_worthFrom 70 = .ok (.sipush (-9999), 3) := by decide +kernel
theorem dX11_worthFrom_73 : decode cX11_worthFrom 73 = .ok (.ireturn, 1) := by decide +kernel
theorem dX11_worthFrom_74 : decode cX11_worthFrom 74 = .ok (.iload 6, 2) := by decide +kernel
theorem dX11_worthFrom_76 : decode cX11_worthFrom 76 = .ok (.ifCond .eq 14, 3) := by decide +kernel
theorem dX11_worthFrom_79 : decode cX11_worthFrom 79 = .ok (.iload 5, 2) := by decide +kernel
theorem dX11_worthFrom_81 : decode cX11_worthFrom 81 = .ok (.iload_n 2, 1) := by decide +kernel
theorem dX11_worthFrom_82 : decode cX11_worthFrom 82 = .ok (.if_icmp .le 8, 3) := by decide +kernel
theorem dX11_worthFrom_85 : decode cX11_worthFrom 85 = .ok (.iload 5, 2) := by decide +kernel
theorem dX11_worthFrom_87 : decode cX11_worthFrom 87 = .ok (.goto 4, 3) := by decide +kernel
theorem dX11_worthFrom_90 : decode cX11_worthFrom 90 = .ok (.iload_n 2, 1) := by decide +kernel
theorem dX11_worthFrom_91 : decode cX11_worthFrom 91 = .ok (.istore_n 2, 1) := by decide +kernel
theorem dX11_worthFrom_92 : decode cX11_worthFrom 92 = .ok (.iload 7, 2) := by decide +kernel
theorem dX11_worthFrom_94 : decode cX11_worthFrom 94 = .ok (.ifCond .eq 14, 3) := by decide +kernel
theorem dX11_worthFrom_97 : decode cX11_worthFrom 97 = .ok (.iload 5, 2) := by decide +kernel
theorem dX11_worthFrom_99 : decode cX11_worthFrom 99 = .ok (.iload_n 3, 1) := by decide +kernel
theorem dX11_worthFrom_100 : decode cX11_worthFrom 100 = .ok (.if_icmp .ge 8, 3) := by decide +kernel
theorem dX11_worthFrom_103 : decode cX11_worthFrom 103 = .ok (.iload 5, 2) := by decide +kernel
theorem dX11_worthFrom_105 : decode cX11_worthFrom 105 = .ok (.goto 4, 3) := by decide +kernel
theorem dX11_worthFrom_108 : decode cX11_worthFrom 108 = .ok (.iload_n 3, 1) := by decide +kernel
theorem dX11_worthFrom_109 : decode cX11_worthFrom 109 = .ok (.istore_n 3, 1) := by decide +kernel
theorem dX11_worthFrom_110 : decode cX11_worthFrom 110 = .ok (.iinc 4 1, 3) := by decide +kernel
theorem dX11_worthFrom_113 : decode cX11_worthFrom 113 = .ok (.goto (-104), 3) := by decide +kernel
theorem dX11_worthFrom_116 : decode cX11_worthFrom 116 = .ok (.iload_n 2, 1) := by decide +kernel
theorem dX11_worthFrom_117 : decode cX11_worthFrom 117 = .ok (.iload_n 3, 1) := by decide +kernel
theorem dX11_worthFrom_118 : decode cX11_worthFrom 118 = .ok (.if_icmp .ge 11, 3) := by decide +kernel
theorem dX11_worthFrom_121 : decode cX11_worthFrom 121 = .ok (.iload_n 2, 1) := by decide +kernel
theorem dX11_worthFrom_122 : decode cX11_worthFrom 122 = .ok (.iload_n 3, 1) := by decide +kernel
theorem dX11_worthFrom_123 : decode cX11_worthFrom 123 = .ok (.invokestatic 160, 3) := by decide +kernel
theorem dX11_worthFrom_126 : decode cX11_worthFrom 126 = .ok (.goto 6, 3) := by decide +kernel
theorem dX11_worthFrom_129 : decode cX11_worthFrom 129 = .ok (.sipush (-9999), 3) := by decide +kernel
theorem dX11_worthFrom_132 : decode cX11_worthFrom 132 = .ok (.ireturn, 1) := by decide +kernel
set_option maxRecDepth 20000 in
theorem ggX11_layWorth_X11_worthFrom : GoodIn wsX11_layWorth wsX11_worthFrom := goodIn_r _ [7, 8, 9, 10, 2, 11, 12, 13, 6, 14, 15, 16, 17, 18, 19, 20, 21, 22, 23, 24, 25, 26, 27, 28, 29, 30, 31, 32, 33, 34, 35, 36, 37, 38, 39, 40, 41, 42, 43, 44, 45, 46, 47, 48, 49, 50, 51, 52, 53, 54, 55, 56, 57, 58, 59, 60, 61, 62, 63, 64, 65, 66, 67, 68] (by decide +kernel) (by decide +kernel)
set_option maxRecDepth 20000 in
theorem gX11_layWorth_X11_worthFrom : GoodIn wsX11_layWorth (wsV RX11 163 RX11 yX11_worthFrom wsX11_worthFrom) := goodIn_app (goodIn_of _ (by decide +kernel)) ggX11_layWorth_X11_worthFrom
theorem dX11_layWorth_0 : decode cX11_layWorth 0 = .ok (.iconst 0, 1) := by decide +kernel
theorem dX11_layWorth_1 : decode cX11_layWorth 1 = .ok (.istore_n 1, 1) := by decide +kernel
theorem dX11_layWorth_2 : decode cX11_layWorth 2 = .ok (.iload_n 1, 1) := by decide +kernel
theorem dX11_layWorth_3 : decode cX11_layWorth 3 = .ok (.aload_n 0, 1) := by decide +kernel
theorem dX11_layWorth_4 : decode cX11_layWorth 4 = .ok (.getfield 86, 3) := by decide +kernel
theorem dX11_layWorth_7 : decode cX11_layWorth 7 = .ok (.if_icmp .gt 31, 3) := by decide +kernel
theorem dX11_layWorth_10 : decode cX11_layWorth 10 = .ok (.iload_n 1, 1) := by decide +kernel
theorem dX11_layWorth_11 : decode cX11_layWorth 11 = .ok (.aload_n 0, 1) := by decide +kernel
theorem dX11_layWorth_12 : decode cX11_layWorth 12 = .ok (.getfield 86, 3) := by decide +kernel
theorem dX11_layWorth_15 : decode cX11_layWorth 15 = .ok (.iconst (-1), 1) := by decide +kernel
theorem dX11_layWorth_16 : decode cX11_layWorth 16 = .ok (.ixor, 1) := by decide +kernel
theorem dX11_layWorth_17 : decode cX11_layWorth 17 = .ok (.iand, 1) := by decide +kernel
theorem dX11_layWorth_18 : decode cX11_layWorth 18 = .ok (.ifCond .ne 14, 3) := by decide +kernel
theorem dX11_layWorth_21 : decode cX11_layWorth 21 = .ok (.aload_n 0, 1) := by decide +kernel
theorem dX11_layWorth_22 : decode cX11_layWorth 22 = .ok (.getfield 35, 3) := by decide +kernel
theorem dX11_layWorth_25 : decode cX11_layWorth 25 = .ok (.iload_n 1, 1) := by decide +kernel
theorem dX11_layWorth_26 : decode cX11_layWorth 26 = .ok (.aload_n 0, 1) := by decide +kernel
theorem dX11_layWorth_27 : decode cX11_layWorth 27 = .ok (.iload_n 1, 1) := by decide +kernel
theorem dX11_layWorth_28 : decode cX11_layWorth 28 = .ok (.invokevirtual 163, 3) := by decide +kernel
theorem dX11_layWorth_31 : decode cX11_layWorth 31 = .ok (.iastore, 1) := by decide +kernel
theorem dX11_layWorth_32 : decode cX11_layWorth 32 = .ok (.iinc 1 1, 3) := by decide +kernel
theorem dX11_layWorth_35 : decode cX11_layWorth 35 = .ok (.goto (-33), 3) := by decide +kernel
theorem dX11_layWorth_38 : decode cX11_layWorth 38 = .ok (.return_, 1) := by decide +kernel
set_option maxRecDepth 20000 in
theorem ggX11_worth_X11_layWorth : GoodIn wsX11_worth wsX11_layWorth := goodIn_r _ [8, 3, 2, 9, 10, 11, 7, 12, 13, 14, 1, 15, 16, 17, 18, 19, 20, 21, 22, 23, 24, 25, 26, 27, 28, 29, 30, 31, 32, 33, 34, 35, 36, 37, 38, 39, 40, 41, 42, 43, 44, 45, 46, 47, 48, 49, 50, 51, 52, 53, 54, 55, 56, 57, 58, 59, 60, 61, 62, 63, 64, 65, 66, 67, 68, 69, 70, 71, 72] (by decide +kernel) (by decide +kernel)
set_option maxRecDepth 20000 in
theorem gX11_worth_X11_layWorth : GoodIn wsX11_worth (wsV RX11 166 RX11 yX11_layWorth wsX11_layWorth) := goodIn_app (goodIn_of _ (by decide +kernel)) ggX11_worth_X11_layWorth
theorem dX11_worth_0 : decode cX11_worth 0 = .ok (.aload_n 0, 1) := by decide +kernel
theorem dX11_worth_1 : decode cX11_worth 1 = .ok (.getfield 83, 3) := by decide +kernel
theorem dX11_worth_4 : decode cX11_worth 4 = .ok (.ifCond .ne 6, 3) := by decide +kernel
theorem dX11_worth_7 : decode cX11_worth 7 = .ok (.bipush (-103), 2) := by decide +kernel
theorem dX11_worth_9 : decode cX11_worth 9 = .ok (.ireturn, 1) := by decide +kernel
theorem dX11_worth_10 : decode cX11_worth 10 = .ok (.aload_n 0, 1) := by decide +kernel
theorem dX11_worth_11 : decode cX11_worth 11 = .ok (.invokevirtual 166, 3) := by decide +kernel
theorem dX11_worth_14 : decode cX11_worth 14 = .ok (.aload_n 0, 1) := by decide +kernel
theorem dX11_worth_15 : decode cX11_worth 15 = .ok (.getfield 35, 3) := by decide +kernel
theorem dX11_worth_18 : decode cX11_worth 18 = .ok (.aload_n 0, 1) := by decide +kernel
theorem dX11_worth_19 : decode cX11_worth 19 = .ok (.getfield 86, 3) := by decide +kernel
theorem dX11_worth_22 : decode cX11_worth 22 = .ok (.iaload, 1) := by decide +kernel
theorem dX11_worth_23 : decode cX11_worth 23 = .ok (.ireturn, 1) := by decide +kernel
set_option maxRecDepth 20000 in
theorem ggX11_treeNow_X11_layWorth : GoodIn wsX11_treeNow wsX11_layWorth := goodIn_r _ [7, 2, 1, 8, 9, 10, 6, 11, 12, 13, 14, 15, 16, 17, 18, 19, 20, 21, 22, 23, 24, 25, 26, 27, 28, 29, 30, 31, 32, 33, 34, 35, 36, 37, 38, 39, 40, 41, 42, 43, 44, 45, 46, 47, 48, 49, 50, 51, 52, 53, 54, 55, 56, 57, 58, 59, 60, 61, 62, 63, 64, 65, 66, 67, 68, 69, 70, 71, 72] (by decide +kernel) (by decide +kernel)
set_option maxRecDepth 20000 in
theorem gX11_treeNow_X11_layWorth : GoodIn wsX11_treeNow (wsV RX11 166 RX11 yX11_layWorth wsX11_layWorth) := goodIn_app (goodIn_of _ (by decide +kernel)) ggX11_treeNow_X11_layWorth
set_option maxRecDepth 20000 in
theorem ggX11_treeNow_X11_above : GoodIn wsX11_treeNow wsX11_above := goodIn_r _ [22, 14, 23, 24, 25, 6, 26, 39, 40, 41, 42, 43, 44, 45, 46, 47, 48, 49, 50, 51, 52, 53, 54, 55, 56, 57, 58, 59, 60, 61, 62, 63, 64, 65, 66, 67, 68, 69, 70, 71, 72] (by decide +kernel) (by decide +kernel)
set_option maxRecDepth 20000 in
theorem gX11_treeNow_X11_above : GoodIn wsX11_treeNow (wsV RX11 108 RX11 yX11_above wsX11_above) := goodIn_app (goodIn_of _ (by decide +kernel)) ggX11_treeNow_X11_above
theorem dX11_treeNow_0 : decode cX11_treeNow 0 = .ok (.aload_n 0, 1) := by decide +kernel
theorem dX11_treeNow_1 : decode cX11_treeNow 1 = .ok (.invokevirtual 166, 3) := by decide +kernel
theorem dX11_treeNow_4 : decode cX11_treeNow 4 = .ok (.aload_n 0, 1) := by decide +kernel
theorem dX11_treeNow_5 : decode cX11_treeNow 5 = .ok (.getfield 35, 3) := by decide +kernel
theorem dX11_treeNow_8 : decode cX11_treeNow 8 = .ok (.aload_n 0, 1) := by decide +kernel
theorem dX11_treeNow_9 : decode cX11_treeNow 9 = .ok (.getfield 86, 3) := by decide +kernel
theorem dX11_treeNow_12 : decode cX11_treeNow 12 = .ok (.aload_n 0, 1) := by decide +kernel
theorem dX11_treeNow_13 : decode cX11_treeNow 13 = .ok (.iload_n 1, 1) := by decide +kernel
theorem dX11_treeNow_14 : decode cX11_treeNow 14 = .ok (.invokevirtual 108, 3) := by decide +kernel
theorem dX11_treeNow_17 : decode cX11_treeNow 17 = .ok (.iconst 1, 1) := by decide +kernel
theorem dX11_treeNow_18 : decode cX11_treeNow 18 = .ok (.iload_n 1, 1) := by decide +kernel
theorem dX11_treeNow_19 : decode cX11_treeNow 19 = .ok (.ishl, 1) := by decide +kernel
theorem dX11_treeNow_20 : decode cX11_treeNow 20 = .ok (.ior, 1) := by decide +kernel
theorem dX11_treeNow_21 : decode cX11_treeNow 21 = .ok (.iand, 1) := by decide +kernel
theorem dX11_treeNow_22 : decode cX11_treeNow 22 = .ok (.iaload, 1) := by decide +kernel
theorem dX11_treeNow_23 : decode cX11_treeNow 23 = .ok (.ireturn, 1) := by decide +kernel
set_option maxRecDepth 20000 in
theorem ggX11_tree_X11_isBranch : GoodIn wsX11_tree wsX11_isBranch := goodIn_r _ [6, 7, 8, 9, 5, 10, 50, 51, 52, 53, 54, 55, 56, 57, 58, 59, 60, 61, 62, 63, 64, 65, 66, 67, 68, 69, 70, 71, 72, 73, 74, 75, 76, 77, 78, 79, 80, 81, 82, 83] (by decide +kernel) (by decide +kernel)
set_option maxRecDepth 20000 in
theorem gX11_tree_X11_isBranch : GoodIn wsX11_tree (wsV RX11 120 RX11 yX11_isBranch wsX11_isBranch) := goodIn_app (goodIn_of _ (by decide +kernel)) ggX11_tree_X11_isBranch
set_option maxRecDepth 20000 in
theorem ggX11_tree_X11_treeNow : GoodIn wsX11_tree wsX11_treeNow := goodIn_r _ [14, 15, 16, 17, 18, 19, 5, 20, 21, 22, 23, 24, 25, 26, 7, 27, 28, 29, 30, 31, 32, 33, 34, 1, 35, 36, 37, 38, 39, 40, 41, 42, 43, 44, 45, 46, 47, 48, 49, 50, 51, 52, 53, 54, 55, 56, 57, 58, 59, 60, 61, 62, 63, 64, 65, 66, 67, 68, 69, 70, 71, 72, 73, 74, 75, 76, 77, 78, 79, 80, 81, 82, 83] (by decide +kernel) (by decide +kernel)
set_option maxRecDepth 20000 in
theorem gX11_tree_X11_treeNow : GoodIn wsX11_tree (wsV RX11 169 RX11 yX11_treeNow wsX11_treeNow) := goodIn_app (goodIn_of _ (by decide +kernel)) ggX11_tree_X11_treeNow
theorem dX11_tree_0 : decode cX11_tree 0 = .ok (.aload_n 0, 1) := by decide +kernel
theorem dX11_tree_1 : decode cX11_tree 1 = .ok (.iload_n 1, 1) := by decide +kernel
theorem dX11_tree_2 : decode cX11_tree 2 = .ok (.invokevirtual 120, 3) := by decide +kernel
theorem dX11_tree_5 : decode cX11_tree 5 = .ok (.ifCond .ne 6, 3) := by decide +kernel
theorem dX11_tree_8 : decode cX11_tree 8 = .ok (.bipush (-101), 2) := by decide +kernel
theorem dX11_tree_10 : decode cX11_tree 10 = .ok (.ireturn, 1) := by decide +kernel
theorem dX11_tree_11 : decode cX11_tree 11 = .ok (.aload_n 0, 1) := by decide +kernel
theorem dX11_tree_12 : decode cX11_tree 12 = .ok (.getfield 13, 3) := by decide +kernel
theorem dX11_tree_15 : decode cX11_tree 15 = .ok (.iload_n 1, 1) := by decide +kernel
theorem dX11_tree_16 : decode cX11_tree 16 = .ok (.iaload, 1) := by decide +kernel
theorem dX11_tree_17 : decode cX11_tree 17 = .ok (.iconst (-1), 1) := by decide +kernel
theorem dX11_tree_18 : decode cX11_tree 18 = .ok (.if_icmp .ne 11, 3) := by decide +kernel
theorem dX11_tree_21 : decode cX11_tree 21 = .ok (.aload_n 0, 1) := by decide +kernel
theorem dX11_tree_22 : decode cX11_tree 22 = .ok (.iload_n 1, 1) := by decide +kernel
theorem dX11_tree_23 : decode cX11_tree 23 = .ok (.invokevirtual 169, 3) := by decide +kernel
theorem dX11_tree_26 : decode cX11_tree 26 = .ok (.goto 5, 3) := by decide +kernel
theorem dX11_tree_29 : decode cX11_tree 29 = .ok (.bipush (-103), 2) := by decide +kernel
theorem dX11_tree_31 : decode cX11_tree 31 = .ok (.ireturn, 1) := by decide +kernel
set_option maxRecDepth 20000 in
theorem ggX11_isEven_X11_layWinners : GoodIn wsX11_isEven wsX11_layWinners := goodIn_r _ [7, 2, 1, 8, 9, 10, 6, 11, 12, 13, 14, 15, 16, 17, 18, 19, 20, 21, 22, 23, 24, 25, 26, 27, 28, 29, 30, 31, 32, 33, 34, 35, 36, 37, 38, 39, 40, 41, 42, 43, 44, 45, 46, 47, 48, 49, 50, 51, 52, 53, 54, 55, 56, 57, 58, 59, 60, 61, 62, 63, 64, 65, 66, 67] (by decide +kernel) (by decide +kernel)
set_option maxRecDepth 20000 in
theorem gX11_isEven_X11_layWinners : GoodIn wsX11_isEven (wsV RX11 138 RX11 yX11_layWinners wsX11_layWinners) := goodIn_app (goodIn_of _ (by decide +kernel)) ggX11_isEven_X11_layWinners
theorem dX11_isEven_0 : decode cX11_isEven 0 = .ok (.aload_n 0, 1) := by decide +kernel
theorem dX11_isEven_1 : decode cX11_isEven 1 = .ok (.invokevirtual 138, 3) := by decide +kernel
theorem dX11_isEven_4 : decode cX11_isEven 4 = .ok (.aload_n 0, 1) := by decide +kernel
theorem dX11_isEven_5 : decode cX11_isEven 5 = .ok (.getfield 29, 3) := by decide +kernel
theorem dX11_isEven_8 : decode cX11_isEven 8 = .ok (.iconst 2, 1) := by decide +kernel
theorem dX11_isEven_9 : decode cX11_isEven 9 = .ok (.aload_n 0, 1) := by decide +kernel
theorem dX11_isEven_10 : decode cX11_isEven 10 = .ok (.getfield 86, 3) := by decide +kernel
theorem dX11_isEven_13 : decode cX11_isEven 13 = .ok (.imul, 1) := by decide +kernel
theorem dX11_isEven_14 : decode cX11_isEven 14 = .ok (.iaload, 1) := by decide +kernel
theorem dX11_isEven_15 : decode cX11_isEven 15 = .ok (.iconst 1, 1) := by decide +kernel
theorem dX11_isEven_16 : decode cX11_isEven 16 = .ok (.if_icmp .ne 23, 3) := by decide +kernel
theorem dX11_isEven_19 : decode cX11_isEven 19 = .ok (.aload_n 0, 1) := by decide +kernel
theorem dX11_isEven_20 : decode cX11_isEven 20 = .ok (.getfield 29, 3) := by decide +kernel
theorem dX11_isEven_23 : decode cX11_isEven 23 = .ok (.iconst 2, 1) := by decide +kernel
theorem dX11_isEven_24 : decode cX11_isEven 24 = .ok (.aload_n 0, 1) := by decide +kernel
theorem dX11_isEven_25 : decode cX11_isEven 25 = .ok (.getfield 86, 3) := by decide +kernel
theorem dX11_isEven_28 : decode cX11_isEven 28 = .ok (.imul, 1) := by decide +kernel
theorem dX11_isEven_29 : decode cX11_isEven 29 = .ok (.iconst 1, 1) := by decide +kernel
theorem dX11_isEven_30 : decode cX11_isEven 30 = .ok (.iadd, 1) := by decide +kernel
theorem dX11_isEven_31 : decode cX11_isEven 31 = .ok (.iaload, 1) := by decide +kernel
theorem dX11_isEven_32 : decode cX11_isEven 32 = .ok (.ifCond .ne 7, 3) := by decide +kernel
theorem dX11_isEven_35 : decode cX11_isEven 35 = .ok (.iconst 1, 1) := by decide +kernel
theorem dX11_isEven_36 : decode cX11_isEven 36 = .ok (.goto 4, 3) := by decide +kernel
theorem dX11_isEven_39 : decode cX11_isEven 39 = .ok (.iconst 0, 1) := by decide +kernel
theorem dX11_isEven_40 : decode cX11_isEven 40 = .ok (.ireturn, 1) := by decide +kernel
set_option maxRecDepth 20000 in
theorem ggX11_evenNow_X11_isEven : GoodIn wsX11_evenNow wsX11_isEven := goodIn_r _ [7, 8, 9, 10, 11, 12, 6, 13, 14, 15, 16, 17, 1, 18, 19, 20, 21, 2, 22, 23, 24, 25, 26, 27, 28, 29, 30, 31, 32, 33, 34, 35, 36, 37, 38, 39, 40, 41, 42, 43, 44, 45, 46, 47, 48, 49, 50, 51, 52, 53, 54, 55, 56, 57, 58, 59, 60, 61, 62, 63, 64, 65, 66, 67, 68, 69, 70, 71] (by decide +kernel) (by decide +kernel)
set_option maxRecDepth 20000 in
theorem gX11_evenNow_X11_isEven : GoodIn wsX11_evenNow (wsV RX11 172 RX11 yX11_isEven wsX11_isEven) := goodIn_app (goodIn_of _ (by decide +kernel)) ggX11_evenNow_X11_isEven
theorem dX11_evenNow_0 : decode cX11_evenNow 0 = .ok (.aload_n 0, 1) := by decide +kernel
theorem dX11_evenNow_1 : decode cX11_evenNow 1 = .ok (.invokevirtual 172, 3) := by decide +kernel
theorem dX11_evenNow_4 : decode cX11_evenNow 4 = .ok (.ifCond .eq 6, 3) := by decide +kernel
theorem dX11_evenNow_7 : decode cX11_evenNow 7 = .ok (.bipush (-2), 2) := by decide +kernel
theorem dX11_evenNow_9 : decode cX11_evenNow 9 = .ok (.ireturn, 1) := by decide +kernel
theorem dX11_evenNow_10 : decode cX11_evenNow 10 = .ok (.iconst (-1), 1) := by decide +kernel
theorem dX11_evenNow_11 : decode cX11_evenNow 11 = .ok (.istore_n 1, 1) := by decide +kernel
theorem dX11_evenNow_12 : decode cX11_evenNow 12 = .ok (.iconst 0, 1) := by decide +kernel
theorem dX11_evenNow_13 : decode cX11_evenNow 13 = .ok (.istore_n 2, 1) := by decide +kernel
theorem dX11_evenNow_14 : decode cX11_evenNow 14 = .ok (.iload_n 2, 1) := by decide +kernel
theorem dX11_evenNow_15 : decode cX11_evenNow 15 = .ok (.aload_n 0, 1) := by decide +kernel
theorem dX11_evenNow_16 : decode cX11_evenNow 16 = .ok (.getfield 83, 3) := by decide +kernel
theorem dX11_evenNow_19 : decode cX11_evenNow 19 = .ok (.if_icmp .ge 83, 3) := by decide +kernel
theorem dX11_evenNow_22 : decode cX11_evenNow 22 = .ok (.aload_n 0, 1) := by decide +kernel
theorem dX11_evenNow_23 : decode cX11_evenNow 23 = .ok (.getfield 7, 3) := by decide +kernel
theorem dX11_evenNow_26 : decode cX11_evenNow 26 = .ok (.iload_n 2, 1) := by decide +kernel
theorem dX11_evenNow_27 : decode cX11_evenNow 27 = .ok (.iaload, 1) := by decide +kernel
theorem dX11_evenNow_28 : decode cX11_evenNow 28 = .ok (.istore_n 3, 1) := by decide +kernel
theorem dX11_evenNow_29 : decode cX11_evenNow 29 = .ok (.iconst 0, 1) := by decide +kernel
theorem dX11_evenNow_30 : decode cX11_evenNow 30 = .ok (.istore 4, 2) := by decide +kernel
theorem dX11_evenNow_32 : decode cX11_evenNow 32 = .ok (.iload 4, 2) := by decide +kernel
theorem dX11_evenNow_34 : decode cX11_evenNow 34 = .ok (.iconst 4, 1) := by decide +kernel
theorem dX11_evenNow_35 : decode cX11_evenNow 35 = .ok (.if_icmp .gt 47, 3) := by decide +kernel
theorem dX11_evenNow_38 : decode cX11_evenNow 38 = .ok (.iload_n 1, 1) := by decide +kernel
theorem dX11_evenNow_39 : decode cX11_evenNow 39 = .ok (.iconst (-1), 1) := by decide +kernel
theorem dX11_evenNow_40 : decode cX11_evenNow 40 = .ok (.if_icmp .ne 42, 3) := by decide +kernel
theorem dX11_evenNow_43 : decode cX11_evenNow 43 = .ok (.aload_n 0, 1) := by decide +kernel
theorem dX11_evenNow_44 : decode cX11_evenNow 44 = .ok (.getfield 7, 3) := by decide +kernel
theorem dX11_evenNow_47 : decode cX11_evenNow 47 = .ok (.iload_n 2, 1) := by decide +kernel
theorem dX11_evenNow_48 : decode cX11_evenNow 48 = .ok (.iload 4, 2) := by decide +kernel
theorem dX11_evenNow_50 : decode cX11_evenNow 50 = .ok (.iastore, 1) := by decide +kernel
theorem dX11_evenNow_51 : decode cX11_evenNow 51 = .ok (.iload 4, 2) := by decide +kernel
theorem dX11_evenNow_53 : decode cX11_evenNow 53 = .ok (.iload_n 3, 1) := by decide +kernel
theorem dX11_evenNow_54 : decode cX11_evenNow 54 = .ok (.if_icmp .eq 20, 3) := by decide +kernel
theorem dX11_evenNow_57 : decode cX11_evenNow 57 = .ok (.aload_n 0, 1) := by decide +kernel
theorem dX11_evenNow_58 : decode cX11_evenNow 58 = .ok (.invokevirtual 172, 3) := by decide +kernel
theorem dX11_evenNow_61 : decode cX11_evenNow 61 = .ok (.ifCond .eq 13, 3) := by decide +kernel
theorem dX11_evenNow_64 : decode cX11_evenNow 64 = .ok (.bipush 10, 2) := by decide +kernel
theorem dX11_evenNow_66 : decode cX11_evenNow 66 = .ok (.iload_n 2, 1) := by decide +kernel
theorem dX11_evenNow_67 : decode cX11_evenNow 67 = .ok (.imul, 1) := by decide +kernel
theorem dX11_evenNow_68 : decode cX11_evenNow 68 = .ok (.iload 4, 2) := by decide +kernel
theorem dX11_evenNow_70 : decode cX11_evenNow 70 = .ok (.iadd, 1) := by decide +kernel
theorem dX11_evenNow_71 : decode cX11_evenNow 71 = .ok (.goto 4, 3) := by decide +kernel
theorem dX11_evenNow_74 : decode cX11_evenNow 74 = .ok (.iconst (-1), 1) := by decide +kernel
theorem dX11_evenNow_75 : decode cX11_evenNow 75 = .ok (.istore_n 1, 1) := by decide +kernel
theorem dX11_evenNow_76 : decode cX11_evenNow 76 = .ok (.iinc 4 1, 3) := by decide +kernel
theorem dX11_evenNow_79 : decode cX11_evenNow 79 = .ok (.goto (-47), 3) := by decide +kernel
theorem dX11_evenNow_82 : decode cX11_evenNow 82 = .ok (.aload_n 0, 1) := by decide +kernel
theorem dX11_evenNow_83 : decode cX11_evenNow 83 = .ok (.getfield 7, 3) := by decide +kernel
theorem dX11_evenNow_86 : decode cX11_evenNow 86 = .ok (.iload_n 2, 1) := by decide +kernel
theorem dX11_evenNow_87 : decode cX11_evenNow 87 = .ok (.iload_n 3, 1) := by decide +kernel
theorem dX11_evenNow_88 : decode cX11_evenNow 88 = .ok (.iastore, 1) := by decide +kernel
theorem dX11_evenNow_89 : decode cX11_evenNow 89 = .ok (.iload_n 1, 1) := by decide +kernel
theorem dX11_evenNow_90 : decode cX11_evenNow 90 = .ok (.iconst (-1), 1) := by decide +kernel
theorem dX11_evenNow_91 : decode cX11_evenNow 91 = .ok (.if_icmp .eq 5, 3) := by decide +kernel
theorem dX11_evenNow_94 : decode cX11_evenNow 94 = .ok (.iload_n 1, 1) := by decide +kernel
theorem dX11_evenNow_95 : decode cX11_evenNow 95 = .ok (.ireturn, 1) := by decide +kernel
theorem dX11_evenNow_96 : decode cX11_evenNow 96 = .ok (.iinc 2 1, 3) := by decide +kernel
theorem dX11_evenNow_99 : decode cX11_evenNow 99 = .ok (.goto (-85), 3) := by decide +kernel
theorem dX11_evenNow_102 : decode cX11_evenNow 102 = .ok (.iconst (-1), 1) := by decide +kernel
theorem dX11_evenNow_103 : decode cX11_evenNow 103 = .ok (.ireturn, 1) := by decide +kernel
set_option maxRecDepth 20000 in
theorem ggX11_even_X11_evenNow : GoodIn wsX11_even wsX11_evenNow := goodIn_r _ [7, 1, 8, 9, 10, 11, 6, 12, 13, 14, 15, 16, 17, 18, 19, 20, 21, 22, 23, 24, 25, 26, 27, 28, 29, 30, 31, 32, 33, 34, 35, 36, 37, 38, 39, 40, 41, 42, 43, 44, 45, 46, 47, 48, 49, 50, 51, 52, 53, 54, 55, 56, 57, 58, 59, 60, 61, 62, 63, 64, 65, 66, 67, 68, 69, 70, 71, 72, 73, 74, 75, 76] (by decide +kernel) (by decide +kernel)
set_option maxRecDepth 20000 in
theorem gX11_even_X11_evenNow : GoodIn wsX11_even (wsV RX11 179 RX11 yX11_evenNow wsX11_evenNow) := goodIn_app (goodIn_of _ (by decide +kernel)) ggX11_even_X11_evenNow
theorem dX11_even_0 : decode cX11_even 0 = .ok (.aload_n 0, 1) := by decide +kernel
theorem dX11_even_1 : decode cX11_even 1 = .ok (.getfield 83, 3) := by decide +kernel
theorem dX11_even_4 : decode cX11_even 4 = .ok (.ifCond .eq 12, 3) := by decide +kernel
theorem dX11_even_7 : decode cX11_even 7 = .ok (.aload_n 0, 1) := by decide +kernel
theorem dX11_even_8 : decode cX11_even 8 = .ok (.getfield 176, 3) := by decide +kernel
theorem dX11_even_11 : decode cX11_even 11 = .ok (.bipush 30, 2) := by decide +kernel
theorem dX11_even_13 : decode cX11_even 13 = .ok (.if_icmp .ne 6, 3) := by decide +kernel
theorem dX11_even_16 : decode cX11_even 16 = .ok (.bipush (-103), 2) := by decide +kernel
theorem dX11_even_18 : decode cX11_even 18 = .ok (.ireturn, 1) := by decide +kernel
theorem dX11_even_19 : decode cX11_even 19 = .ok (.aload_n 0, 1) := by decide +kernel
theorem dX11_even_20 : decode cX11_even 20 = .ok (.dup, 1) := by decide +kernel
theorem dX11_even_21 : decode cX11_even 21 = .ok (.getfield 176, 3) := by decide +kernel
theorem dX11_even_24 : decode cX11_even 24 = .ok (.iconst 1, 1) := by decide +kernel
theorem dX11_even_25 : decode cX11_even 25 = .ok (.iadd, 1) := by decide +kernel
theorem dX11_even_26 : decode cX11_even 26 = .ok (.putfield 176, 3) := by decide +kernel
theorem dX11_even_29 : decode cX11_even 29 = .ok (.aload_n 0, 1) := by decide +kernel
theorem dX11_even_30 : decode cX11_even 30 = .ok (.invokevirtual 179, 3) := by decide +kernel
theorem dX11_even_33 : decode cX11_even 33 = .ok (.ireturn, 1) := by decide +kernel
set_option maxRecDepth 20000 in
theorem ggX11_partsFrom_X11_mayCut : GoodIn wsX11_partsFrom wsX11_mayCut := goodIn_r _ [8, 9, 10, 11, 7, 12, 13, 14, 15, 16, 1, 17, 26, 27, 28, 29, 30, 31, 32, 33, 34, 35, 36, 37, 38, 39, 40, 41, 42, 43, 44, 45, 46, 47, 48, 49, 50, 51, 52, 53, 54, 55, 56, 57, 58, 59] (by decide +kernel) (by decide +kernel)
set_option maxRecDepth 20000 in
theorem gX11_partsFrom_X11_mayCut : GoodIn wsX11_partsFrom (wsV RX11 111 RX11 yX11_mayCut wsX11_mayCut) := goodIn_app (goodIn_of _ (by decide +kernel)) ggX11_partsFrom_X11_mayCut
set_option maxRecDepth 20000 in
theorem ggX11_partsFrom_X11_leaves : GoodIn wsX11_partsFrom wsX11_leaves := goodIn_r _ [21, 22, 23, 24, 7, 25, 1, 17, 10, 11, 12, 26, 27, 28, 29, 30, 31, 32, 33, 34, 35, 36, 37, 38, 39, 40, 41, 42, 43, 44, 45, 46, 47, 48, 49, 50, 51, 52, 53, 54, 55, 56, 57, 58, 59] (by decide +kernel) (by decide +kernel)
set_option maxRecDepth 20000 in
theorem gX11_partsFrom_X11_leaves : GoodIn wsX11_partsFrom (wsV RX11 128 RX11 yX11_leaves wsX11_leaves) := goodIn_app (goodIn_of _ (by decide +kernel)) ggX11_partsFrom_X11_leaves
theorem dX11_partsFrom_0 : decode cX11_partsFrom 0 = .ok (.lconst 0, 1) := by decide +kernel
theorem dX11_partsFrom_1 : decode cX11_partsFrom 1 = .ok (.lstore_n 3, 1) := by decide +kernel
theorem dX11_partsFrom_2 : decode cX11_partsFrom 2 = .ok (.iconst 0, 1) := by decide +kernel
theorem dX11_partsFrom_3 : decode cX11_partsFrom 3 = .ok (.istore 5, 2) := by decide +kernel
theorem dX11_partsFrom_5 : decode cX11_partsFrom 5 = .ok (.iconst 0, 1) := by decide +kernel
theorem dX11_partsFrom_6 : decode cX11_partsFrom 6 = .ok (.istore 6, 2) := by decide +kernel
theorem dX11_partsFrom_8 : decode cX11_partsFrom 8 = .ok (.iload 6, 2) := by decide +kernel
theorem dX11_partsFrom_10 : decode cX11_partsFrom 10 = .ok (.aload_n 0, 1) := by decide +kernel
theorem dX11_partsFrom_11 : decode cX11_partsFrom 11 = .ok (.getfield 83, 3) := by decide +kernel
theorem dX11_partsFrom_14 : decode cX11_partsFrom 14 = .ok (.if_icmp .ge 44, 3) := by decide +kernel
theorem dX11_partsFrom_17 : decode cX11_partsFrom 17 = .ok (.aload_n 0, 1) := by decide +kernel
theorem dX11_partsFrom_18 : decode cX11_partsFrom 18 = .ok (.iload_n 2, 1) := by decide +kernel
theorem dX11_partsFrom_19 : decode cX11_partsFrom 19 = .ok (.iload 6, 2) := by decide +kernel
theorem dX11_partsFrom_21 : decode cX11_partsFrom 21 = .ok (.iload_n 1, 1) := by decide +kernel
theorem dX11_partsFrom_22 : decode cX11_partsFrom 22 = .ok (.invokevirtual 111, 3) := by decide +kernel
theorem dX11_partsFrom_25 : decode cX11_partsFrom 25 = .ok (.ifCond .eq 27, 3) := by decide +kernel
theorem dX11_partsFrom_28 : decode cX11_partsFrom 28 = .ok (.lload_n 3, 1) := by decide +kernel
theorem dX11_partsFrom_29 : decode cX11_partsFrom 29 = .ok (.aload_n 0, 1) := by decide +kernel
theorem dX11_partsFrom_30 : decode cX11_partsFrom 30 = .ok (.getfield 38, 3) := by decide +kernel
theorem dX11_partsFrom_33 : decode cX11_partsFrom 33 = .ok (.iconst 2, 1) := by decide +kernel
theorem dX11_partsFrom_34 : decode cX11_partsFrom 34 = .ok (.aload_n 0, 1) := by decide +kernel
theorem dX11_partsFrom_35 : decode cX11_partsFrom 35 = .ok (.iload 6, 2) := by decide +kernel
theorem dX11_partsFrom_37 : decode cX11_partsFrom 37 = .ok (.iload_n 1, 1) := by decide +kernel
theorem dX11_partsFrom_38 : decode cX11_partsFrom 38 = .ok (.invokevirtual 128, 3) := by decide +kernel
theorem dX11_partsFrom_41 : decode cX11_partsFrom 41 = .ok (.imul, 1) := by decide +kernel
theorem dX11_partsFrom_42 : decode cX11_partsFrom 42 = .ok (.iconst 1, 1) := by decide +kernel
theorem dX11_partsFrom_43 : decode cX11_partsFrom 43 = .ok (.iadd, 1) := by decide +kernel
theorem dX11_partsFrom_44 : decode cX11_partsFrom 44 = .ok (.iload_n 2, 1) := by decide +kernel
theorem dX11_partsFrom_45 : decode cX11_partsFrom 45 = .ok (.isub, 1) := by decide +kernel
end
section
theorem dX11_partsFrom_46 : decode cX11_partsFrom 46 = .ok (.laload, 1) := by decide +kernel
theorem dX11_partsFrom_47 : decode cX11_partsFrom 47 = .ok (.ladd, 1) := by decide +kernel
theorem dX11_partsFrom_48 : decode cX11_partsFrom 48 = .ok (.lstore_n 3, 1) := by decide +kernel
theorem dX11_partsFrom_49 : decode cX11_partsFrom 49 = .ok (.iinc 5 1, 3) := by decide +kernel
theorem dX11_partsFrom_52 : decode cX11_partsFrom 52 = .ok (.iinc 6 1, 3) := by decide +kernel
theorem dX11_partsFrom_55 : decode cX11_partsFrom 55 = .ok (.goto (-47), 3) := by decide +kernel
theorem dX11_partsFrom_58 : decode cX11_partsFrom 58 = .ok (.iload 5, 2) := by decide +kernel
theorem dX11_partsFrom_60 : decode cX11_partsFrom 60 = .ok (.ifCond .le 11, 3) := by decide +kernel
theorem dX11_partsFrom_63 : decode cX11_partsFrom 63 = .ok (.lload_n 3, 1) := by decide +kernel
theorem dX11_partsFrom_64 : decode cX11_partsFrom 64 = .ok (.iload 5, 2) := by decide +kernel
theorem dX11_partsFrom_66 : decode cX11_partsFrom 66 = .ok (.i2l, 1) := by decide +kernel
theorem dX11_partsFrom_67 : decode cX11_partsFrom 67 = .ok (.ldiv, 1) := by decide +kernel
theorem dX11_partsFrom_68 : decode cX11_partsFrom 68 = .ok (.goto 14, 3) := by decide +kernel
theorem dX11_partsFrom_71 : decode cX11_partsFrom 71 = .ok (.iload_n 2, 1) := by decide +kernel
theorem dX11_partsFrom_72 : decode cX11_partsFrom 72 = .ok (.ifCond .ne 7, 3) := by decide +kernel
theorem dX11_partsFrom_75 : decode cX11_partsFrom 75 = .ok (.lconst 0, 1) := by decide +kernel
theorem dX11_partsFrom_76 : decode cX11_partsFrom 76 = .ok (.goto 6, 3) := by decide +kernel
theorem dX11_partsFrom_79 : decode cX11_partsFrom 79 = .ok (.ldc2_w 182, 3) := by decide +kernel
theorem dX11_partsFrom_82 : decode cX11_partsFrom 82 = .ok (.lreturn, 1) := by decide +kernel
set_option maxRecDepth 20000 in
theorem ggX11_likelyNow_X11_partsFrom : GoodIn wsX11_likelyNow wsX11_partsFrom := goodIn_r _ [9, 10, 2, 4, 11, 12, 13, 8, 14, 15, 16, 17, 18, 19, 20, 21, 22, 23, 24, 25, 26, 27, 28, 29, 30, 31, 32, 33, 34, 35, 36, 37, 38, 39, 40, 41, 42, 43, 44, 45, 46, 47, 48, 49, 50, 51, 52, 53, 54, 55, 56, 57, 58, 59, 60, 61, 62, 63, 64, 65] (by decide +kernel) (by decide +kernel)
set_option maxRecDepth 20000 in
theorem gX11_likelyNow_X11_partsFrom : GoodIn wsX11_likelyNow (wsV RX11 184 RX11 yX11_partsFrom wsX11_partsFrom) := goodIn_app (goodIn_of _ (by decide +kernel)) ggX11_likelyNow_X11_partsFrom
theorem dX11_likelyNow_0 : decode cX11_likelyNow 0 = .ok (.iconst 0, 1) := by decide +kernel
theorem dX11_likelyNow_1 : decode cX11_likelyNow 1 = .ok (.istore_n 2, 1) := by decide +kernel
theorem dX11_likelyNow_2 : decode cX11_likelyNow 2 = .ok (.iload_n 2, 1) := by decide +kernel
theorem dX11_likelyNow_3 : decode cX11_likelyNow 3 = .ok (.aload_n 0, 1) := by decide +kernel
theorem dX11_likelyNow_4 : decode cX11_likelyNow 4 = .ok (.getfield 86, 3) := by decide +kernel
theorem dX11_likelyNow_7 : decode cX11_likelyNow 7 = .ok (.if_icmp .gt 50, 3) := by decide +kernel
theorem dX11_likelyNow_10 : decode cX11_likelyNow 10 = .ok (.iload_n 2, 1) := by decide +kernel
theorem dX11_likelyNow_11 : decode cX11_likelyNow 11 = .ok (.aload_n 0, 1) := by decide +kernel
theorem dX11_likelyNow_12 : decode cX11_likelyNow 12 = .ok (.getfield 86, 3) := by decide +kernel
theorem dX11_likelyNow_15 : decode cX11_likelyNow 15 = .ok (.iconst (-1), 1) := by decide +kernel
theorem dX11_likelyNow_16 : decode cX11_likelyNow 16 = .ok (.ixor, 1) := by decide +kernel
theorem dX11_likelyNow_17 : decode cX11_likelyNow 17 = .ok (.iand, 1) := by decide +kernel
theorem dX11_likelyNow_18 : decode cX11_likelyNow 18 = .ok (.ifCond .ne 33, 3) := by decide +kernel
theorem dX11_likelyNow_21 : decode cX11_likelyNow 21 = .ok (.aload_n 0, 1) := by decide +kernel
theorem dX11_likelyNow_22 : decode cX11_likelyNow 22 = .ok (.getfield 38, 3) := by decide +kernel
theorem dX11_likelyNow_25 : decode cX11_likelyNow 25 = .ok (.iconst 2, 1) := by decide +kernel
theorem dX11_likelyNow_26 : decode cX11_likelyNow 26 = .ok (.iload_n 2, 1) := by decide +kernel
theorem dX11_likelyNow_27 : decode cX11_likelyNow 27 = .ok (.imul, 1) := by decide +kernel
theorem dX11_likelyNow_28 : decode cX11_likelyNow 28 = .ok (.aload_n 0, 1) := by decide +kernel
theorem dX11_likelyNow_29 : decode cX11_likelyNow 29 = .ok (.iload_n 2, 1) := by decide +kernel
theorem dX11_likelyNow_30 : decode cX11_likelyNow 30 = .ok (.iconst 0, 1) := by decide +kernel
theorem dX11_likelyNow_31 : decode cX11_likelyNow 31 = .ok (.invokevirtual 184, 3) := by decide +kernel
theorem dX11_likelyNow_34 : decode cX11_likelyNow 34 = .ok (.lastore, 1) := by decide +kernel
theorem dX11_likelyNow_35 : decode cX11_likelyNow 35 = .ok (.aload_n 0, 1) := by decide +kernel
theorem dX11_likelyNow_36 : decode cX11_likelyNow 36 = .ok (.getfield 38, 3) := by decide +kernel
theorem dX11_likelyNow_39 : decode cX11_likelyNow 39 = .ok (.iconst 2, 1) := by decide +kernel
theorem dX11_likelyNow_40 : decode cX11_likelyNow 40 = .ok (.iload_n 2, 1) := by decide +kernel
theorem dX11_likelyNow_41 : decode cX11_likelyNow 41 = .ok (.imul, 1) := by decide +kernel
theorem dX11_likelyNow_42 : decode cX11_likelyNow 42 = .ok (.iconst 1, 1) := by decide +kernel
theorem dX11_likelyNow_43 : decode cX11_likelyNow 43 = .ok (.iadd, 1) := by decide +kernel
theorem dX11_likelyNow_44 : decode cX11_likelyNow 44 = .ok (.aload_n 0, 1) := by decide +kernel
theorem dX11_likelyNow_45 : decode cX11_likelyNow 45 = .ok (.iload_n 2, 1) := by decide +kernel
theorem dX11_likelyNow_46 : decode cX11_likelyNow 46 = .ok (.iconst 1, 1) := by decide +kernel
theorem dX11_likelyNow_47 : decode cX11_likelyNow 47 = .ok (.invokevirtual 184, 3) := by decide +kernel
theorem dX11_likelyNow_50 : decode cX11_likelyNow 50 = .ok (.lastore, 1) := by decide +kernel
theorem dX11_likelyNow_51 : decode cX11_likelyNow 51 = .ok (.iinc 2 1, 3) := by decide +kernel
theorem dX11_likelyNow_54 : decode cX11_likelyNow 54 = .ok (.goto (-52), 3) := by decide +kernel
theorem dX11_likelyNow_57 : decode cX11_likelyNow 57 = .ok (.aload_n 0, 1) := by decide +kernel
theorem dX11_likelyNow_58 : decode cX11_likelyNow 58 = .ok (.getfield 38, 3) := by decide +kernel
theorem dX11_likelyNow_61 : decode cX11_likelyNow 61 = .ok (.iconst 2, 1) := by decide +kernel
theorem dX11_likelyNow_62 : decode cX11_likelyNow 62 = .ok (.aload_n 0, 1) := by decide +kernel
theorem dX11_likelyNow_63 : decode cX11_likelyNow 63 = .ok (.getfield 86, 3) := by decide +kernel
theorem dX11_likelyNow_66 : decode cX11_likelyNow 66 = .ok (.imul, 1) := by decide +kernel
theorem dX11_likelyNow_67 : decode cX11_likelyNow 67 = .ok (.iload_n 1, 1) := by decide +kernel
theorem dX11_likelyNow_68 : decode cX11_likelyNow 68 = .ok (.iadd, 1) := by decide +kernel
theorem dX11_likelyNow_69 : decode cX11_likelyNow 69 = .ok (.laload, 1) := by decide +kernel
theorem dX11_likelyNow_70 : decode cX11_likelyNow 70 = .ok (.ldc2_w 188, 3) := by decide +kernel
theorem dX11_likelyNow_73 : decode cX11_likelyNow 73 = .ok (.lmul, 1) := by decide +kernel
theorem dX11_likelyNow_74 : decode cX11_likelyNow 74 = .ok (.ldc2_w 182, 3) := by decide +kernel
theorem dX11_likelyNow_77 : decode cX11_likelyNow 77 = .ok (.ldiv, 1) := by decide +kernel
theorem dX11_likelyNow_78 : decode cX11_likelyNow 78 = .ok (.l2i, 1) := by decide +kernel
theorem dX11_likelyNow_79 : decode cX11_likelyNow 79 = .ok (.ireturn, 1) := by decide +kernel
set_option maxRecDepth 20000 in
theorem ggX11_likely_X11_refused : GoodIn wsX11_likely wsX11_refused := goodIn_r _ [5, 6, 7, 8, 4, 9, 43, 44, 45, 46, 47, 48, 49, 50, 51, 52, 53, 54, 55, 56, 57, 58, 59, 60, 61, 62, 63, 64, 65, 66, 67, 68, 69, 70, 71, 72, 73, 74, 75, 76] (by decide +kernel) (by decide +kernel)
set_option maxRecDepth 20000 in
theorem gX11_likely_X11_refused : GoodIn wsX11_likely (wsV RX11 147 RX11 yX11_refused wsX11_refused) := goodIn_app (goodIn_of _ (by decide +kernel)) ggX11_likely_X11_refused
set_option maxRecDepth 20000 in
theorem ggX11_likely_X11_likelyNow : GoodIn wsX11_likely wsX11_likelyNow := goodIn_r _ [13, 14, 15, 16, 17, 18, 19, 20, 4, 21, 6, 22, 23, 24, 25, 26, 27, 28, 29, 30, 31, 32, 33, 34, 35, 36, 37, 38, 39, 40, 41, 42, 43, 44, 45, 46, 47, 48, 49, 50, 51, 52, 53, 54, 55, 56, 57, 58, 59, 60, 61, 62, 63, 64, 65, 66, 67, 68, 69, 70, 71, 72, 73, 74, 75, 76] (by decide +kernel) (by decide +kernel)
set_option maxRecDepth 20000 in
theorem gX11_likely_X11_likelyNow : GoodIn wsX11_likely (wsV RX11 190 RX11 yX11_likelyNow wsX11_likelyNow) := goodIn_app (goodIn_of _ (by decide +kernel)) ggX11_likely_X11_likelyNow
theorem dX11_likely_0 : decode cX11_likely 0 = .ok (.aload_n 0, 1) := by decide +kernel
theorem dX11_likely_1 : decode cX11_likely 1 = .ok (.iload_n 1, 1) := by decide +kernel
theorem dX11_likely_2 : decode cX11_likely 2 = .ok (.invokevirtual 147, 3) := by decide +kernel
theorem dX11_likely_5 : decode cX11_likely 5 = .ok (.ifCond .ge 11, 3) := by decide +kernel
theorem dX11_likely_8 : decode cX11_likely 8 = .ok (.aload_n 0, 1) := by decide +kernel
theorem dX11_likely_9 : decode cX11_likely 9 = .ok (.iload_n 1, 1) := by decide +kernel
theorem dX11_likely_10 : decode cX11_likely 10 = .ok (.invokevirtual 147, 3) := by decide +kernel
theorem dX11_likely_13 : decode cX11_likely 13 = .ok (.goto 8, 3) := by decide +kernel
theorem dX11_likely_16 : decode cX11_likely 16 = .ok (.aload_n 0, 1) := by decide +kernel
theorem dX11_likely_17 : decode cX11_likely 17 = .ok (.iload_n 1, 1) := by decide +kernel
theorem dX11_likely_18 : decode cX11_likely 18 = .ok (.invokevirtual 190, 3) := by decide +kernel
theorem dX11_likely_21 : decode cX11_likely 21 = .ok (.ireturn, 1) := by decide +kernel
set_option maxRecDepth 20000 in
theorem ggX11_see_X11_isBranch : GoodIn wsX11_see wsX11_isBranch := goodIn_r _ [9, 10, 11, 12, 8, 13, 14, 15, 16, 17, 18, 19, 20, 21, 22, 23, 24, 25, 26, 27, 28, 29, 30, 31, 32, 33, 34, 35, 36, 37, 38, 39, 40, 41, 42, 43, 44, 45, 46, 47] (by decide +kernel) (by decide +kernel)
set_option maxRecDepth 20000 in
theorem gX11_see_X11_isBranch : GoodIn wsX11_see (wsV RX11 120 RX11 yX11_isBranch wsX11_isBranch) := goodIn_app (goodIn_of _ (by decide +kernel)) ggX11_see_X11_isBranch
set_option maxRecDepth 20000 in
theorem ggX11_see_X11_within : GoodIn wsX11_see wsX11_within := goodIn_r _ [13] (by decide +kernel) (by decide +kernel)
set_option maxRecDepth 20000 in
theorem gX11_see_X11_within : GoodIn wsX11_see (va_wsS RX11 57 yX11_within wsX11_within) := goodIn_app (goodIn_of _ (by decide +kernel)) ggX11_see_X11_within
theorem dX11_see_0 : decode cX11_see 0 = .ok (.aload_n 0, 1) := by decide +kernel
theorem dX11_see_1 : decode cX11_see 1 = .ok (.iload_n 1, 1) := by decide +kernel
theorem dX11_see_2 : decode cX11_see 2 = .ok (.invokevirtual 120, 3) := by decide +kernel
theorem dX11_see_5 : decode cX11_see 5 = .ok (.ifCond .ne 6, 3) := by decide +kernel
theorem dX11_see_8 : decode cX11_see 8 = .ok (.bipush (-101), 2) := by decide +kernel
theorem dX11_see_10 : decode cX11_see 10 = .ok (.ireturn, 1) := by decide +kernel
theorem dX11_see_11 : decode cX11_see 11 = .ok (.iload_n 2, 1) := by decide +kernel
theorem dX11_see_12 : decode cX11_see 12 = .ok (.iconst 0, 1) := by decide +kernel
theorem dX11_see_13 : decode cX11_see 13 = .ok (.iconst 1, 1) := by decide +kernel
theorem dX11_see_14 : decode cX11_see 14 = .ok (.invokestatic 57, 3) := by decide +kernel
theorem dX11_see_17 : decode cX11_see 17 = .ok (.ifCond .ne 6, 3) := by decide +kernel
theorem dX11_see_20 : decode cX11_see 20 = .ok (.bipush (-102), 2) := by decide +kernel
theorem dX11_see_22 : decode cX11_see 22 = .ok (.ireturn, 1) := by decide +kernel
theorem dX11_see_23 : decode cX11_see 23 = .ok (.aload_n 0, 1) := by decide +kernel
theorem dX11_see_24 : decode cX11_see 24 = .ok (.getfield 98, 3) := by decide +kernel
theorem dX11_see_27 : decode cX11_see 27 = .ok (.bipush 6, 2) := by decide +kernel
theorem dX11_see_29 : decode cX11_see 29 = .ok (.if_icmp .ne 6, 3) := by decide +kernel
theorem dX11_see_32 : decode cX11_see 32 = .ok (.bipush (-104), 2) := by decide +kernel
theorem dX11_see_34 : decode cX11_see 34 = .ok (.ireturn, 1) := by decide +kernel
theorem dX11_see_35 : decode cX11_see 35 = .ok (.aload_n 0, 1) := by decide +kernel
theorem dX11_see_36 : decode cX11_see 36 = .ok (.getfield 16, 3) := by decide +kernel
theorem dX11_see_39 : decode cX11_see 39 = .ok (.aload_n 0, 1) := by decide +kernel
theorem dX11_see_40 : decode cX11_see 40 = .ok (.getfield 98, 3) := by decide +kernel
theorem dX11_see_43 : decode cX11_see 43 = .ok (.iload_n 1, 1) := by decide +kernel
theorem dX11_see_44 : decode cX11_see 44 = .ok (.iastore, 1) := by decide +kernel
theorem dX11_see_45 : decode cX11_see 45 = .ok (.aload_n 0, 1) := by decide +kernel
theorem dX11_see_46 : decode cX11_see 46 = .ok (.getfield 19, 3) := by decide +kernel
theorem dX11_see_49 : decode cX11_see 49 = .ok (.aload_n 0, 1) := by decide +kernel
theorem dX11_see_50 : decode cX11_see 50 = .ok (.getfield 98, 3) := by decide +kernel
theorem dX11_see_53 : decode cX11_see 53 = .ok (.iload_n 2, 1) := by decide +kernel
theorem dX11_see_54 : decode cX11_see 54 = .ok (.iastore, 1) := by decide +kernel
theorem dX11_see_55 : decode cX11_see 55 = .ok (.aload_n 0, 1) := by decide +kernel
theorem dX11_see_56 : decode cX11_see 56 = .ok (.getfield 22, 3) := by decide +kernel
theorem dX11_see_59 : decode cX11_see 59 = .ok (.aload_n 0, 1) := by decide +kernel
theorem dX11_see_60 : decode cX11_see 60 = .ok (.getfield 98, 3) := by decide +kernel
theorem dX11_see_63 : decode cX11_see 63 = .ok (.iload_n 3, 1) := by decide +kernel
theorem dX11_see_64 : decode cX11_see 64 = .ok (.ifCond .eq 7, 3) := by decide +kernel
theorem dX11_see_67 : decode cX11_see 67 = .ok (.iconst 1, 1) := by decide +kernel
theorem dX11_see_68 : decode cX11_see 68 = .ok (.goto 4, 3) := by decide +kernel
theorem dX11_see_71 : decode cX11_see 71 = .ok (.iconst 0, 1) := by decide +kernel
theorem dX11_see_72 : decode cX11_see 72 = .ok (.iastore, 1) := by decide +kernel
theorem dX11_see_73 : decode cX11_see 73 = .ok (.aload_n 0, 1) := by decide +kernel
theorem dX11_see_74 : decode cX11_see 74 = .ok (.dup, 1) := by decide +kernel
theorem dX11_see_75 : decode cX11_see 75 = .ok (.getfield 98, 3) := by decide +kernel
theorem dX11_see_78 : decode cX11_see 78 = .ok (.iconst 1, 1) := by decide +kernel
theorem dX11_see_79 : decode cX11_see 79 = .ok (.iadd, 1) := by decide +kernel
theorem dX11_see_80 : decode cX11_see 80 = .ok (.putfield 98, 3) := by decide +kernel
theorem dX11_see_83 : decode cX11_see 83 = .ok (.aload_n 0, 1) := by decide +kernel
theorem dX11_see_84 : decode cX11_see 84 = .ok (.getfield 98, 3) := by decide +kernel
theorem dX11_see_87 : decode cX11_see 87 = .ok (.ireturn, 1) := by decide +kernel
theorem dX11_forget_0 : decode cX11_forget 0 = .ok (.aload_n 0, 1) := by decide +kernel
theorem dX11_forget_1 : decode cX11_forget 1 = .ok (.getfield 98, 3) := by decide +kernel
theorem dX11_forget_4 : decode cX11_forget 4 = .ok (.istore_n 1, 1) := by decide +kernel
theorem dX11_forget_5 : decode cX11_forget 5 = .ok (.aload_n 0, 1) := by decide +kernel
theorem dX11_forget_6 : decode cX11_forget 6 = .ok (.iconst 0, 1) := by decide +kernel
theorem dX11_forget_7 : decode cX11_forget 7 = .ok (.putfield 98, 3) := by decide +kernel
theorem dX11_forget_10 : decode cX11_forget 10 = .ok (.iload_n 1, 1) := by decide +kernel
theorem dX11_forget_11 : decode cX11_forget 11 = .ok (.ireturn, 1) := by decide +kernel
set_option maxRecDepth 20000 in
theorem ggX11_laySorts_X11_layWinners : GoodIn wsX11_laySorts wsX11_layWinners := goodIn_r _ [9, 4, 3, 10, 11, 12, 8, 13, 14, 15, 16, 17, 18, 1, 19, 20, 21, 22, 23, 24, 25, 26, 27, 28, 29, 30, 31, 32, 33, 34, 35, 36, 37, 38, 39, 40, 41, 42, 43, 44, 45, 46, 47, 48, 49, 50, 51, 52, 53, 54, 55, 56, 57, 58, 59, 60, 61, 62, 63, 64, 65, 66, 67, 68] (by decide +kernel) (by decide +kernel)
set_option maxRecDepth 20000 in
theorem gX11_laySorts_X11_layWinners : GoodIn wsX11_laySorts (wsV RX11 138 RX11 yX11_layWinners wsX11_layWinners) := goodIn_app (goodIn_of _ (by decide +kernel)) ggX11_laySorts_X11_layWinners
theorem dX11_laySorts_0 : decode cX11_laySorts 0 = .ok (.aload_n 0, 1) := by decide +kernel
theorem dX11_laySorts_1 : decode cX11_laySorts 1 = .ok (.getfield 7, 3) := by decide +kernel
theorem dX11_laySorts_4 : decode cX11_laySorts 4 = .ok (.iload_n 1, 1) := by decide +kernel
theorem dX11_laySorts_5 : decode cX11_laySorts 5 = .ok (.iaload, 1) := by decide +kernel
theorem dX11_laySorts_6 : decode cX11_laySorts 6 = .ok (.istore_n 2, 1) := by decide +kernel
theorem dX11_laySorts_7 : decode cX11_laySorts 7 = .ok (.iconst 0, 1) := by decide +kernel
theorem dX11_laySorts_8 : decode cX11_laySorts 8 = .ok (.istore_n 3, 1) := by decide +kernel
theorem dX11_laySorts_9 : decode cX11_laySorts 9 = .ok (.iload_n 3, 1) := by decide +kernel
theorem dX11_laySorts_10 : decode cX11_laySorts 10 = .ok (.iconst 4, 1) := by decide +kernel
theorem dX11_laySorts_11 : decode cX11_laySorts 11 = .ok (.if_icmp .gt 79, 3) := by decide +kernel
theorem dX11_laySorts_14 : decode cX11_laySorts 14 = .ok (.aload_n 0, 1) := by decide +kernel
theorem dX11_laySorts_15 : decode cX11_laySorts 15 = .ok (.getfield 7, 3) := by decide +kernel
theorem dX11_laySorts_18 : decode cX11_laySorts 18 = .ok (.iload_n 1, 1) := by decide +kernel
theorem dX11_laySorts_19 : decode cX11_laySorts 19 = .ok (.iload_n 3, 1) := by decide +kernel
theorem dX11_laySorts_20 : decode cX11_laySorts 20 = .ok (.iastore, 1) := by decide +kernel
theorem dX11_laySorts_21 : decode cX11_laySorts 21 = .ok (.aload_n 0, 1) := by decide +kernel
theorem dX11_laySorts_22 : decode cX11_laySorts 22 = .ok (.invokevirtual 138, 3) := by decide +kernel
theorem dX11_laySorts_25 : decode cX11_laySorts 25 = .ok (.aload_n 0, 1) := by decide +kernel
theorem dX11_laySorts_26 : decode cX11_laySorts 26 = .ok (.getfield 42, 3) := by decide +kernel
theorem dX11_laySorts_29 : decode cX11_laySorts 29 = .ok (.iconst 2, 1) := by decide +kernel
theorem dX11_laySorts_30 : decode cX11_laySorts 30 = .ok (.iload_n 3, 1) := by decide +kernel
theorem dX11_laySorts_31 : decode cX11_laySorts 31 = .ok (.imul, 1) := by decide +kernel
theorem dX11_laySorts_32 : decode cX11_laySorts 32 = .ok (.aload_n 0, 1) := by decide +kernel
theorem dX11_laySorts_33 : decode cX11_laySorts 33 = .ok (.getfield 29, 3) := by decide +kernel
theorem dX11_laySorts_36 : decode cX11_laySorts 36 = .ok (.iconst 2, 1) := by decide +kernel
theorem dX11_laySorts_37 : decode cX11_laySorts 37 = .ok (.aload_n 0, 1) := by decide +kernel
theorem dX11_laySorts_38 : decode cX11_laySorts 38 = .ok (.getfield 86, 3) := by decide +kernel
theorem dX11_laySorts_41 : decode cX11_laySorts 41 = .ok (.imul, 1) := by decide +kernel
theorem dX11_laySorts_42 : decode cX11_laySorts 42 = .ok (.iaload, 1) := by decide +kernel
theorem dX11_laySorts_43 : decode cX11_laySorts 43 = .ok (.ifCond .ne 7, 3) := by decide +kernel
theorem dX11_laySorts_46 : decode cX11_laySorts 46 = .ok (.iconst 1, 1) := by decide +kernel
theorem dX11_laySorts_47 : decode cX11_laySorts 47 = .ok (.goto 4, 3) := by decide +kernel
theorem dX11_laySorts_50 : decode cX11_laySorts 50 = .ok (.iconst 0, 1) := by decide +kernel
theorem dX11_laySorts_51 : decode cX11_laySorts 51 = .ok (.iastore, 1) := by decide +kernel
theorem dX11_laySorts_52 : decode cX11_laySorts 52 = .ok (.aload_n 0, 1) := by decide +kernel
theorem dX11_laySorts_53 : decode cX11_laySorts 53 = .ok (.getfield 42, 3) := by decide +kernel
theorem dX11_laySorts_56 : decode cX11_laySorts 56 = .ok (.iconst 2, 1) := by decide +kernel
theorem dX11_laySorts_57 : decode cX11_laySorts 57 = .ok (.iload_n 3, 1) := by decide +kernel
theorem dX11_laySorts_58 : decode cX11_laySorts 58 = .ok (.imul, 1) := by decide +kernel
theorem dX11_laySorts_59 : decode cX11_laySorts 59 = .ok (.iconst 1, 1) := by decide +kernel
theorem dX11_laySorts_60 : decode cX11_laySorts 60 = .ok (.iadd, 1) := by decide +kernel
theorem dX11_laySorts_61 : decode cX11_laySorts 61 = .ok (.aload_n 0, 1) := by decide +kernel
theorem dX11_laySorts_62 : decode cX11_laySorts 62 = .ok (.getfield 29, 3) := by decide +kernel
theorem dX11_laySorts_65 : decode cX11_laySorts 65 = .ok (.iconst 2, 1) := by decide +kernel
theorem dX11_laySorts_66 : decode cX11_laySorts 66 = .ok (.aload_n 0, 1) := by decide +kernel
theorem dX11_laySorts_67 : decode cX11_laySorts 67 = .ok (.getfield 86, 3) := by decide +kernel
theorem dX11_laySorts_70 : decode cX11_laySorts 70 = .ok (.imul, 1) := by decide +kernel
theorem dX11_laySorts_71 : decode cX11_laySorts 71 = .ok (.iconst 1, 1) := by decide +kernel
theorem dX11_laySorts_72 : decode cX11_laySorts 72 = .ok (.iadd, 1) := by decide +kernel
theorem dX11_laySorts_73 : decode cX11_laySorts 73 = .ok (.iaload, 1) := by decide +kernel
theorem dX11_laySorts_74 : decode cX11_laySorts 74 = .ok (.iconst 1, 1) := by decide +kernel
theorem dX11_laySorts_75 : decode cX11_laySorts 75 = .ok (.if_icmp .ne 7, 3) := by decide +kernel
theorem dX11_laySorts_78 : decode cX11_laySorts 78 = .ok (.iconst 1, 1) := by decide +kernel
theorem dX11_laySorts_79 : decode cX11_laySorts 79 = .ok (.goto 4, 3) := by decide +kernel
theorem dX11_laySorts_82 : decode cX11_laySorts 82 = .ok (.iconst 0, 1) := by decide +kernel
theorem dX11_laySorts_83 : decode cX11_laySorts 83 = .ok (.iastore, 1) := by decide +kernel
theorem dX11_laySorts_84 : decode cX11_laySorts 84 = .ok (.iinc 3 1, 3) := by decide +kernel
theorem dX11_laySorts_87 : decode cX11_laySorts 87 = .ok (.goto (-78), 3) := by decide +kernel
theorem dX11_laySorts_90 : decode cX11_laySorts 90 = .ok (.aload_n 0, 1) := by decide +kernel
theorem dX11_laySorts_91 : decode cX11_laySorts 91 = .ok (.getfield 7, 3) := by decide +kernel
theorem dX11_laySorts_94 : decode cX11_laySorts 94 = .ok (.iload_n 1, 1) := by decide +kernel
theorem dX11_laySorts_95 : decode cX11_laySorts 95 = .ok (.iload_n 2, 1) := by decide +kernel
theorem dX11_laySorts_96 : decode cX11_laySorts 96 = .ok (.iastore, 1) := by decide +kernel
theorem dX11_laySorts_97 : decode cX11_laySorts 97 = .ok (.return_, 1) := by decide +kernel
set_option maxRecDepth 20000 in
theorem ggX11_sortsOf_X11_laySorts : GoodIn wsX11_sortsOf wsX11_laySorts := goodIn_r _ [10, 11, 3, 12, 13, 14, 15, 16, 9, 17, 18, 19, 20, 21, 22, 23, 24, 25, 26, 27, 28, 29, 30, 31, 32, 33, 34, 35, 36, 37, 38, 39, 40, 41, 42, 43, 44, 45, 46, 47, 48, 49, 50, 51, 52, 53, 54, 55, 56, 57, 58, 59, 60, 61, 62, 63, 64, 65, 66, 67, 68, 69, 70, 71, 72, 73, 74, 75, 76] (by decide +kernel) (by decide +kernel)
set_option maxRecDepth 20000 in
theorem gX11_sortsOf_X11_laySorts : GoodIn wsX11_sortsOf (wsV RX11 193 RX11 yX11_laySorts wsX11_laySorts) := goodIn_app (goodIn_of _ (by decide +kernel)) ggX11_sortsOf_X11_laySorts
theorem dX11_sortsOf_0 : decode cX11_sortsOf 0 = .ok (.aload_n 0, 1) := by decide +kernel
theorem dX11_sortsOf_1 : decode cX11_sortsOf 1 = .ok (.iload_n 1, 1) := by decide +kernel
theorem dX11_sortsOf_2 : decode cX11_sortsOf 2 = .ok (.invokevirtual 193, 3) := by decide +kernel
theorem dX11_sortsOf_5 : decode cX11_sortsOf 5 = .ok (.iconst 0, 1) := by decide +kernel
theorem dX11_sortsOf_6 : decode cX11_sortsOf 6 = .ok (.istore_n 2, 1) := by decide +kernel
theorem dX11_sortsOf_7 : decode cX11_sortsOf 7 = .ok (.iconst 0, 1) := by decide +kernel
theorem dX11_sortsOf_8 : decode cX11_sortsOf 8 = .ok (.istore_n 3, 1) := by decide +kernel
theorem dX11_sortsOf_9 : decode cX11_sortsOf 9 = .ok (.iload_n 3, 1) := by decide +kernel
theorem dX11_sortsOf_10 : decode cX11_sortsOf 10 = .ok (.iconst 4, 1) := by decide +kernel
theorem dX11_sortsOf_11 : decode cX11_sortsOf 11 = .ok (.if_icmp .gt 94, 3) := by decide +kernel
theorem dX11_sortsOf_14 : decode cX11_sortsOf 14 = .ok (.iconst 1, 1) := by decide +kernel
theorem dX11_sortsOf_15 : decode cX11_sortsOf 15 = .ok (.istore 4, 2) := by decide +kernel
theorem dX11_sortsOf_17 : decode cX11_sortsOf 17 = .ok (.iconst 0, 1) := by decide +kernel
theorem dX11_sortsOf_18 : decode cX11_sortsOf 18 = .ok (.istore 5, 2) := by decide +kernel
theorem dX11_sortsOf_20 : decode cX11_sortsOf 20 = .ok (.iload 5, 2) := by decide +kernel
theorem dX11_sortsOf_22 : decode cX11_sortsOf 22 = .ok (.aload_n 0, 1) := by decide +kernel
theorem dX11_sortsOf_23 : decode cX11_sortsOf 23 = .ok (.getfield 98, 3) := by decide +kernel
theorem dX11_sortsOf_26 : decode cX11_sortsOf 26 = .ok (.if_icmp .ge 58, 3) := by decide +kernel
theorem dX11_sortsOf_29 : decode cX11_sortsOf 29 = .ok (.iload 4, 2) := by decide +kernel
theorem dX11_sortsOf_31 : decode cX11_sortsOf 31 = .ok (.ifCond .eq 44, 3) := by decide +kernel
theorem dX11_sortsOf_34 : decode cX11_sortsOf 34 = .ok (.aload_n 0, 1) := by decide +kernel
theorem dX11_sortsOf_35 : decode cX11_sortsOf 35 = .ok (.getfield 16, 3) := by decide +kernel
theorem dX11_sortsOf_38 : decode cX11_sortsOf 38 = .ok (.iload 5, 2) := by decide +kernel
theorem dX11_sortsOf_40 : decode cX11_sortsOf 40 = .ok (.iaload, 1) := by decide +kernel
theorem dX11_sortsOf_41 : decode cX11_sortsOf 41 = .ok (.iload_n 1, 1) := by decide +kernel
theorem dX11_sortsOf_42 : decode cX11_sortsOf 42 = .ok (.if_icmp .ne 29, 3) := by decide +kernel
theorem dX11_sortsOf_45 : decode cX11_sortsOf 45 = .ok (.aload_n 0, 1) := by decide +kernel
theorem dX11_sortsOf_46 : decode cX11_sortsOf 46 = .ok (.getfield 42, 3) := by decide +kernel
theorem dX11_sortsOf_49 : decode cX11_sortsOf 49 = .ok (.iconst 2, 1) := by decide +kernel
theorem dX11_sortsOf_50 : decode cX11_sortsOf 50 = .ok (.iload_n 3, 1) := by decide +kernel
theorem dX11_sortsOf_51 : decode cX11_sortsOf 51 = .ok (.imul, 1) := by decide +kernel
theorem dX11_sortsOf_52 : decode cX11_sortsOf 52 = .ok (.aload_n 0, 1) := by decide +kernel
theorem dX11_sortsOf_53 : decode cX11_sortsOf 53 = .ok (.getfield 19, 3) := by decide +kernel
theorem dX11_sortsOf_56 : decode cX11_sortsOf 56 = .ok (.iload 5, 2) := by decide +kernel
theorem dX11_sortsOf_58 : decode cX11_sortsOf 58 = .ok (.iaload, 1) := by decide +kernel
theorem dX11_sortsOf_59 : decode cX11_sortsOf 59 = .ok (.iadd, 1) := by decide +kernel
theorem dX11_sortsOf_60 : decode cX11_sortsOf 60 = .ok (.iaload, 1) := by decide +kernel
theorem dX11_sortsOf_61 : decode cX11_sortsOf 61 = .ok (.aload_n 0, 1) := by decide +kernel
theorem dX11_sortsOf_62 : decode cX11_sortsOf 62 = .ok (.getfield 22, 3) := by decide +kernel
theorem dX11_sortsOf_65 : decode cX11_sortsOf 65 = .ok (.iload 5, 2) := by decide +kernel
theorem dX11_sortsOf_67 : decode cX11_sortsOf 67 = .ok (.iaload, 1) := by decide +kernel
theorem dX11_sortsOf_68 : decode cX11_sortsOf 68 = .ok (.if_icmp .ne 7, 3) := by decide +kernel
theorem dX11_sortsOf_71 : decode cX11_sortsOf 71 = .ok (.iconst 1, 1) := by decide +kernel
theorem dX11_sortsOf_72 : decode cX11_sortsOf 72 = .ok (.goto 4, 3) := by decide +kernel
theorem dX11_sortsOf_75 : decode cX11_sortsOf 75 = .ok (.iconst 0, 1) := by decide +kernel
theorem dX11_sortsOf_76 : decode cX11_sortsOf 76 = .ok (.istore 4, 2) := by decide +kernel
theorem dX11_sortsOf_78 : decode cX11_sortsOf 78 = .ok (.iinc 5 1, 3) := by decide +kernel
theorem dX11_sortsOf_81 : decode cX11_sortsOf 81 = .ok (.goto (-61), 3) := by decide +kernel
theorem dX11_sortsOf_84 : decode cX11_sortsOf 84 = .ok (.iload_n 2, 1) := by decide +kernel
theorem dX11_sortsOf_85 : decode cX11_sortsOf 85 = .ok (.iload 4, 2) := by decide +kernel
theorem dX11_sortsOf_87 : decode cX11_sortsOf 87 = .ok (.ifCond .eq 9, 3) := by decide +kernel
theorem dX11_sortsOf_90 : decode cX11_sortsOf 90 = .ok (.iconst 1, 1) := by decide +kernel
theorem dX11_sortsOf_91 : decode cX11_sortsOf 91 = .ok (.iload_n 3, 1) := by decide +kernel
theorem dX11_sortsOf_92 : decode cX11_sortsOf 92 = .ok (.ishl, 1) := by decide +kernel
theorem dX11_sortsOf_93 : decode cX11_sortsOf 93 = .ok (.goto 4, 3) := by decide +kernel
theorem dX11_sortsOf_96 : decode cX11_sortsOf 96 = .ok (.iconst 0, 1) := by decide +kernel
theorem dX11_sortsOf_97 : decode cX11_sortsOf 97 = .ok (.ior, 1) := by decide +kernel
theorem dX11_sortsOf_98 : decode cX11_sortsOf 98 = .ok (.istore_n 2, 1) := by decide +kernel
theorem dX11_sortsOf_99 : decode cX11_sortsOf 99 = .ok (.iinc 3 1, 3) := by decide +kernel
theorem dX11_sortsOf_102 : decode cX11_sortsOf 102 = .ok (.goto (-93), 3) := by decide +kernel
theorem dX11_sortsOf_105 : decode cX11_sortsOf 105 = .ok (.iload_n 2, 1) := by decide +kernel
theorem dX11_sortsOf_106 : decode cX11_sortsOf 106 = .ok (.ireturn, 1) := by decide +kernel
set_option maxRecDepth 20000 in
theorem ggX11_worstBy_X11_isIn : GoodIn wsX11_worstBy wsX11_isIn := goodIn_r _ [5] (by decide +kernel) (by decide +kernel)
set_option maxRecDepth 20000 in
theorem gX11_worstBy_X11_isIn : GoodIn wsX11_worstBy (va_wsS RX11 101 yX11_isIn wsX11_isIn) := goodIn_app (goodIn_of _ (by decide +kernel)) ggX11_worstBy_X11_isIn
set_option maxRecDepth 20000 in
theorem ggX11_worstBy_X11_size : GoodIn wsX11_worstBy wsX11_size := goodIn_r _ [8] (by decide +kernel) (by decide +kernel)
set_option maxRecDepth 20000 in
theorem gX11_worstBy_X11_size : GoodIn wsX11_worstBy (va_wsS RX11 131 yX11_size wsX11_size) := goodIn_app (goodIn_of _ (by decide +kernel)) ggX11_worstBy_X11_size
theorem dX11_worstBy_0 : decode cX11_worstBy 0 = .ok (.iconst 0, 1) := by decide +kernel
theorem dX11_worstBy_1 : decode cX11_worstBy 1 = .ok (.istore_n 3, 1) := by decide +kernel
theorem dX11_worstBy_2 : decode cX11_worstBy 2 = .ok (.iconst 0, 1) := by decide +kernel
theorem dX11_worstBy_3 : decode cX11_worstBy 3 = .ok (.istore 4, 2) := by decide +kernel
theorem dX11_worstBy_5 : decode cX11_worstBy 5 = .ok (.iload 4, 2) := by decide +kernel
theorem dX11_worstBy_7 : decode cX11_worstBy 7 = .ok (.iconst 4, 1) := by decide +kernel
theorem dX11_worstBy_8 : decode cX11_worstBy 8 = .ok (.if_icmp .gt 36, 3) := by decide +kernel
theorem dX11_worstBy_11 : decode cX11_worstBy 11 = .ok (.iload_n 3, 1) := by decide +kernel
theorem dX11_worstBy_12 : decode cX11_worstBy 12 = .ok (.iload_n 1, 1) := by decide +kernel
theorem dX11_worstBy_13 : decode cX11_worstBy 13 = .ok (.iload 4, 2) := by decide +kernel
theorem dX11_worstBy_15 : decode cX11_worstBy 15 = .ok (.invokestatic 101, 3) := by decide +kernel
theorem dX11_worstBy_18 : decode cX11_worstBy 18 = .ok (.ifCond .eq 17, 3) := by decide +kernel
theorem dX11_worstBy_21 : decode cX11_worstBy 21 = .ok (.aload_n 0, 1) := by decide +kernel
theorem dX11_worstBy_22 : decode cX11_worstBy 22 = .ok (.getfield 42, 3) := by decide +kernel
theorem dX11_worstBy_25 : decode cX11_worstBy 25 = .ok (.iconst 2, 1) := by decide +kernel
theorem dX11_worstBy_26 : decode cX11_worstBy 26 = .ok (.iload 4, 2) := by decide +kernel
theorem dX11_worstBy_28 : decode cX11_worstBy 28 = .ok (.imul, 1) := by decide +kernel
theorem dX11_worstBy_29 : decode cX11_worstBy 29 = .ok (.iload_n 2, 1) := by decide +kernel
theorem dX11_worstBy_30 : decode cX11_worstBy 30 = .ok (.iadd, 1) := by decide +kernel
theorem dX11_worstBy_31 : decode cX11_worstBy 31 = .ok (.iaload, 1) := by decide +kernel
theorem dX11_worstBy_32 : decode cX11_worstBy 32 = .ok (.goto 4, 3) := by decide +kernel
theorem dX11_worstBy_35 : decode cX11_worstBy 35 = .ok (.iconst 0, 1) := by decide +kernel
theorem dX11_worstBy_36 : decode cX11_worstBy 36 = .ok (.iadd, 1) := by decide +kernel
theorem dX11_worstBy_37 : decode cX11_worstBy 37 = .ok (.istore_n 3, 1) := by decide +kernel
theorem dX11_worstBy_38 : decode cX11_worstBy 38 = .ok (.iinc 4 1, 3) := by decide +kernel
theorem dX11_worstBy_41 : decode cX11_worstBy 41 = .ok (.goto (-36), 3) := by decide +kernel
theorem dX11_worstBy_44 : decode cX11_worstBy 44 = .ok (.iload_n 1, 1) := by decide +kernel
theorem dX11_worstBy_45 : decode cX11_worstBy 45 = .ok (.invokestatic 131, 3) := by decide +kernel
theorem dX11_worstBy_48 : decode cX11_worstBy 48 = .ok (.iload_n 3, 1) := by decide +kernel
theorem dX11_worstBy_49 : decode cX11_worstBy 49 = .ok (.isub, 1) := by decide +kernel
theorem dX11_worstBy_50 : decode cX11_worstBy 50 = .ok (.istore 4, 2) := by decide +kernel
theorem dX11_worstBy_52 : decode cX11_worstBy 52 = .ok (.iload_n 3, 1) := by decide +kernel
theorem dX11_worstBy_53 : decode cX11_worstBy 53 = .ok (.iload 4, 2) := by decide +kernel
theorem dX11_worstBy_55 : decode cX11_worstBy 55 = .ok (.if_icmp .le 7, 3) := by decide +kernel
theorem dX11_worstBy_58 : decode cX11_worstBy 58 = .ok (.iload_n 3, 1) := by decide +kernel
theorem dX11_worstBy_59 : decode cX11_worstBy 59 = .ok (.goto 5, 3) := by decide +kernel
theorem dX11_worstBy_62 : decode cX11_worstBy 62 = .ok (.iload 4, 2) := by decide +kernel
theorem dX11_worstBy_64 : decode cX11_worstBy 64 = .ok (.ireturn, 1) := by decide +kernel
set_option maxRecDepth 20000 in
theorem ggX11_letOf_X11_sortsOf : GoodIn wsX11_letOf wsX11_sortsOf := goodIn_r _ [5, 6, 7, 8, 9, 10, 11, 12, 13, 4, 14, 15, 16, 17, 18, 19, 20, 21, 22, 23, 24, 25, 26, 27, 28, 29, 30, 31, 32, 33, 34, 35, 36, 37, 38, 39, 40, 41, 42, 43, 44, 45, 46, 54, 55, 56, 57, 58, 59, 60, 61, 62, 63, 64, 65, 66, 67, 68, 69, 70, 71, 72, 73, 74, 75, 76, 77, 78, 79, 80, 81, 82, 83, 84, 85, 86, 87] (by decide +kernel) (by decide +kernel)
set_option maxRecDepth 20000 in
theorem gX11_letOf_X11_sortsOf : GoodIn wsX11_letOf (wsV RX11 114 RX11 yX11_sortsOf wsX11_sortsOf) := goodIn_app (goodIn_of _ (by decide +kernel)) ggX11_letOf_X11_sortsOf
set_option maxRecDepth 20000 in
theorem ggX11_letOf_X11_worstBy : GoodIn wsX11_letOf wsX11_worstBy := goodIn_r _ [50, 8, 31, 32, 4, 33, 51, 52, 53, 54, 55, 56, 57, 58, 59, 60, 61, 62, 63, 64, 65, 66, 67, 68, 69, 70, 71, 72, 73, 74, 75, 76, 77, 78, 79, 80, 81, 82, 83, 84, 85, 86, 87] (by decide +kernel) (by decide +kernel)
set_option maxRecDepth 20000 in
theorem gX11_letOf_X11_worstBy : GoodIn wsX11_letOf (wsV RX11 197 RX11 yX11_worstBy wsX11_worstBy) := goodIn_app (goodIn_of _ (by decide +kernel)) ggX11_letOf_X11_worstBy
theorem dX11_letOf_0 : decode cX11_letOf 0 = .ok (.aload_n 0, 1) := by decide +kernel
theorem dX11_letOf_1 : decode cX11_letOf 1 = .ok (.iload_n 1, 1) := by decide +kernel
theorem dX11_letOf_2 : decode cX11_letOf 2 = .ok (.invokevirtual 114, 3) := by decide +kernel
theorem dX11_letOf_5 : decode cX11_letOf 5 = .ok (.istore_n 2, 1) := by decide +kernel
theorem dX11_letOf_6 : decode cX11_letOf 6 = .ok (.iload_n 2, 1) := by decide +kernel
theorem dX11_letOf_7 : decode cX11_letOf 7 = .ok (.ifCond .ne 5, 3) := by decide +kernel
theorem dX11_letOf_10 : decode cX11_letOf 10 = .ok (.iconst (-1), 1) := by decide +kernel
theorem dX11_letOf_11 : decode cX11_letOf 11 = .ok (.ireturn, 1) := by decide +kernel
theorem dX11_letOf_12 : decode cX11_letOf 12 = .ok (.aload_n 0, 1) := by decide +kernel
theorem dX11_letOf_13 : decode cX11_letOf 13 = .ok (.iload_n 2, 1) := by decide +kernel
theorem dX11_letOf_14 : decode cX11_letOf 14 = .ok (.iconst 1, 1) := by decide +kernel
theorem dX11_letOf_15 : decode cX11_letOf 15 = .ok (.invokevirtual 197, 3) := by decide +kernel
theorem dX11_letOf_18 : decode cX11_letOf 18 = .ok (.aload_n 0, 1) := by decide +kernel
theorem dX11_letOf_19 : decode cX11_letOf 19 = .ok (.iload_n 2, 1) := by decide +kernel
theorem dX11_letOf_20 : decode cX11_letOf 20 = .ok (.iconst 0, 1) := by decide +kernel
theorem dX11_letOf_21 : decode cX11_letOf 21 = .ok (.invokevirtual 197, 3) := by decide +kernel
theorem dX11_letOf_24 : decode cX11_letOf 24 = .ok (.if_icmp .ge 7, 3) := by decide +kernel
theorem dX11_letOf_27 : decode cX11_letOf 27 = .ok (.iconst 1, 1) := by decide +kernel
theorem dX11_letOf_28 : decode cX11_letOf 28 = .ok (.goto 4, 3) := by decide +kernel
theorem dX11_letOf_31 : decode cX11_letOf 31 = .ok (.iconst 0, 1) := by decide +kernel
theorem dX11_letOf_32 : decode cX11_letOf 32 = .ok (.ireturn, 1) := by decide +kernel
theorem dX11_draw_0 : decode cX11_draw 0 = .ok (.aload_n 0, 1) := by decide +kernel
theorem dX11_draw_1 : decode cX11_draw 1 = .ok (.ldc2_w 200, 3) := by decide +kernel
theorem dX11_draw_4 : decode cX11_draw 4 = .ok (.aload_n 0, 1) := by decide +kernel
theorem dX11_draw_5 : decode cX11_draw 5 = .ok (.getfield 202, 3) := by decide +kernel
theorem dX11_draw_8 : decode cX11_draw 8 = .ok (.lmul, 1) := by decide +kernel
theorem dX11_draw_9 : decode cX11_draw 9 = .ok (.ldc2_w 206, 3) := by decide +kernel
theorem dX11_draw_12 : decode cX11_draw 12 = .ok (.ladd, 1) := by decide +kernel
theorem dX11_draw_13 : decode cX11_draw 13 = .ok (.ldc2_w 208, 3) := by decide +kernel
theorem dX11_draw_16 : decode cX11_draw 16 = .ok (.land, 1) := by decide +kernel
theorem dX11_draw_17 : decode cX11_draw 17 = .ok (.putfield 202, 3) := by decide +kernel
theorem dX11_draw_20 : decode cX11_draw 20 = .ok (.aload_n 0, 1) := by decide +kernel
theorem dX11_draw_21 : decode cX11_draw 21 = .ok (.getfield 202, 3) := by decide +kernel
theorem dX11_draw_24 : decode cX11_draw 24 = .ok (.ldc2_w 210, 3) := by decide +kernel
theorem dX11_draw_27 : decode cX11_draw 27 = .ok (.ldiv, 1) := by decide +kernel
theorem dX11_draw_28 : decode cX11_draw 28 = .ok (.iload_n 1, 1) := by decide +kernel
theorem dX11_draw_29 : decode cX11_draw 29 = .ok (.i2l, 1) := by decide +kernel
theorem dX11_draw_30 : decode cX11_draw 30 = .ok (.lrem, 1) := by decide +kernel
theorem dX11_draw_31 : decode cX11_draw 31 = .ok (.l2i, 1) := by decide +kernel
theorem dX11_draw_32 : decode cX11_draw 32 = .ok (.ireturn, 1) := by decide +kernel
set_option maxRecDepth 20000 in
theorem ggX11_ofSet_X11_isIn : GoodIn wsX11_ofSet wsX11_isIn := goodIn_r _ [4] (by decide +kernel) (by decide +kernel)
set_option maxRecDepth 20000 in
theorem gX11_ofSet_X11_isIn : GoodIn wsX11_ofSet (va_wsS RX11 101 yX11_isIn wsX11_isIn) := goodIn_app (goodIn_of _ (by decide +kernel)) ggX11_ofSet_X11_isIn
theorem dX11_ofSet_0 : decode cX11_ofSet 0 = .ok (.iconst 0, 1) := by decide +kernel
theorem dX11_ofSet_1 : decode cX11_ofSet 1 = .ok (.istore_n 2, 1) := by decide +kernel
theorem dX11_ofSet_2 : decode cX11_ofSet 2 = .ok (.iload_n 1, 1) := by decide +kernel
theorem dX11_ofSet_3 : decode cX11_ofSet 3 = .ok (.istore_n 3, 1) := by decide +kernel
theorem dX11_ofSet_4 : decode cX11_ofSet 4 = .ok (.iload_n 0, 1) := by decide +kernel
theorem dX11_ofSet_5 : decode cX11_ofSet 5 = .ok (.iload_n 2, 1) := by decide +kernel
theorem dX11_ofSet_6 : decode cX11_ofSet 6 = .ok (.invokestatic 101, 3) := by decide +kernel
theorem dX11_ofSet_9 : decode cX11_ofSet 9 = .ok (.ifCond .eq 7, 3) := by decide +kernel
theorem dX11_ofSet_12 : decode cX11_ofSet 12 = .ok (.iload_n 3, 1) := by decide +kernel
theorem dX11_ofSet_13 : decode cX11_ofSet 13 = .ok (.ifCond .le 25, 3) := by decide +kernel
theorem dX11_ofSet_16 : decode cX11_ofSet 16 = .ok (.iload_n 3, 1) := by decide +kernel
theorem dX11_ofSet_17 : decode cX11_ofSet 17 = .ok (.iload_n 0, 1) := by decide +kernel
theorem dX11_ofSet_18 : decode cX11_ofSet 18 = .ok (.iload_n 2, 1) := by decide +kernel
theorem dX11_ofSet_19 : decode cX11_ofSet 19 = .ok (.invokestatic 101, 3) := by decide +kernel
theorem dX11_ofSet_22 : decode cX11_ofSet 22 = .ok (.ifCond .eq 7, 3) := by decide +kernel
theorem dX11_ofSet_25 : decode cX11_ofSet 25 = .ok (.iconst 1, 1) := by decide +kernel
theorem dX11_ofSet_26 : decode cX11_ofSet 26 = .ok (.goto 4, 3) := by decide +kernel
theorem dX11_ofSet_29 : decode cX11_ofSet 29 = .ok (.iconst 0, 1) := by decide +kernel
theorem dX11_ofSet_30 : decode cX11_ofSet 30 = .ok (.isub, 1) := by decide +kernel
theorem dX11_ofSet_31 : decode cX11_ofSet 31 = .ok (.istore_n 3, 1) := by decide +kernel
theorem dX11_ofSet_32 : decode cX11_ofSet 32 = .ok (.iinc 2 1, 3) := by decide +kernel
theorem dX11_ofSet_35 : decode cX11_ofSet 35 = .ok (.goto (-31), 3) := by decide +kernel
theorem dX11_ofSet_38 : decode cX11_ofSet 38 = .ok (.iload_n 2, 1) := by decide +kernel
theorem dX11_ofSet_39 : decode cX11_ofSet 39 = .ok (.ireturn, 1) := by decide +kernel
set_option maxRecDepth 20000 in
theorem ggX11_play_X11_mayCuts : GoodIn wsX11_play wsX11_mayCuts := goodIn_r _ [7, 8, 9, 10, 11, 6, 12, 13, 14, 15, 16, 17, 18, 19, 20, 21, 45, 46, 47, 48, 49, 50, 51, 52, 53, 54, 55, 56, 57, 58, 59, 60, 61, 62, 63, 64, 65, 66, 67, 68, 69, 70, 71, 72, 73, 74, 75, 76, 77, 78] (by decide +kernel) (by decide +kernel)
set_option maxRecDepth 20000 in
theorem gX11_play_X11_mayCuts : GoodIn wsX11_play (wsV RX11 212 RX11 yX11_mayCuts wsX11_mayCuts) := goodIn_app (goodIn_of _ (by decide +kernel)) ggX11_play_X11_mayCuts
set_option maxRecDepth 20000 in
theorem ggX11_play_X11_size : GoodIn wsX11_play wsX11_size := goodIn_r _ [24] (by decide +kernel) (by decide +kernel)
set_option maxRecDepth 20000 in
theorem gX11_play_X11_size : GoodIn wsX11_play (va_wsS RX11 131 yX11_size wsX11_size) := goodIn_app (goodIn_of _ (by decide +kernel)) ggX11_play_X11_size
set_option maxRecDepth 20000 in
theorem ggX11_play_X11_draw : GoodIn wsX11_play wsX11_draw := goodIn_r _ [28, 29, 30, 31, 32, 33, 45, 46, 47, 48, 49, 50, 51, 52, 53, 54, 55, 56, 57, 58, 59, 60, 61, 62, 63, 64, 65, 66, 67, 68, 69, 70, 71, 72, 73, 74, 75, 76, 77, 78] (by decide +kernel) (by decide +kernel)
set_option maxRecDepth 20000 in
theorem gX11_play_X11_draw : GoodIn wsX11_play (wsV RX11 215 RX11 yX11_draw wsX11_draw) := goodIn_app (goodIn_of _ (by decide +kernel)) ggX11_play_X11_draw
set_option maxRecDepth 20000 in
theorem ggX11_play_X11_ofSet : GoodIn wsX11_play wsX11_ofSet := goodIn_r _ [36, 14, 15, 6, 16] (by decide +kernel) (by decide +kernel)
set_option maxRecDepth 20000 in
theorem gX11_play_X11_ofSet : GoodIn wsX11_play (va_wsS RX11 218 yX11_ofSet wsX11_ofSet) := goodIn_app (goodIn_of _ (by decide +kernel)) ggX11_play_X11_ofSet
set_option maxRecDepth 20000 in
theorem ggX11_play_X11_leaves : GoodIn wsX11_play wsX11_leaves := goodIn_r _ [40, 41, 42, 43, 6, 44, 8, 21, 14, 15, 16, 45, 46, 47, 48, 49, 50, 51, 52, 53, 54, 55, 56, 57, 58, 59, 60, 61, 62, 63, 64, 65, 66, 67, 68, 69, 70, 71, 72, 73, 74, 75, 76, 77, 78] (by decide +kernel) (by decide +kernel)
set_option maxRecDepth 20000 in
theorem gX11_play_X11_leaves : GoodIn wsX11_play (wsV RX11 128 RX11 yX11_leaves wsX11_leaves) := goodIn_app (goodIn_of _ (by decide +kernel)) ggX11_play_X11_leaves
theorem dX11_play_0 : decode cX11_play 0 = .ok (.aload_n 0, 1) := by decide +kernel
theorem dX11_play_1 : decode cX11_play 1 = .ok (.getfield 86, 3) := by decide +kernel
theorem dX11_play_4 : decode cX11_play 4 = .ok (.istore_n 2, 1) := by decide +kernel
theorem dX11_play_5 : decode cX11_play 5 = .ok (.iload_n 1, 1) := by decide +kernel
theorem dX11_play_6 : decode cX11_play 6 = .ok (.istore_n 3, 1) := by decide +kernel
theorem dX11_play_7 : decode cX11_play 7 = .ok (.aload_n 0, 1) := by decide +kernel
theorem dX11_play_8 : decode cX11_play 8 = .ok (.iload_n 3, 1) := by decide +kernel
theorem dX11_play_9 : decode cX11_play 9 = .ok (.iload_n 2, 1) := by decide +kernel
theorem dX11_play_10 : decode cX11_play 10 = .ok (.invokevirtual 212, 3) := by decide +kernel
theorem dX11_play_13 : decode cX11_play 13 = .ok (.istore 4, 2) := by decide +kernel
theorem dX11_play_15 : decode cX11_play 15 = .ok (.iload 4, 2) := by decide +kernel
theorem dX11_play_17 : decode cX11_play 17 = .ok (.ifCond .eq 48, 3) := by decide +kernel
theorem dX11_play_20 : decode cX11_play 20 = .ok (.aload_n 0, 1) := by decide +kernel
theorem dX11_play_21 : decode cX11_play 21 = .ok (.iload 4, 2) := by decide +kernel
theorem dX11_play_23 : decode cX11_play 23 = .ok (.aload_n 0, 1) := by decide +kernel
theorem dX11_play_24 : decode cX11_play 24 = .ok (.iload 4, 2) := by decide +kernel
theorem dX11_play_26 : decode cX11_play 26 = .ok (.invokestatic 131, 3) := by decide +kernel
theorem dX11_play_29 : decode cX11_play 29 = .ok (.invokevirtual 215, 3) := by decide +kernel
theorem dX11_play_32 : decode cX11_play 32 = .ok (.invokestatic 218, 3) := by decide +kernel
theorem dX11_play_35 : decode cX11_play 35 = .ok (.iload_n 2, 1) := by decide +kernel
theorem dX11_play_36 : decode cX11_play 36 = .ok (.invokevirtual 128, 3) := by decide +kernel
theorem dX11_play_39 : decode cX11_play 39 = .ok (.istore_n 2, 1) := by decide +kernel
theorem dX11_play_40 : decode cX11_play 40 = .ok (.aload_n 0, 1) := by decide +kernel
theorem dX11_play_41 : decode cX11_play 41 = .ok (.dup, 1) := by decide +kernel
theorem dX11_play_42 : decode cX11_play 42 = .ok (.getfield 221, 3) := by decide +kernel
theorem dX11_play_45 : decode cX11_play 45 = .ok (.iconst 1, 1) := by decide +kernel
theorem dX11_play_46 : decode cX11_play 46 = .ok (.iadd, 1) := by decide +kernel
theorem dX11_play_47 : decode cX11_play 47 = .ok (.putfield 221, 3) := by decide +kernel
theorem dX11_play_50 : decode cX11_play 50 = .ok (.iconst 1, 1) := by decide +kernel
theorem dX11_play_51 : decode cX11_play 51 = .ok (.iload_n 3, 1) := by decide +kernel
theorem dX11_play_52 : decode cX11_play 52 = .ok (.isub, 1) := by decide +kernel
theorem dX11_play_53 : decode cX11_play 53 = .ok (.istore_n 3, 1) := by decide +kernel
theorem dX11_play_54 : decode cX11_play 54 = .ok (.aload_n 0, 1) := by decide +kernel
theorem dX11_play_55 : decode cX11_play 55 = .ok (.iload_n 3, 1) := by decide +kernel
theorem dX11_play_56 : decode cX11_play 56 = .ok (.iload_n 2, 1) := by decide +kernel
theorem dX11_play_57 : decode cX11_play 57 = .ok (.invokevirtual 212, 3) := by decide +kernel
theorem dX11_play_60 : decode cX11_play 60 = .ok (.istore 4, 2) := by decide +kernel
theorem dX11_play_62 : decode cX11_play 62 = .ok (.goto (-47), 3) := by decide +kernel
theorem dX11_play_65 : decode cX11_play 65 = .ok (.iconst 1, 1) := by decide +kernel
theorem dX11_play_66 : decode cX11_play 66 = .ok (.iload_n 3, 1) := by decide +kernel
theorem dX11_play_67 : decode cX11_play 67 = .ok (.isub, 1) := by decide +kernel
theorem dX11_play_68 : decode cX11_play 68 = .ok (.ireturn, 1) := by decide +kernel
set_option maxRecDepth 20000 in
theorem ggX11_gamesNow_X11_play : GoodIn wsX11_gamesNow wsX11_play := goodIn_r _ [7, 8, 2, 9, 10, 11, 6, 12, 13, 14, 15, 16, 17, 18, 19, 20, 21, 22, 23, 24, 25, 26, 27, 28, 29, 30, 31, 32, 33, 34, 1, 35, 36, 37, 38, 39, 40, 41, 42, 43, 44, 45, 46, 47, 48, 49, 50, 51, 52, 53, 54, 55, 56, 57, 58, 59, 60, 61, 62, 63, 64, 65, 66, 67, 68, 69, 70, 71, 72, 73, 74, 75, 76, 77, 78, 79, 80, 81, 82] (by decide +kernel) (by decide +kernel)
set_option maxRecDepth 20000 in
theorem gX11_gamesNow_X11_play : GoodIn wsX11_gamesNow (wsV RX11 224 RX11 yX11_play wsX11_play) := goodIn_app (goodIn_of _ (by decide +kernel)) ggX11_gamesNow_X11_play
theorem dX11_gamesNow_0 : decode cX11_gamesNow 0 = .ok (.aload_n 0, 1) := by decide +kernel
theorem dX11_gamesNow_1 : decode cX11_gamesNow 1 = .ok (.iload_n 2, 1) := by decide +kernel
theorem dX11_gamesNow_2 : decode cX11_gamesNow 2 = .ok (.i2l, 1) := by decide +kernel
theorem dX11_gamesNow_3 : decode cX11_gamesNow 3 = .ok (.putfield 202, 3) := by decide +kernel
theorem dX11_gamesNow_6 : decode cX11_gamesNow 6 = .ok (.aload_n 0, 1) := by decide +kernel
theorem dX11_gamesNow_7 : decode cX11_gamesNow 7 = .ok (.iconst 0, 1) := by decide +kernel
theorem dX11_gamesNow_8 : decode cX11_gamesNow 8 = .ok (.putfield 221, 3) := by decide +kernel
theorem dX11_gamesNow_11 : decode cX11_gamesNow 11 = .ok (.iconst 0, 1) := by decide +kernel
theorem dX11_gamesNow_12 : decode cX11_gamesNow 12 = .ok (.istore 4, 2) := by decide +kernel
theorem dX11_gamesNow_14 : decode cX11_gamesNow 14 = .ok (.iconst 0, 1) := by decide +kernel
theorem dX11_gamesNow_15 : decode cX11_gamesNow 15 = .ok (.istore 5, 2) := by decide +kernel
theorem dX11_gamesNow_17 : decode cX11_gamesNow 17 = .ok (.iload 5, 2) := by decide +kernel
theorem dX11_gamesNow_19 : decode cX11_gamesNow 19 = .ok (.iload_n 1, 1) := by decide +kernel
theorem dX11_gamesNow_20 : decode cX11_gamesNow 20 = .ok (.if_icmp .ge 30, 3) := by decide +kernel
theorem dX11_gamesNow_23 : decode cX11_gamesNow 23 = .ok (.iload 4, 2) := by decide +kernel
theorem dX11_gamesNow_25 : decode cX11_gamesNow 25 = .ok (.aload_n 0, 1) := by decide +kernel
theorem dX11_gamesNow_26 : decode cX11_gamesNow 26 = .ok (.iload 5, 2) := by decide +kernel
theorem dX11_gamesNow_28 : decode cX11_gamesNow 28 = .ok (.iconst 2, 1) := by decide +kernel
theorem dX11_gamesNow_29 : decode cX11_gamesNow 29 = .ok (.irem, 1) := by decide +kernel
theorem dX11_gamesNow_30 : decode cX11_gamesNow 30 = .ok (.invokevirtual 224, 3) := by decide +kernel
theorem dX11_gamesNow_33 : decode cX11_gamesNow 33 = .ok (.ifCond .ne 7, 3) := by decide +kernel
theorem dX11_gamesNow_36 : decode cX11_gamesNow 36 = .ok (.iconst 1, 1) := by decide +kernel
theorem dX11_gamesNow_37 : decode cX11_gamesNow 37 = .ok (.goto 4, 3) := by decide +kernel
theorem dX11_gamesNow_40 : decode cX11_gamesNow 40 = .ok (.iconst 0, 1) := by decide +kernel
theorem dX11_gamesNow_41 : decode cX11_gamesNow 41 = .ok (.iadd, 1) := by decide +kernel
theorem dX11_gamesNow_42 : decode cX11_gamesNow 42 = .ok (.istore 4, 2) := by decide +kernel
theorem dX11_gamesNow_44 : decode cX11_gamesNow 44 = .ok (.iinc 5 1, 3) := by decide +kernel
theorem dX11_gamesNow_47 : decode cX11_gamesNow 47 = .ok (.goto (-30), 3) := by decide +kernel
theorem dX11_gamesNow_50 : decode cX11_gamesNow 50 = .ok (.iload_n 3, 1) := by decide +kernel
theorem dX11_gamesNow_51 : decode cX11_gamesNow 51 = .ok (.ifCond .ne 8, 3) := by decide +kernel
theorem dX11_gamesNow_54 : decode cX11_gamesNow 54 = .ok (.iload 4, 2) := by decide +kernel
theorem dX11_gamesNow_56 : decode cX11_gamesNow 56 = .ok (.goto 20, 3) := by decide +kernel
theorem dX11_gamesNow_59 : decode cX11_gamesNow 59 = .ok (.iload_n 3, 1) := by decide +kernel
theorem dX11_gamesNow_60 : decode cX11_gamesNow 60 = .ok (.iconst 1, 1) := by decide +kernel
theorem dX11_gamesNow_61 : decode cX11_gamesNow 61 = .ok (.if_icmp .ne 10, 3) := by decide +kernel
theorem dX11_gamesNow_64 : decode cX11_gamesNow 64 = .ok (.aload_n 0, 1) := by decide +kernel
theorem dX11_gamesNow_65 : decode cX11_gamesNow 65 = .ok (.getfield 221, 3) := by decide +kernel
theorem dX11_gamesNow_68 : decode cX11_gamesNow 68 = .ok (.goto 8, 3) := by decide +kernel
theorem dX11_gamesNow_71 : decode cX11_gamesNow 71 = .ok (.aload_n 0, 1) := by decide +kernel
theorem dX11_gamesNow_72 : decode cX11_gamesNow 72 = .ok (.getfield 202, 3) := by decide +kernel
theorem dX11_gamesNow_75 : decode cX11_gamesNow 75 = .ok (.l2i, 1) := by decide +kernel
theorem dX11_gamesNow_76 : decode cX11_gamesNow 76 = .ok (.ireturn, 1) := by decide +kernel
set_option maxRecDepth 20000 in
theorem ggX11_games_X11_within : GoodIn wsX11_games wsX11_within := goodIn_r _ [5] (by decide +kernel) (by decide +kernel)
set_option maxRecDepth 20000 in
theorem gX11_games_X11_within : GoodIn wsX11_games (va_wsS RX11 57 yX11_within wsX11_within) := goodIn_app (goodIn_of _ (by decide +kernel)) ggX11_games_X11_within
set_option maxRecDepth 20000 in
theorem ggX11_games_X11_gamesNow : GoodIn wsX11_games wsX11_gamesNow := goodIn_r _ [9, 10, 11, 12, 13, 14, 4, 15, 16, 17, 18, 19, 20, 1, 21, 22, 23, 24, 25, 26, 27, 28, 29, 30, 31, 32, 33, 34, 35, 36, 37, 38, 39, 40, 41, 42, 43, 44, 45, 46, 47, 48, 49, 50, 51, 52, 53, 54, 55, 56, 57, 58, 59, 60, 61, 62, 63, 64, 65, 66, 67, 68, 69, 70, 71, 72, 73, 74, 75, 76, 77, 78, 79, 80, 81, 82, 83, 84, 85, 86, 87, 88, 89] (by decide +kernel) (by decide +kernel)
set_option maxRecDepth 20000 in
theorem gX11_games_X11_gamesNow : GoodIn wsX11_games (wsV RX11 227 RX11 yX11_gamesNow wsX11_gamesNow) := goodIn_app (goodIn_of _ (by decide +kernel)) ggX11_games_X11_gamesNow
theorem dX11_games_0 : decode cX11_games 0 = .ok (.iload_n 1, 1) := by decide +kernel
theorem dX11_games_1 : decode cX11_games 1 = .ok (.iconst 1, 1) := by decide +kernel
theorem dX11_games_2 : decode cX11_games 2 = .ok (.bipush 40, 2) := by decide +kernel
theorem dX11_games_4 : decode cX11_games 4 = .ok (.invokestatic 57, 3) := by decide +kernel
theorem dX11_games_7 : decode cX11_games 7 = .ok (.ifCond .eq 16, 3) := by decide +kernel
theorem dX11_games_10 : decode cX11_games 10 = .ok (.iload_n 2, 1) := by decide +kernel
theorem dX11_games_11 : decode cX11_games 11 = .ok (.ifCond .lt 12, 3) := by decide +kernel
theorem dX11_games_14 : decode cX11_games 14 = .ok (.iload_n 3, 1) := by decide +kernel
theorem dX11_games_15 : decode cX11_games 15 = .ok (.iconst 0, 1) := by decide +kernel
theorem dX11_games_16 : decode cX11_games 16 = .ok (.iconst 2, 1) := by decide +kernel
theorem dX11_games_17 : decode cX11_games 17 = .ok (.invokestatic 57, 3) := by decide +kernel
theorem dX11_games_20 : decode cX11_games 20 = .ok (.ifCond .ne 6, 3) := by decide +kernel
theorem dX11_games_23 : decode cX11_games 23 = .ok (.bipush (-102), 2) := by decide +kernel
theorem dX11_games_25 : decode cX11_games 25 = .ok (.ireturn, 1) := by decide +kernel
theorem dX11_games_26 : decode cX11_games 26 = .ok (.aload_n 0, 1) := by decide +kernel
theorem dX11_games_27 : decode cX11_games 27 = .ok (.getfield 83, 3) := by decide +kernel
theorem dX11_games_30 : decode cX11_games 30 = .ok (.ifCond .ne 8, 3) := by decide +kernel
theorem dX11_games_33 : decode cX11_games 33 = .ok (.bipush (-103), 2) := by decide +kernel
theorem dX11_games_35 : decode cX11_games 35 = .ok (.goto 10, 3) := by decide +kernel
theorem dX11_games_38 : decode cX11_games 38 = .ok (.aload_n 0, 1) := by decide +kernel
theorem dX11_games_39 : decode cX11_games 39 = .ok (.iload_n 1, 1) := by decide +kernel
theorem dX11_games_40 : decode cX11_games 40 = .ok (.iload_n 2, 1) := by decide +kernel
theorem dX11_games_41 : decode cX11_games 41 = .ok (.iload_n 3, 1) := by decide +kernel
theorem dX11_games_42 : decode cX11_games 42 = .ok (.invokevirtual 227, 3) := by decide +kernel
theorem dX11_games_45 : decode cX11_games 45 = .ok (.ireturn, 1) := by decide +kernel
theorem dX11_image_0 : decode cX11_image 0 = .ok (.aload_n 0, 1) := by decide +kernel
theorem dX11_image_1 : decode cX11_image 1 = .ok (.getfield 83, 3) := by decide +kernel
theorem dX11_image_4 : decode cX11_image 4 = .ok (.ifCond .ne 6, 3) := by decide +kernel
theorem dX11_image_7 : decode cX11_image 7 = .ok (.bipush (-103), 2) := by decide +kernel
theorem dX11_image_9 : decode cX11_image 9 = .ok (.ireturn, 1) := by decide +kernel
theorem dX11_image_10 : decode cX11_image 10 = .ok (.aload_n 0, 1) := by decide +kernel
theorem dX11_image_11 : decode cX11_image 11 = .ok (.iconst 1, 1) := by decide +kernel
theorem dX11_image_12 : decode cX11_image 12 = .ok (.putfield 231, 3) := by decide +kernel
theorem dX11_image_15 : decode cX11_image 15 = .ok (.aload_n 0, 1) := by decide +kernel
theorem dX11_image_16 : decode cX11_image 16 = .ok (.aload_n 0, 1) := by decide +kernel
theorem dX11_image_17 : decode cX11_image 17 = .ok (.getfield 95, 3) := by decide +kernel
theorem dX11_image_20 : decode cX11_image 20 = .ok (.putfield 234, 3) := by decide +kernel
theorem dX11_image_23 : decode cX11_image 23 = .ok (.aload_n 0, 1) := by decide +kernel
theorem dX11_image_24 : decode cX11_image 24 = .ok (.aload_n 0, 1) := by decide +kernel
theorem dX11_image_25 : decode cX11_image 25 = .ok (.getfield 86, 3) := by decide +kernel
theorem dX11_image_28 : decode cX11_image 28 = .ok (.putfield 237, 3) := by decide +kernel
theorem dX11_image_31 : decode cX11_image 31 = .ok (.aload_n 0, 1) := by decide +kernel
theorem dX11_image_32 : decode cX11_image 32 = .ok (.aload_n 0, 1) := by decide +kernel
theorem dX11_image_33 : decode cX11_image 33 = .ok (.getfield 89, 3) := by decide +kernel
theorem dX11_image_36 : decode cX11_image 36 = .ok (.putfield 240, 3) := by decide +kernel
theorem dX11_image_39 : decode cX11_image 39 = .ok (.aload_n 0, 1) := by decide +kernel
theorem dX11_image_40 : decode cX11_image 40 = .ok (.aload_n 0, 1) := by decide +kernel
theorem dX11_image_41 : decode cX11_image 41 = .ok (.getfield 92, 3) := by decide +kernel
theorem dX11_image_44 : decode cX11_image 44 = .ok (.putfield 243, 3) := by decide +kernel
theorem dX11_image_47 : decode cX11_image 47 = .ok (.aload_n 0, 1) := by decide +kernel
theorem dX11_image_48 : decode cX11_image 48 = .ok (.aload_n 0, 1) := by decide +kernel
theorem dX11_image_49 : decode cX11_image 49 = .ok (.getfield 98, 3) := by decide +kernel
theorem dX11_image_52 : decode cX11_image 52 = .ok (.putfield 246, 3) := by decide +kernel
theorem dX11_image_55 : decode cX11_image 55 = .ok (.iconst 0, 1) := by decide +kernel
theorem dX11_image_56 : decode cX11_image 56 = .ok (.istore_n 1, 1) := by decide +kernel
theorem dX11_image_57 : decode cX11_image 57 = .ok (.iload_n 1, 1) := by decide +kernel
theorem dX11_image_58 : decode cX11_image 58 = .ok (.bipush 8, 2) := by decide +kernel
theorem dX11_image_60 : decode cX11_image 60 = .ok (.if_icmp .ge 21, 3) := by decide +kernel
theorem dX11_image_63 : decode cX11_image 63 = .ok (.aload_n 0, 1) := by decide +kernel
theorem dX11_image_64 : decode cX11_image 64 = .ok (.getfield 45, 3) := by decide +kernel
theorem dX11_image_67 : decode cX11_image 67 = .ok (.iload_n 1, 1) := by decide +kernel
theorem dX11_image_68 : decode cX11_image 68 = .ok (.aload_n 0, 1) := by decide +kernel
theorem dX11_image_69 : decode cX11_image 69 = .ok (.getfield 7, 3) := by decide +kernel
theorem dX11_image_72 : decode cX11_image 72 = .ok (.iload_n 1, 1) := by decide +kernel
theorem dX11_image_73 : decode cX11_image 73 = .ok (.iaload, 1) := by decide +kernel
theorem dX11_image_74 : decode cX11_image 74 = .ok (.iastore, 1) := by decide +kernel
theorem dX11_image_75 : decode cX11_image 75 = .ok (.iinc 1 1, 3) := by decide +kernel
theorem dX11_image_78 : decode cX11_image 78 = .ok (.goto (-21), 3) := by decide +kernel
theorem dX11_image_81 : decode cX11_image 81 = .ok (.iconst 0, 1) := by decide +kernel
theorem dX11_image_82 : decode cX11_image 82 = .ok (.istore_n 1, 1) := by decide +kernel
theorem dX11_image_83 : decode cX11_image 83 = .ok (.iload_n 1, 1) := by decide +kernel
theorem dX11_image_84 : decode cX11_image 84 = .ok (.bipush 6, 2) := by decide +kernel
theorem dX11_image_86 : decode cX11_image 86 = .ok (.if_icmp .ge 45, 3) := by decide +kernel
theorem dX11_image_89 : decode cX11_image 89 = .ok (.aload_n 0, 1) := by decide +kernel
theorem dX11_image_90 : decode cX11_image 90 = .ok (.getfield 48, 3) := by decide +kernel
theorem dX11_image_93 : decode cX11_image 93 = .ok (.iload_n 1, 1) := by decide +kernel
theorem dX11_image_94 : decode cX11_image 94 = .ok (.aload_n 0, 1) := by decide +kernel
theorem dX11_image_95 : decode cX11_image 95 = .ok (.getfield 16, 3) := by decide +kernel
theorem dX11_image_98 : decode cX11_image 98 = .ok (.iload_n 1, 1) := by decide +kernel
theorem dX11_image_99 : decode cX11_image 99 = .ok (.iaload, 1) := by decide +kernel
theorem dX11_image_100 : decode cX11_image 100 = .ok (.iastore, 1) := by decide +kernel
theorem dX11_image_101 : decode cX11_image 101 = .ok (.aload_n 0, 1) := by decide +kernel
theorem dX11_image_102 : decode cX11_image 102 = .ok (.getfield 51, 3) := by decide +kernel
theorem dX11_image_105 : decode cX11_image 105 = .ok (.iload_n 1, 1) := by decide +kernel
theorem dX11_image_106 : decode cX11_image 106 = .ok (.aload_n 0, 1) := by decide +kernel
theorem dX11_image_107 : decode cX11_image 107 = .ok (.getfield 19, 3) := by decide +kernel
theorem dX11_image_110 : decode cX11_image 110 = .ok (.iload_n 1, 1) := by decide +kernel
theorem dX11_image_111 : decode cX11_image 111 = .ok (.iaload, 1) := by decide +kernel
theorem dX11_image_112 : decode cX11_image 112 = .ok (.iastore, 1) := by decide +kernel
theorem dX11_image_113 : decode cX11_image 113 = .ok (.aload_n 0, 1) := by decide +kernel
theorem dX11_image_114 : decode cX11_image 114 = .ok (.getfield 54, 3) := by decide +kernel
theorem dX11_image_117 : decode cX11_image 117 = .ok (.iload_n 1, 1) := by decide +kernel
theorem dX11_image_118 : decode cX11_image 118 = .ok (.aload_n 0, 1) := by decide +kernel
theorem dX11_image_119 : decode cX11_image 119 = .ok (.getfield 22, 3) := by decide +kernel
theorem dX11_image_122 : decode cX11_image 122 = .ok (.iload_n 1, 1) := by decide +kernel
theorem dX11_image_123 : decode cX11_image 123 = .ok (.iaload, 1) := by decide +kernel
theorem dX11_image_124 : decode cX11_image 124 = .ok (.iastore, 1) := by decide +kernel
theorem dX11_image_125 : decode cX11_image 125 = .ok (.iinc 1 1, 3) := by decide +kernel
theorem dX11_image_128 : decode cX11_image 128 = .ok (.goto (-45), 3) := by decide +kernel
theorem dX11_image_131 : decode cX11_image 131 = .ok (.aload_n 0, 1) := by decide +kernel
theorem dX11_image_132 : decode cX11_image 132 = .ok (.getfield 92, 3) := by decide +kernel
theorem dX11_image_135 : decode cX11_image 135 = .ok (.ireturn, 1) := by decide +kernel
theorem dX11_restore_0 : decode cX11_restore 0 = .ok (.aload_n 0, 1) := by decide +kernel
theorem dX11_restore_1 : decode cX11_restore 1 = .ok (.getfield 231, 3) := by decide +kernel
theorem dX11_restore_4 : decode cX11_restore 4 = .ok (.ifCond .eq 14, 3) := by decide +kernel
theorem dX11_restore_7 : decode cX11_restore 7 = .ok (.aload_n 0, 1) := by decide +kernel
theorem dX11_restore_8 : decode cX11_restore 8 = .ok (.getfield 234, 3) := by decide +kernel
theorem dX11_restore_11 : decode cX11_restore 11 = .ok (.aload_n 0, 1) := by decide +kernel
theorem dX11_restore_12 : decode cX11_restore 12 = .ok (.getfield 95, 3) := by decide +kernel
theorem dX11_restore_15 : decode cX11_restore 15 = .ok (.if_icmp .eq 6, 3) := by decide +kernel
theorem dX11_restore_18 : decode cX11_restore 18 = .ok (.bipush (-103), 2) := by decide +kernel
theorem dX11_restore_20 : decode cX11_restore 20 = .ok (.ireturn, 1) := by decide +kernel
theorem dX11_restore_21 : decode cX11_restore 21 = .ok (.aload_n 0, 1) := by decide +kernel
theorem dX11_restore_22 : decode cX11_restore 22 = .ok (.aload_n 0, 1) := by decide +kernel
theorem dX11_restore_23 : decode cX11_restore 23 = .ok (.getfield 237, 3) := by decide +kernel
theorem dX11_restore_26 : decode cX11_restore 26 = .ok (.putfield 86, 3) := by decide +kernel
theorem dX11_restore_29 : decode cX11_restore 29 = .ok (.aload_n 0, 1) := by decide +kernel
theorem dX11_restore_30 : decode cX11_restore 30 = .ok (.aload_n 0, 1) := by decide +kernel
theorem dX11_restore_31 : decode cX11_restore 31 = .ok (.getfield 240, 3) := by decide +kernel
theorem dX11_restore_34 : decode cX11_restore 34 = .ok (.putfield 89, 3) := by decide +kernel
theorem dX11_restore_37 : decode cX11_restore 37 = .ok (.aload_n 0, 1) := by decide +kernel
theorem dX11_restore_38 : decode cX11_restore 38 = .ok (.aload_n 0, 1) := by decide +kernel
theorem dX11_restore_39 : decode cX11_restore 39 = .ok (.getfield 243, 3) := by decide +kernel
theorem dX11_restore_42 : decode cX11_restore 42 = .ok (.putfield 92, 3) := by decide +kernel
theorem dX11_restore_45 : decode cX11_restore 45 = .ok (.aload_n 0, 1) := by decide +kernel
theorem dX11_restore_46 : decode cX11_restore 46 = .ok (.aload_n 0, 1) := by decide +kernel
theorem dX11_restore_47 : decode cX11_restore 47 = .ok (.getfield 246, 3) := by decide +kernel
theorem dX11_restore_50 : decode cX11_restore 50 = .ok (.putfield 98, 3) := by decide +kernel
theorem dX11_restore_53 : decode cX11_restore 53 = .ok (.iconst 0, 1) := by decide +kernel
theorem dX11_restore_54 : decode cX11_restore 54 = .ok (.istore_n 1, 1) := by decide +kernel
theorem dX11_restore_55 : decode cX11_restore 55 = .ok (.iload_n 1, 1) := by decide +kernel
theorem dX11_restore_56 : decode cX11_restore 56 = .ok (.bipush 8, 2) := by decide +kernel
theorem dX11_restore_58 : decode cX11_restore 58 = .ok (.if_icmp .ge 21, 3) := by decide +kernel
theorem dX11_restore_61 : decode cX11_restore 61 = .ok (.aload_n 0, 1) := by decide +kernel
theorem dX11_restore_62 : decode cX11_restore 62 = .ok (.getfield 7, 3) := by decide +kernel
theorem dX11_restore_65 : decode cX11_restore 65 = .ok (.iload_n 1, 1) := by decide +kernel
theorem dX11_restore_66 : decode cX11_restore 66 = .ok (.aload_n 0, 1) := by decide +kernel
theorem dX11_restore_67 : decode cX11_restore 67 = .ok (.getfield 45, 3) := by decide +kernel
theorem dX11_restore_70 : decode cX11_restore 70 = .ok (.iload_n 1, 1) := by decide +kernel
theorem dX11_restore_71 : decode cX11_restore 71 = .ok (.iaload, 1) := by decide +kernel
theorem dX11_restore_72 : decode cX11_restore 72 = .ok (.iastore, 1) := by decide +kernel
theorem dX11_restore_73 : decode cX11_restore 73 = .ok (.iinc 1 1, 3) := by decide +kernel
theorem dX11_restore_76 : decode cX11_restore 76 = .ok (.goto (-21), 3) := by decide +kernel
theorem dX11_restore_79 : decode cX11_restore 79 = .ok (.iconst 0, 1) := by decide +kernel
theorem dX11_restore_80 : decode cX11_restore 80 = .ok (.istore_n 1, 1) := by decide +kernel
theorem dX11_restore_81 : decode cX11_restore 81 = .ok (.iload_n 1, 1) := by decide +kernel
theorem dX11_restore_82 : decode cX11_restore 82 = .ok (.bipush 6, 2) := by decide +kernel
theorem dX11_restore_84 : decode cX11_restore 84 = .ok (.if_icmp .ge 45, 3) := by decide +kernel
theorem dX11_restore_87 : decode cX11_restore 87 = .ok (.aload_n 0, 1) := by decide +kernel
theorem dX11_restore_88 : decode cX11_restore 88 = .ok (.getfield 16, 3) := by decide +kernel
theorem dX11_restore_91 : decode cX11_restore 91 = .ok (.iload_n 1, 1) := by decide +kernel
theorem dX11_restore_92 : decode cX11_restore 92 = .ok (.aload_n 0, 1) := by decide +kernel
theorem dX11_restore_93 : decode cX11_restore 93 = .ok (.getfield 48, 3) := by decide +kernel
theorem dX11_restore_96 : decode cX11_restore 96 = .ok (.iload_n 1, 1) := by decide +kernel
theorem dX11_restore_97 : decode cX11_restore 97 = .ok (.iaload, 1) := by decide +kernel
theorem dX11_restore_98 : decode cX11_restore 98 = .ok (.iastore, 1) := by decide +kernel
theorem dX11_restore_99 : decode cX11_restore 99 = .ok (.aload_n 0, 1) := by decide +kernel
theorem dX11_restore_100 : decode cX11_restore 100 = .ok (.getfield 19, 3) := by decide +kernel
theorem dX11_restore_103 : decode cX11_restore 103 = .ok (.iload_n 1, 1) := by decide +kernel
theorem dX11_restore_104 : decode cX11_restore 104 = .ok (.aload_n 0, 1) := by decide +kernel
theorem dX11_restore_105 : decode cX11_restore 105 = .ok (.getfield 51, 3) := by decide +kernel
theorem dX11_restore_108 : decode cX11_restore 108 = .ok (.iload_n 1, 1) := by decide +kernel
theorem dX11_restore_109 : decode cX11_restore 109 = .ok (.iaload, 1) := by decide +kernel
theorem dX11_restore_110 : decode cX11_restore 110 = .ok (.iastore, 1) := by decide +kernel
theorem dX11_restore_111 : decode cX11_restore 111 = .ok (.aload_n 0, 1) := by decide +kernel
theorem dX11_restore_112 : decode cX11_restore 112 = .ok (.getfield 22, 3) := by decide +kernel
theorem dX11_restore_115 : decode cX11_restore 115 = .ok (.iload_n 1, 1) := by decide +kernel
theorem dX11_restore_116 : decode cX11_restore 116 = .ok (.aload_n 0, 1) := by decide +kernel
theorem dX11_restore_117 : decode cX11_restore 117 = .ok (.getfield 54, 3) := by decide +kernel
theorem dX11_restore_120 : decode cX11_restore 120 = .ok (.iload_n 1, 1) := by decide +kernel
theorem dX11_restore_121 : decode cX11_restore 121 = .ok (.iaload, 1) := by decide +kernel
theorem dX11_restore_122 : decode cX11_restore 122 = .ok (.iastore, 1) := by decide +kernel
theorem dX11_restore_123 : decode cX11_restore 123 = .ok (.iinc 1 1, 3) := by decide +kernel
theorem dX11_restore_126 : decode cX11_restore 126 = .ok (.goto (-45), 3) := by decide +kernel
theorem dX11_restore_129 : decode cX11_restore 129 = .ok (.aload_n 0, 1) := by decide +kernel
theorem dX11_restore_130 : decode cX11_restore 130 = .ok (.getfield 92, 3) := by decide +kernel
theorem dX11_restore_133 : decode cX11_restore 133 = .ok (.ireturn, 1) := by decide +kernel
theorem dX11_onGround_0 : decode cX11_onGround 0 = .ok (.iconst 0, 1) := by decide +kernel
theorem dX11_onGround_1 : decode cX11_onGround 1 = .ok (.istore_n 1, 1) := by decide +kernel
theorem dX11_onGround_2 : decode cX11_onGround 2 = .ok (.iconst 0, 1) := by decide +kernel
theorem dX11_onGround_3 : decode cX11_onGround 3 = .ok (.istore_n 2, 1) := by decide +kernel
theorem dX11_onGround_4 : decode cX11_onGround 4 = .ok (.iload_n 2, 1) := by decide +kernel
theorem dX11_onGround_5 : decode cX11_onGround 5 = .ok (.aload_n 0, 1) := by decide +kernel
theorem dX11_onGround_6 : decode cX11_onGround 6 = .ok (.getfield 83, 3) := by decide +kernel
theorem dX11_onGround_9 : decode cX11_onGround 9 = .ok (.if_icmp .ge 27, 3) := by decide +kernel
theorem dX11_onGround_12 : decode cX11_onGround 12 = .ok (.iload_n 1, 1) := by decide +kernel
theorem dX11_onGround_13 : decode cX11_onGround 13 = .ok (.aload_n 0, 1) := by decide +kernel
theorem dX11_onGround_14 : decode cX11_onGround 14 = .ok (.getfield 13, 3) := by decide +kernel
theorem dX11_onGround_17 : decode cX11_onGround 17 = .ok (.iload_n 2, 1) := by decide +kernel
theorem dX11_onGround_18 : decode cX11_onGround 18 = .ok (.iaload, 1) := by decide +kernel
theorem dX11_onGround_19 : decode cX11_onGround 19 = .ok (.iconst (-1), 1) := by decide +kernel
theorem dX11_onGround_20 : decode cX11_onGround 20 = .ok (.if_icmp .ne 7, 3) := by decide +kernel
theorem dX11_onGround_23 : decode cX11_onGround 23 = .ok (.iconst 1, 1) := by decide +kernel
theorem dX11_onGround_24 : decode cX11_onGround 24 = .ok (.goto 4, 3) := by decide +kernel
theorem dX11_onGround_27 : decode cX11_onGround 27 = .ok (.iconst 0, 1) := by decide +kernel
theorem dX11_onGround_28 : decode cX11_onGround 28 = .ok (.iadd, 1) := by decide +kernel
theorem dX11_onGround_29 : decode cX11_onGround 29 = .ok (.istore_n 1, 1) := by decide +kernel
theorem dX11_onGround_30 : decode cX11_onGround 30 = .ok (.iinc 2 1, 3) := by decide +kernel
theorem dX11_onGround_33 : decode cX11_onGround 33 = .ok (.goto (-29), 3) := by decide +kernel
theorem dX11_onGround_36 : decode cX11_onGround 36 = .ok (.iload_n 1, 1) := by decide +kernel
theorem dX11_onGround_37 : decode cX11_onGround 37 = .ok (.ireturn, 1) := by decide +kernel
set_option maxRecDepth 20000 in
theorem ggX11_howMany_X11_size : GoodIn wsX11_howMany wsX11_size := goodIn_r _ [12] (by decide +kernel) (by decide +kernel)
set_option maxRecDepth 20000 in
theorem gX11_howMany_X11_size : GoodIn wsX11_howMany (va_wsS RX11 131 yX11_size wsX11_size) := goodIn_app (goodIn_of _ (by decide +kernel)) ggX11_howMany_X11_size
set_option maxRecDepth 20000 in
theorem ggX11_howMany_X11_mayCuts : GoodIn wsX11_howMany wsX11_mayCuts := goodIn_r _ [16, 1, 17, 18, 19, 11, 20, 21, 22, 23, 24, 25, 26, 27, 28, 29, 34, 35, 36, 37, 38, 39, 40, 41, 42, 43, 44, 45, 46, 47, 48, 49, 50, 51, 52, 53, 54, 55, 56, 57, 58, 59, 60, 61, 62, 63, 64, 65, 66, 67] (by decide +kernel) (by decide +kernel)
set_option maxRecDepth 20000 in
theorem gX11_howMany_X11_mayCuts : GoodIn wsX11_howMany (wsV RX11 212 RX11 yX11_mayCuts wsX11_mayCuts) := goodIn_app (goodIn_of _ (by decide +kernel)) ggX11_howMany_X11_mayCuts
set_option maxRecDepth 20000 in
theorem ggX11_howMany_X11_onGround : GoodIn wsX11_howMany wsX11_onGround := goodIn_r _ [33, 1, 29, 34, 35, 36, 37, 38, 39, 40, 41, 42, 43, 44, 45, 46, 47, 48, 49, 50, 51, 52, 53, 54, 55, 56, 57, 58, 59, 60, 61, 62, 63, 64, 65, 66, 67] (by decide +kernel) (by decide +kernel)
set_option maxRecDepth 20000 in
theorem gX11_howMany_X11_onGround : GoodIn wsX11_howMany (wsV RX11 249 RX11 yX11_onGround wsX11_onGround) := goodIn_app (goodIn_of _ (by decide +kernel)) ggX11_howMany_X11_onGround
end
section
theorem dX11_howMany_0 : decode cX11_howMany 0 = .ok (.iload_n 1, 1) := by decide +kernel
theorem dX11_howMany_1 : decode cX11_howMany 1 = .ok (.tableswitch 122 0 10 #[59, 64, 72, 77, 82, 82, 97, 102, 107, 112, 117], 59) := by decide +kernel
theorem dX11_howMany_60 : decode cX11_howMany 60 = .ok (.aload_n 0, 1) := by decide +kernel
theorem dX11_howMany_61 : decode cX11_howMany 61 = .ok (.getfield 83, 3) := by decide +kernel
theorem dX11_howMany_64 : decode cX11_howMany 64 = .ok (.ireturn, 1) := by decide +kernel
theorem dX11_howMany_65 : decode cX11_howMany 65 = .ok (.aload_n 0, 1) := by decide +kernel
theorem dX11_howMany_66 : decode cX11_howMany 66 = .ok (.getfield 86, 3) := by decide +kernel
theorem dX11_howMany_69 : decode cX11_howMany 69 = .ok (.invokestatic 131, 3) := by decide +kernel
theorem dX11_howMany_72 : decode cX11_howMany 72 = .ok (.ireturn, 1) := by decide +kernel
theorem dX11_howMany_73 : decode cX11_howMany 73 = .ok (.aload_n 0, 1) := by decide +kernel
theorem dX11_howMany_74 : decode cX11_howMany 74 = .ok (.getfield 89, 3) := by decide +kernel
theorem dX11_howMany_77 : decode cX11_howMany 77 = .ok (.ireturn, 1) := by decide +kernel
theorem dX11_howMany_78 : decode cX11_howMany 78 = .ok (.aload_n 0, 1) := by decide +kernel
theorem dX11_howMany_79 : decode cX11_howMany 79 = .ok (.getfield 92, 3) := by decide +kernel
theorem dX11_howMany_82 : decode cX11_howMany 82 = .ok (.ireturn, 1) := by decide +kernel
theorem dX11_howMany_83 : decode cX11_howMany 83 = .ok (.aload_n 0, 1) := by decide +kernel
theorem dX11_howMany_84 : decode cX11_howMany 84 = .ok (.iload_n 1, 1) := by decide +kernel
theorem dX11_howMany_85 : decode cX11_howMany 85 = .ok (.iconst 4, 1) := by decide +kernel
theorem dX11_howMany_86 : decode cX11_howMany 86 = .ok (.isub, 1) := by decide +kernel
theorem dX11_howMany_87 : decode cX11_howMany 87 = .ok (.aload_n 0, 1) := by decide +kernel
theorem dX11_howMany_88 : decode cX11_howMany 88 = .ok (.getfield 86, 3) := by decide +kernel
theorem dX11_howMany_91 : decode cX11_howMany 91 = .ok (.invokevirtual 212, 3) := by decide +kernel
theorem dX11_howMany_94 : decode cX11_howMany 94 = .ok (.invokestatic 131, 3) := by decide +kernel
theorem dX11_howMany_97 : decode cX11_howMany 97 = .ok (.ireturn, 1) := by decide +kernel
theorem dX11_howMany_98 : decode cX11_howMany 98 = .ok (.aload_n 0, 1) := by decide +kernel
theorem dX11_howMany_99 : decode cX11_howMany 99 = .ok (.invokevirtual 249, 3) := by decide +kernel
theorem dX11_howMany_102 : decode cX11_howMany 102 = .ok (.ireturn, 1) := by decide +kernel
theorem dX11_howMany_103 : decode cX11_howMany 103 = .ok (.aload_n 0, 1) := by decide +kernel
theorem dX11_howMany_104 : decode cX11_howMany 104 = .ok (.getfield 98, 3) := by decide +kernel
theorem dX11_howMany_107 : decode cX11_howMany 107 = .ok (.ireturn, 1) := by decide +kernel
theorem dX11_howMany_108 : decode cX11_howMany 108 = .ok (.aload_n 0, 1) := by decide +kernel
theorem dX11_howMany_109 : decode cX11_howMany 109 = .ok (.getfield 61, 3) := by decide +kernel
theorem dX11_howMany_112 : decode cX11_howMany 112 = .ok (.ireturn, 1) := by decide +kernel
theorem dX11_howMany_113 : decode cX11_howMany 113 = .ok (.aload_n 0, 1) := by decide +kernel
theorem dX11_howMany_114 : decode cX11_howMany 114 = .ok (.getfield 95, 3) := by decide +kernel
theorem dX11_howMany_117 : decode cX11_howMany 117 = .ok (.ireturn, 1) := by decide +kernel
theorem dX11_howMany_118 : decode cX11_howMany 118 = .ok (.aload_n 0, 1) := by decide +kernel
theorem dX11_howMany_119 : decode cX11_howMany 119 = .ok (.getfield 176, 3) := by decide +kernel
theorem dX11_howMany_122 : decode cX11_howMany 122 = .ok (.ireturn, 1) := by decide +kernel
theorem dX11_howMany_123 : decode cX11_howMany 123 = .ok (.bipush (-102), 2) := by decide +kernel
theorem dX11_howMany_125 : decode cX11_howMany 125 = .ok (.ireturn, 1) := by decide +kernel
set_option maxRecDepth 20000 in
theorem ggX11_count_X11_howMany : GoodIn wsX11_count wsX11_howMany := goodIn_r _ [5, 6, 7, 8, 9, 10, 11, 12, 13, 14, 15, 4, 16, 17, 18, 19, 20, 21, 22, 23, 24, 25, 26, 27, 28, 29, 30, 31, 32, 33, 34, 35, 36, 37, 38, 39, 40, 41, 42, 43, 44, 45, 46, 47, 48, 49, 50, 51, 52, 53, 54, 55, 56, 57, 58, 59, 60, 61, 62, 63, 64, 65, 66, 67, 68, 69, 70, 71] (by decide +kernel) (by decide +kernel)
set_option maxRecDepth 20000 in
theorem gX11_count_X11_howMany : GoodIn wsX11_count (wsV RX11 252 RX11 yX11_howMany wsX11_howMany) := goodIn_app (goodIn_of _ (by decide +kernel)) ggX11_count_X11_howMany
theorem dX11_count_0 : decode cX11_count 0 = .ok (.aload_n 0, 1) := by decide +kernel
theorem dX11_count_1 : decode cX11_count 1 = .ok (.iload_n 1, 1) := by decide +kernel
theorem dX11_count_2 : decode cX11_count 2 = .ok (.invokevirtual 252, 3) := by decide +kernel
theorem dX11_count_5 : decode cX11_count 5 = .ok (.ireturn, 1) := by decide +kernel
theorem dX11_mix_0 : decode cX11_mix 0 = .ok (.aload_n 0, 1) := by decide +kernel
theorem dX11_mix_1 : decode cX11_mix 1 = .ok (.ldc2_w 255, 3) := by decide +kernel
theorem dX11_mix_4 : decode cX11_mix 4 = .ok (.aload_n 0, 1) := by decide +kernel
theorem dX11_mix_5 : decode cX11_mix 5 = .ok (.getfield 257, 3) := by decide +kernel
theorem dX11_mix_8 : decode cX11_mix 8 = .ok (.lmul, 1) := by decide +kernel
theorem dX11_mix_9 : decode cX11_mix 9 = .ok (.lload_n 1, 1) := by decide +kernel
theorem dX11_mix_10 : decode cX11_mix 10 = .ok (.ladd, 1) := by decide +kernel
theorem dX11_mix_11 : decode cX11_mix 11 = .ok (.putfield 257, 3) := by decide +kernel
theorem dX11_mix_14 : decode cX11_mix 14 = .ok (.return_, 1) := by decide +kernel
set_option maxRecDepth 20000 in
theorem ggX11_mixHedge_X11_winsNow : GoodIn wsX11_mixHedge wsX11_winsNow := goodIn_r _ [9, 10, 2, 11, 12, 13, 8, 14, 15, 16, 17, 18, 3, 19, 20, 21, 22, 23, 24, 25, 26, 27, 28, 29, 30, 4, 31, 32, 33, 34, 35, 36, 37, 38, 86, 87, 88, 89, 90, 91, 92, 93, 94, 95, 96, 97, 98, 99, 100, 101, 102, 103, 104, 105, 106, 107, 108, 109, 110, 111, 112, 113, 114, 115, 116, 117, 118, 119] (by decide +kernel) (by decide +kernel)
set_option maxRecDepth 20000 in
theorem gX11_mixHedge_X11_winsNow : GoodIn wsX11_mixHedge (wsV RX11 150 RX11 yX11_winsNow wsX11_winsNow) := goodIn_app (goodIn_of _ (by decide +kernel)) ggX11_mixHedge_X11_winsNow
set_option maxRecDepth 20000 in
theorem ggX11_mixHedge_X11_mix : GoodIn wsX11_mixHedge wsX11_mix := goodIn_r _ [42, 43, 44, 86, 87, 88, 89, 90, 91, 92, 93, 94, 95, 96, 97, 98, 99, 100, 101, 102, 103, 104, 105, 106, 107, 108, 109, 110, 111, 112, 113, 114, 115, 116, 117, 118, 119] (by decide +kernel) (by decide +kernel)
set_option maxRecDepth 20000 in
theorem gX11_mixHedge_X11_mix : GoodIn wsX11_mixHedge (wsV RX11 260 RX11 yX11_mix wsX11_mix) := goodIn_app (goodIn_of _ (by decide +kernel)) ggX11_mixHedge_X11_mix
set_option maxRecDepth 20000 in
theorem ggX11_mixHedge_X11_bestNow : GoodIn wsX11_mixHedge wsX11_bestNow := goodIn_r _ [48, 3, 2, 10, 49, 50, 51, 52, 8, 53, 11, 12, 13, 14, 15, 16, 17, 18, 19, 20, 21, 22, 23, 24, 25, 26, 27, 28, 29, 30, 4, 31, 32, 33, 34, 35, 36, 37, 38, 54, 55, 56, 57, 58, 86, 87, 88, 89, 90, 91, 92, 93, 94, 95, 96, 97, 98, 99, 100, 101, 102, 103, 104, 105, 106, 107, 108, 109, 110, 111, 112, 113, 114, 115, 116, 117, 118, 119] (by decide +kernel) (by decide +kernel)
set_option maxRecDepth 20000 in
theorem gX11_mixHedge_X11_bestNow : GoodIn wsX11_mixHedge (wsV RX11 153 RX11 yX11_bestNow wsX11_bestNow) := goodIn_app (goodIn_of _ (by decide +kernel)) ggX11_mixHedge_X11_bestNow
set_option maxRecDepth 20000 in
theorem ggX11_mixHedge_X11_lastsNow : GoodIn wsX11_mixHedge wsX11_lastsNow := goodIn_r _ [62, 49, 2, 50, 51, 52, 8, 53, 11, 12, 13, 14, 10, 15, 16, 17, 18, 3, 19, 20, 21, 22, 23, 24, 25, 26, 27, 28, 29, 30, 4, 31, 32, 33, 34, 35, 36, 37, 38, 54, 55, 56, 57, 58, 86, 87, 88, 89, 90, 91, 92, 93, 94, 95, 96, 97, 98, 99, 100, 101, 102, 103, 104, 105, 106, 107, 108, 109, 110, 111, 112, 113, 114, 115, 116, 117, 118, 119] (by decide +kernel) (by decide +kernel)
set_option maxRecDepth 20000 in
theorem gX11_mixHedge_X11_lastsNow : GoodIn wsX11_mixHedge (wsV RX11 156 RX11 yX11_lastsNow wsX11_lastsNow) := goodIn_app (goodIn_of _ (by decide +kernel)) ggX11_mixHedge_X11_lastsNow
set_option maxRecDepth 20000 in
theorem ggX11_mixHedge_X11_likelyNow : GoodIn wsX11_mixHedge wsX11_likelyNow := goodIn_r _ [66, 2, 67, 68, 69, 70, 71, 72, 8, 73, 3, 19, 20, 21, 22, 23, 24, 25, 26, 27, 28, 29, 30, 4, 31, 32, 33, 34, 35, 36, 37, 38, 86, 87, 88, 89, 90, 91, 92, 93, 94, 95, 96, 97, 98, 99, 100, 101, 102, 103, 104, 105, 106, 107, 108, 109, 110, 111, 112, 113, 114, 115, 116, 117, 118, 119] (by decide +kernel) (by decide +kernel)
set_option maxRecDepth 20000 in
theorem gX11_mixHedge_X11_likelyNow : GoodIn wsX11_mixHedge (wsV RX11 190 RX11 yX11_likelyNow wsX11_likelyNow) := goodIn_app (goodIn_of _ (by decide +kernel)) ggX11_mixHedge_X11_likelyNow
set_option maxRecDepth 20000 in
theorem ggX11_mixHedge_X11_layWorth : GoodIn wsX11_mixHedge wsX11_layWorth := goodIn_r _ [77, 2, 1, 78, 79, 80, 8, 81, 82, 58, 3, 31, 32, 33, 34, 35, 36, 37, 38, 4, 24, 25, 26, 19, 20, 21, 22, 23, 27, 28, 29, 30, 83, 84, 85, 86, 87, 88, 89, 90, 91, 92, 93, 94, 95, 96, 97, 98, 99, 100, 101, 102, 103, 104, 105, 106, 107, 108, 109, 110, 111, 112, 113, 114, 115, 116, 117, 118, 119] (by decide +kernel) (by decide +kernel)
set_option maxRecDepth 20000 in
theorem gX11_mixHedge_X11_layWorth : GoodIn wsX11_mixHedge (wsV RX11 166 RX11 yX11_layWorth wsX11_layWorth) := goodIn_app (goodIn_of _ (by decide +kernel)) ggX11_mixHedge_X11_layWorth
set_option maxRecDepth 20000 in
theorem ggX11_mixHedge_X11_above : GoodIn wsX11_mixHedge wsX11_above := goodIn_r _ [38, 3, 4, 24, 25, 8, 26, 86, 87, 88, 89, 90, 91, 92, 93, 94, 95, 96, 97, 98, 99, 100, 101, 102, 103, 104, 105, 106, 107, 108, 109, 110, 111, 112, 113, 114, 115, 116, 117, 118, 119] (by decide +kernel) (by decide +kernel)
set_option maxRecDepth 20000 in
theorem gX11_mixHedge_X11_above : GoodIn wsX11_mixHedge (wsV RX11 108 RX11 yX11_above wsX11_above) := goodIn_app (goodIn_of _ (by decide +kernel)) ggX11_mixHedge_X11_above
theorem dX11_mixHedge_0 : decode cX11_mixHedge 0 = .ok (.iconst 0, 1) := by decide +kernel
theorem dX11_mixHedge_1 : decode cX11_mixHedge 1 = .ok (.istore_n 1, 1) := by decide +kernel
theorem dX11_mixHedge_2 : decode cX11_mixHedge 2 = .ok (.iload_n 1, 1) := by decide +kernel
theorem dX11_mixHedge_3 : decode cX11_mixHedge 3 = .ok (.iconst 2, 1) := by decide +kernel
theorem dX11_mixHedge_4 : decode cX11_mixHedge 4 = .ok (.if_icmp .ge 49, 3) := by decide +kernel
theorem dX11_mixHedge_7 : decode cX11_mixHedge 7 = .ok (.aload_n 0, 1) := by decide +kernel
theorem dX11_mixHedge_8 : decode cX11_mixHedge 8 = .ok (.aload_n 0, 1) := by decide +kernel
theorem dX11_mixHedge_9 : decode cX11_mixHedge 9 = .ok (.iload_n 1, 1) := by decide +kernel
theorem dX11_mixHedge_10 : decode cX11_mixHedge 10 = .ok (.invokevirtual 150, 3) := by decide +kernel
theorem dX11_mixHedge_13 : decode cX11_mixHedge 13 = .ok (.i2l, 1) := by decide +kernel
theorem dX11_mixHedge_14 : decode cX11_mixHedge 14 = .ok (.invokevirtual 260, 3) := by decide +kernel
theorem dX11_mixHedge_17 : decode cX11_mixHedge 17 = .ok (.aload_n 0, 1) := by decide +kernel
theorem dX11_mixHedge_18 : decode cX11_mixHedge 18 = .ok (.aload_n 0, 1) := by decide +kernel
theorem dX11_mixHedge_19 : decode cX11_mixHedge 19 = .ok (.iload_n 1, 1) := by decide +kernel
theorem dX11_mixHedge_20 : decode cX11_mixHedge 20 = .ok (.invokevirtual 153, 3) := by decide +kernel
theorem dX11_mixHedge_23 : decode cX11_mixHedge 23 = .ok (.i2l, 1) := by decide +kernel
theorem dX11_mixHedge_24 : decode cX11_mixHedge 24 = .ok (.invokevirtual 260, 3) := by decide +kernel
theorem dX11_mixHedge_27 : decode cX11_mixHedge 27 = .ok (.aload_n 0, 1) := by decide +kernel
theorem dX11_mixHedge_28 : decode cX11_mixHedge 28 = .ok (.aload_n 0, 1) := by decide +kernel
theorem dX11_mixHedge_29 : decode cX11_mixHedge 29 = .ok (.iload_n 1, 1) := by decide +kernel
theorem dX11_mixHedge_30 : decode cX11_mixHedge 30 = .ok (.invokevirtual 156, 3) := by decide +kernel
theorem dX11_mixHedge_33 : decode cX11_mixHedge 33 = .ok (.i2l, 1) := by decide +kernel
theorem dX11_mixHedge_34 : decode cX11_mixHedge 34 = .ok (.invokevirtual 260, 3) := by decide +kernel
theorem dX11_mixHedge_37 : decode cX11_mixHedge 37 = .ok (.aload_n 0, 1) := by decide +kernel
theorem dX11_mixHedge_38 : decode cX11_mixHedge 38 = .ok (.aload_n 0, 1) := by decide +kernel
theorem dX11_mixHedge_39 : decode cX11_mixHedge 39 = .ok (.iload_n 1, 1) := by decide +kernel
theorem dX11_mixHedge_40 : decode cX11_mixHedge 40 = .ok (.invokevirtual 190, 3) := by decide +kernel
theorem dX11_mixHedge_43 : decode cX11_mixHedge 43 = .ok (.i2l, 1) := by decide +kernel
theorem dX11_mixHedge_44 : decode cX11_mixHedge 44 = .ok (.invokevirtual 260, 3) := by decide +kernel
theorem dX11_mixHedge_47 : decode cX11_mixHedge 47 = .ok (.iinc 1 1, 3) := by decide +kernel
theorem dX11_mixHedge_50 : decode cX11_mixHedge 50 = .ok (.goto (-48), 3) := by decide +kernel
theorem dX11_mixHedge_53 : decode cX11_mixHedge 53 = .ok (.aload_n 0, 1) := by decide +kernel
theorem dX11_mixHedge_54 : decode cX11_mixHedge 54 = .ok (.invokevirtual 166, 3) := by decide +kernel
theorem dX11_mixHedge_57 : decode cX11_mixHedge 57 = .ok (.aload_n 0, 1) := by decide +kernel
theorem dX11_mixHedge_58 : decode cX11_mixHedge 58 = .ok (.aload_n 0, 1) := by decide +kernel
theorem dX11_mixHedge_59 : decode cX11_mixHedge 59 = .ok (.getfield 35, 3) := by decide +kernel
theorem dX11_mixHedge_62 : decode cX11_mixHedge 62 = .ok (.aload_n 0, 1) := by decide +kernel
theorem dX11_mixHedge_63 : decode cX11_mixHedge 63 = .ok (.getfield 86, 3) := by decide +kernel
theorem dX11_mixHedge_66 : decode cX11_mixHedge 66 = .ok (.iaload, 1) := by decide +kernel
theorem dX11_mixHedge_67 : decode cX11_mixHedge 67 = .ok (.i2l, 1) := by decide +kernel
theorem dX11_mixHedge_68 : decode cX11_mixHedge 68 = .ok (.invokevirtual 260, 3) := by decide +kernel
theorem dX11_mixHedge_71 : decode cX11_mixHedge 71 = .ok (.iconst 0, 1) := by decide +kernel
theorem dX11_mixHedge_72 : decode cX11_mixHedge 72 = .ok (.istore_n 1, 1) := by decide +kernel
theorem dX11_mixHedge_73 : decode cX11_mixHedge 73 = .ok (.iload_n 1, 1) := by decide +kernel
theorem dX11_mixHedge_74 : decode cX11_mixHedge 74 = .ok (.aload_n 0, 1) := by decide +kernel
theorem dX11_mixHedge_75 : decode cX11_mixHedge 75 = .ok (.getfield 83, 3) := by decide +kernel
theorem dX11_mixHedge_78 : decode cX11_mixHedge 78 = .ok (.if_icmp .ge 43, 3) := by decide +kernel
theorem dX11_mixHedge_81 : decode cX11_mixHedge 81 = .ok (.aload_n 0, 1) := by decide +kernel
theorem dX11_mixHedge_82 : decode cX11_mixHedge 82 = .ok (.getfield 13, 3) := by decide +kernel
theorem dX11_mixHedge_85 : decode cX11_mixHedge 85 = .ok (.iload_n 1, 1) := by decide +kernel
theorem dX11_mixHedge_86 : decode cX11_mixHedge 86 = .ok (.iaload, 1) := by decide +kernel
theorem dX11_mixHedge_87 : decode cX11_mixHedge 87 = .ok (.iconst (-1), 1) := by decide +kernel
theorem dX11_mixHedge_88 : decode cX11_mixHedge 88 = .ok (.if_icmp .ne 27, 3) := by decide +kernel
theorem dX11_mixHedge_91 : decode cX11_mixHedge 91 = .ok (.aload_n 0, 1) := by decide +kernel
theorem dX11_mixHedge_92 : decode cX11_mixHedge 92 = .ok (.aload_n 0, 1) := by decide +kernel
theorem dX11_mixHedge_93 : decode cX11_mixHedge 93 = .ok (.getfield 35, 3) := by decide +kernel
theorem dX11_mixHedge_96 : decode cX11_mixHedge 96 = .ok (.aload_n 0, 1) := by decide +kernel
theorem dX11_mixHedge_97 : decode cX11_mixHedge 97 = .ok (.getfield 86, 3) := by decide +kernel
theorem dX11_mixHedge_100 : decode cX11_mixHedge 100 = .ok (.aload_n 0, 1) := by decide +kernel
theorem dX11_mixHedge_101 : decode cX11_mixHedge 101 = .ok (.iload_n 1, 1) := by decide +kernel
theorem dX11_mixHedge_102 : decode cX11_mixHedge 102 = .ok (.invokevirtual 108, 3) := by decide +kernel
theorem dX11_mixHedge_105 : decode cX11_mixHedge 105 = .ok (.iconst 1, 1) := by decide +kernel
theorem dX11_mixHedge_106 : decode cX11_mixHedge 106 = .ok (.iload_n 1, 1) := by decide +kernel
theorem dX11_mixHedge_107 : decode cX11_mixHedge 107 = .ok (.ishl, 1) := by decide +kernel
theorem dX11_mixHedge_108 : decode cX11_mixHedge 108 = .ok (.ior, 1) := by decide +kernel
theorem dX11_mixHedge_109 : decode cX11_mixHedge 109 = .ok (.iand, 1) := by decide +kernel
theorem dX11_mixHedge_110 : decode cX11_mixHedge 110 = .ok (.iaload, 1) := by decide +kernel
theorem dX11_mixHedge_111 : decode cX11_mixHedge 111 = .ok (.i2l, 1) := by decide +kernel
theorem dX11_mixHedge_112 : decode cX11_mixHedge 112 = .ok (.invokevirtual 260, 3) := by decide +kernel
theorem dX11_mixHedge_115 : decode cX11_mixHedge 115 = .ok (.iinc 1 1, 3) := by decide +kernel
theorem dX11_mixHedge_118 : decode cX11_mixHedge 118 = .ok (.goto (-45), 3) := by decide +kernel
theorem dX11_mixHedge_121 : decode cX11_mixHedge 121 = .ok (.return_, 1) := by decide +kernel
set_option maxRecDepth 20000 in
theorem ggX11_digest_X11_branchNow : GoodIn wsX11_digest wsX11_branchNow := goodIn_r _ [10, 11, 12, 13, 14, 15, 9, 16, 17, 18, 19, 20, 21, 22, 23, 24, 3, 25, 26, 27, 28, 29, 30, 31, 32, 33, 34, 35, 36, 37, 38, 39, 40, 41, 42, 43, 44, 45, 46, 47, 48, 49, 50, 51, 52, 53, 54, 55, 56, 57, 58, 59, 60, 61, 62, 63, 64, 65, 137, 138, 139, 140, 141, 142, 143, 144, 145, 146, 147, 148, 149, 150, 151, 152, 153, 154, 155, 156, 157, 158, 159, 160, 161, 162, 163, 164, 165, 166, 167, 168, 169, 170] (by decide +kernel) (by decide +kernel)
set_option maxRecDepth 20000 in
theorem gX11_digest_X11_branchNow : GoodIn wsX11_digest (wsV RX11 124 RX11 yX11_branchNow wsX11_branchNow) := goodIn_app (goodIn_of _ (by decide +kernel)) ggX11_digest_X11_branchNow
set_option maxRecDepth 20000 in
theorem ggX11_digest_X11_mix : GoodIn wsX11_digest wsX11_mix := goodIn_r _ [69, 70, 2, 137, 138, 139, 140, 141, 142, 143, 144, 145, 146, 147, 148, 149, 150, 151, 152, 153, 154, 155, 156, 157, 158, 159, 160, 161, 162, 163, 164, 165, 166, 167, 168, 169, 170] (by decide +kernel) (by decide +kernel)
set_option maxRecDepth 20000 in
theorem gX11_digest_X11_mix : GoodIn wsX11_digest (wsV RX11 260 RX11 yX11_mix wsX11_mix) := goodIn_app (goodIn_of _ (by decide +kernel)) ggX11_digest_X11_mix
set_option maxRecDepth 20000 in
theorem ggX11_digest_X11_mixHedge : GoodIn wsX11_digest wsX11_mixHedge := goodIn_r _ [74, 75, 13, 3, 12, 76, 77, 78, 9, 79, 42, 43, 44, 45, 46, 47, 48, 49, 50, 17, 18, 19, 20, 11, 14, 15, 16, 21, 22, 23, 24, 51, 52, 53, 54, 25, 26, 27, 28, 66, 67, 68, 69, 70, 2, 80, 81, 82, 83, 84, 85, 86, 87, 88, 89, 90, 91, 92, 93, 94, 95, 96, 97, 98, 99, 100, 101, 102, 103, 104, 105, 106, 107, 108, 109, 110, 111, 112, 113, 114, 115, 116, 117, 118, 119, 120, 137, 138, 139, 140, 141, 142, 143, 144, 145, 146, 147, 148, 149, 150, 151, 152, 153, 154, 155, 156, 157, 158, 159, 160, 161, 162, 163, 164, 165, 166, 167, 168, 169, 170] (by decide +kernel) (by decide +kernel)
set_option maxRecDepth 20000 in
theorem gX11_digest_X11_mixHedge : GoodIn wsX11_digest (wsV RX11 266 RX11 yX11_mixHedge wsX11_mixHedge) := goodIn_app (goodIn_of _ (by decide +kernel)) ggX11_digest_X11_mixHedge
set_option maxRecDepth 20000 in
theorem ggX11_digest_X11_howMany : GoodIn wsX11_digest wsX11_howMany := goodIn_r _ [124, 3, 13, 125, 126, 33, 4, 127, 128, 63, 64, 9, 65, 129, 130, 131, 132, 17, 18, 19, 20, 11, 14, 15, 16, 21, 22, 23, 24, 12, 133, 134, 135, 136, 137, 138, 139, 140, 141, 142, 143, 144, 145, 146, 147, 148, 149, 150, 151, 152, 153, 154, 155, 156, 157, 158, 159, 160, 161, 162, 163, 164, 165, 166, 167, 168, 169, 170] (by decide +kernel) (by decide +kernel)
set_option maxRecDepth 20000 in
theorem gX11_digest_X11_howMany : GoodIn wsX11_digest (wsV RX11 252 RX11 yX11_howMany wsX11_howMany) := goodIn_app (goodIn_of _ (by decide +kernel)) ggX11_digest_X11_howMany
theorem dX11_digest_0 : decode cX11_digest 0 = .ok (.aload_n 0, 1) := by decide +kernel
theorem dX11_digest_1 : decode cX11_digest 1 = .ok (.ldc2_w 264, 3) := by decide +kernel
theorem dX11_digest_4 : decode cX11_digest 4 = .ok (.putfield 257, 3) := by decide +kernel
theorem dX11_digest_7 : decode cX11_digest 7 = .ok (.iconst 0, 1) := by decide +kernel
theorem dX11_digest_8 : decode cX11_digest 8 = .ok (.istore_n 1, 1) := by decide +kernel
theorem dX11_digest_9 : decode cX11_digest 9 = .ok (.iload_n 1, 1) := by decide +kernel
theorem dX11_digest_10 : decode cX11_digest 10 = .ok (.aload_n 0, 1) := by decide +kernel
theorem dX11_digest_11 : decode cX11_digest 11 = .ok (.getfield 83, 3) := by decide +kernel
theorem dX11_digest_14 : decode cX11_digest 14 = .ok (.if_icmp .ge 34, 3) := by decide +kernel
theorem dX11_digest_17 : decode cX11_digest 17 = .ok (.iconst 0, 1) := by decide +kernel
theorem dX11_digest_18 : decode cX11_digest 18 = .ok (.istore_n 2, 1) := by decide +kernel
theorem dX11_digest_19 : decode cX11_digest 19 = .ok (.iload_n 2, 1) := by decide +kernel
theorem dX11_digest_20 : decode cX11_digest 20 = .ok (.bipush 8, 2) := by decide +kernel
theorem dX11_digest_22 : decode cX11_digest 22 = .ok (.if_icmp .ge 20, 3) := by decide +kernel
theorem dX11_digest_25 : decode cX11_digest 25 = .ok (.aload_n 0, 1) := by decide +kernel
theorem dX11_digest_26 : decode cX11_digest 26 = .ok (.aload_n 0, 1) := by decide +kernel
theorem dX11_digest_27 : decode cX11_digest 27 = .ok (.iload_n 1, 1) := by decide +kernel
theorem dX11_digest_28 : decode cX11_digest 28 = .ok (.iload_n 2, 1) := by decide +kernel
theorem dX11_digest_29 : decode cX11_digest 29 = .ok (.invokevirtual 124, 3) := by decide +kernel
theorem dX11_digest_32 : decode cX11_digest 32 = .ok (.i2l, 1) := by decide +kernel
theorem dX11_digest_33 : decode cX11_digest 33 = .ok (.invokevirtual 260, 3) := by decide +kernel
theorem dX11_digest_36 : decode cX11_digest 36 = .ok (.iinc 2 1, 3) := by decide +kernel
theorem dX11_digest_39 : decode cX11_digest 39 = .ok (.goto (-20), 3) := by decide +kernel
theorem dX11_digest_42 : decode cX11_digest 42 = .ok (.iinc 1 1, 3) := by decide +kernel
theorem dX11_digest_45 : decode cX11_digest 45 = .ok (.goto (-36), 3) := by decide +kernel
theorem dX11_digest_48 : decode cX11_digest 48 = .ok (.aload_n 0, 1) := by decide +kernel
theorem dX11_digest_49 : decode cX11_digest 49 = .ok (.getfield 83, 3) := by decide +kernel
theorem dX11_digest_52 : decode cX11_digest 52 = .ok (.ifCond .le 7, 3) := by decide +kernel
theorem dX11_digest_55 : decode cX11_digest 55 = .ok (.aload_n 0, 1) := by decide +kernel
theorem dX11_digest_56 : decode cX11_digest 56 = .ok (.invokevirtual 266, 3) := by decide +kernel
theorem dX11_digest_59 : decode cX11_digest 59 = .ok (.iconst 0, 1) := by decide +kernel
theorem dX11_digest_60 : decode cX11_digest 60 = .ok (.istore_n 1, 1) := by decide +kernel
theorem dX11_digest_61 : decode cX11_digest 61 = .ok (.iload_n 1, 1) := by decide +kernel
theorem dX11_digest_62 : decode cX11_digest 62 = .ok (.aload_n 0, 1) := by decide +kernel
theorem dX11_digest_63 : decode cX11_digest 63 = .ok (.getfield 61, 3) := by decide +kernel
theorem dX11_digest_66 : decode cX11_digest 66 = .ok (.if_icmp .ge 20, 3) := by decide +kernel
theorem dX11_digest_69 : decode cX11_digest 69 = .ok (.aload_n 0, 1) := by decide +kernel
theorem dX11_digest_70 : decode cX11_digest 70 = .ok (.aload_n 0, 1) := by decide +kernel
theorem dX11_digest_71 : decode cX11_digest 71 = .ok (.getfield 25, 3) := by decide +kernel
theorem dX11_digest_74 : decode cX11_digest 74 = .ok (.iload_n 1, 1) := by decide +kernel
theorem dX11_digest_75 : decode cX11_digest 75 = .ok (.baload, 1) := by decide +kernel
theorem dX11_digest_76 : decode cX11_digest 76 = .ok (.i2l, 1) := by decide +kernel
theorem dX11_digest_77 : decode cX11_digest 77 = .ok (.invokevirtual 260, 3) := by decide +kernel
theorem dX11_digest_80 : decode cX11_digest 80 = .ok (.iinc 1 1, 3) := by decide +kernel
theorem dX11_digest_83 : decode cX11_digest 83 = .ok (.goto (-22), 3) := by decide +kernel
theorem dX11_digest_86 : decode cX11_digest 86 = .ok (.iconst 0, 1) := by decide +kernel
theorem dX11_digest_87 : decode cX11_digest 87 = .ok (.istore_n 1, 1) := by decide +kernel
theorem dX11_digest_88 : decode cX11_digest 88 = .ok (.iload_n 1, 1) := by decide +kernel
theorem dX11_digest_89 : decode cX11_digest 89 = .ok (.bipush 11, 2) := by decide +kernel
theorem dX11_digest_91 : decode cX11_digest 91 = .ok (.if_icmp .ge 19, 3) := by decide +kernel
theorem dX11_digest_94 : decode cX11_digest 94 = .ok (.aload_n 0, 1) := by decide +kernel
theorem dX11_digest_95 : decode cX11_digest 95 = .ok (.aload_n 0, 1) := by decide +kernel
theorem dX11_digest_96 : decode cX11_digest 96 = .ok (.iload_n 1, 1) := by decide +kernel
theorem dX11_digest_97 : decode cX11_digest 97 = .ok (.invokevirtual 252, 3) := by decide +kernel
theorem dX11_digest_100 : decode cX11_digest 100 = .ok (.i2l, 1) := by decide +kernel
theorem dX11_digest_101 : decode cX11_digest 101 = .ok (.invokevirtual 260, 3) := by decide +kernel
theorem dX11_digest_104 : decode cX11_digest 104 = .ok (.iinc 1 1, 3) := by decide +kernel
theorem dX11_digest_107 : decode cX11_digest 107 = .ok (.goto (-19), 3) := by decide +kernel
theorem dX11_digest_110 : decode cX11_digest 110 = .ok (.aload_n 0, 1) := by decide +kernel
theorem dX11_digest_111 : decode cX11_digest 111 = .ok (.getfield 257, 3) := by decide +kernel
theorem dX11_digest_114 : decode cX11_digest 114 = .ok (.lreturn, 1) := by decide +kernel
theorem dJ11_isValidCodePoint_9a6ad_0 : decode cJ11_isValidCodePoint_9a6ad 0 = .ok (.iload_n 0, 1) := by decide +kernel
theorem dJ11_isValidCodePoint_9a6ad_1 : decode cJ11_isValidCodePoint_9a6ad 1 = .ok (.bipush 16, 2) := by decide +kernel
theorem dJ11_isValidCodePoint_9a6ad_3 : decode cJ11_isValidCodePoint_9a6ad 3 = .ok (.iushr, 1) := by decide +kernel
theorem dJ11_isValidCodePoint_9a6ad_4 : decode cJ11_isValidCodePoint_9a6ad 4 = .ok (.istore_n 1, 1) := by decide +kernel
theorem dJ11_isValidCodePoint_9a6ad_5 : decode cJ11_isValidCodePoint_9a6ad 5 = .ok (.iload_n 1, 1) := by decide +kernel
theorem dJ11_isValidCodePoint_9a6ad_6 : decode cJ11_isValidCodePoint_9a6ad 6 = .ok (.bipush 17, 2) := by decide +kernel
theorem dJ11_isValidCodePoint_9a6ad_8 : decode cJ11_isValidCodePoint_9a6ad 8 = .ok (.if_icmp .ge 7, 3) := by decide +kernel
theorem dJ11_isValidCodePoint_9a6ad_11 : decode cJ11_isValidCodePoint_9a6ad 11 = .ok (.iconst 1, 1) := by decide +kernel
theorem dJ11_isValidCodePoint_9a6ad_12 : decode cJ11_isValidCodePoint_9a6ad 12 = .ok (.goto 4, 3) := by decide +kernel
theorem dJ11_isValidCodePoint_9a6ad_15 : decode cJ11_isValidCodePoint_9a6ad 15 = .ok (.iconst 0, 1) := by decide +kernel
theorem dJ11_isValidCodePoint_9a6ad_16 : decode cJ11_isValidCodePoint_9a6ad 16 = .ok (.ireturn, 1) := by decide +kernel
theorem dJ11_highSurrogate_5068e_0 : decode cJ11_highSurrogate_5068e 0 = .ok (.iload_n 0, 1) := by decide +kernel
theorem dJ11_highSurrogate_5068e_1 : decode cJ11_highSurrogate_5068e 1 = .ok (.bipush 10, 2) := by decide +kernel
theorem dJ11_highSurrogate_5068e_3 : decode cJ11_highSurrogate_5068e 3 = .ok (.iushr, 1) := by decide +kernel
theorem dJ11_highSurrogate_5068e_4 : decode cJ11_highSurrogate_5068e 4 = .ok (.ldc 110, 2) := by decide +kernel
theorem dJ11_highSurrogate_5068e_6 : decode cJ11_highSurrogate_5068e 6 = .ok (.iadd, 1) := by decide +kernel
theorem dJ11_highSurrogate_5068e_7 : decode cJ11_highSurrogate_5068e 7 = .ok (.i2c, 1) := by decide +kernel
theorem dJ11_highSurrogate_5068e_8 : decode cJ11_highSurrogate_5068e 8 = .ok (.ireturn, 1) := by decide +kernel
theorem dJ11_lowSurrogate_5068e_0 : decode cJ11_lowSurrogate_5068e 0 = .ok (.iload_n 0, 1) := by decide +kernel
theorem dJ11_lowSurrogate_5068e_1 : decode cJ11_lowSurrogate_5068e 1 = .ok (.sipush 1023, 3) := by decide +kernel
theorem dJ11_lowSurrogate_5068e_4 : decode cJ11_lowSurrogate_5068e 4 = .ok (.iand, 1) := by decide +kernel
theorem dJ11_lowSurrogate_5068e_5 : decode cJ11_lowSurrogate_5068e 5 = .ok (.ldc 76, 2) := by decide +kernel
theorem dJ11_lowSurrogate_5068e_7 : decode cJ11_lowSurrogate_5068e 7 = .ok (.iadd, 1) := by decide +kernel
theorem dJ11_lowSurrogate_5068e_8 : decode cJ11_lowSurrogate_5068e 8 = .ok (.i2c, 1) := by decide +kernel
theorem dJ11_lowSurrogate_5068e_9 : decode cJ11_lowSurrogate_5068e 9 = .ok (.ireturn, 1) := by decide +kernel
theorem dJ6_bitCount_0f7a4_0 : decode cJ6_bitCount_0f7a4 0 = .ok (.iload_n 0, 1) := by decide +kernel
theorem dJ6_bitCount_0f7a4_1 : decode cJ6_bitCount_0f7a4 1 = .ok (.iload_n 0, 1) := by decide +kernel
theorem dJ6_bitCount_0f7a4_2 : decode cJ6_bitCount_0f7a4 2 = .ok (.iconst 1, 1) := by decide +kernel
theorem dJ6_bitCount_0f7a4_3 : decode cJ6_bitCount_0f7a4 3 = .ok (.iushr, 1) := by decide +kernel
theorem dJ6_bitCount_0f7a4_4 : decode cJ6_bitCount_0f7a4 4 = .ok (.ldc_w 265, 3) := by decide +kernel
theorem dJ6_bitCount_0f7a4_7 : decode cJ6_bitCount_0f7a4 7 = .ok (.iand, 1) := by decide +kernel
theorem dJ6_bitCount_0f7a4_8 : decode cJ6_bitCount_0f7a4 8 = .ok (.isub, 1) := by decide +kernel
theorem dJ6_bitCount_0f7a4_9 : decode cJ6_bitCount_0f7a4 9 = .ok (.istore_n 0, 1) := by decide +kernel
theorem dJ6_bitCount_0f7a4_10 : decode cJ6_bitCount_0f7a4 10 = .ok (.iload_n 0, 1) := by decide +kernel
theorem dJ6_bitCount_0f7a4_11 : decode cJ6_bitCount_0f7a4 11 = .ok (.ldc_w 266, 3) := by decide +kernel
theorem dJ6_bitCount_0f7a4_14 : decode cJ6_bitCount_0f7a4 14 = .ok (.iand, 1) := by decide +kernel
theorem dJ6_bitCount_0f7a4_15 : decode cJ6_bitCount_0f7a4 15 = .ok (.iload_n 0, 1) := by decide +kernel
theorem dJ6_bitCount_0f7a4_16 : decode cJ6_bitCount_0f7a4 16 = .ok (.iconst 2, 1) := by decide +kernel
theorem dJ6_bitCount_0f7a4_17 : decode cJ6_bitCount_0f7a4 17 = .ok (.iushr, 1) := by decide +kernel
theorem dJ6_bitCount_0f7a4_18 : decode cJ6_bitCount_0f7a4 18 = .ok (.ldc_w 266, 3) := by decide +kernel
theorem dJ6_bitCount_0f7a4_21 : decode cJ6_bitCount_0f7a4 21 = .ok (.iand, 1) := by decide +kernel
theorem dJ6_bitCount_0f7a4_22 : decode cJ6_bitCount_0f7a4 22 = .ok (.iadd, 1) := by decide +kernel
theorem dJ6_bitCount_0f7a4_23 : decode cJ6_bitCount_0f7a4 23 = .ok (.istore_n 0, 1) := by decide +kernel
theorem dJ6_bitCount_0f7a4_24 : decode cJ6_bitCount_0f7a4 24 = .ok (.iload_n 0, 1) := by decide +kernel
theorem dJ6_bitCount_0f7a4_25 : decode cJ6_bitCount_0f7a4 25 = .ok (.iload_n 0, 1) := by decide +kernel
theorem dJ6_bitCount_0f7a4_26 : decode cJ6_bitCount_0f7a4 26 = .ok (.iconst 4, 1) := by decide +kernel
theorem dJ6_bitCount_0f7a4_27 : decode cJ6_bitCount_0f7a4 27 = .ok (.iushr, 1) := by decide +kernel
theorem dJ6_bitCount_0f7a4_28 : decode cJ6_bitCount_0f7a4 28 = .ok (.iadd, 1) := by decide +kernel
theorem dJ6_bitCount_0f7a4_29 : decode cJ6_bitCount_0f7a4 29 = .ok (.ldc_w 267, 3) := by decide +kernel
theorem dJ6_bitCount_0f7a4_32 : decode cJ6_bitCount_0f7a4 32 = .ok (.iand, 1) := by decide +kernel
theorem dJ6_bitCount_0f7a4_33 : decode cJ6_bitCount_0f7a4 33 = .ok (.istore_n 0, 1) := by decide +kernel
theorem dJ6_bitCount_0f7a4_34 : decode cJ6_bitCount_0f7a4 34 = .ok (.iload_n 0, 1) := by decide +kernel
theorem dJ6_bitCount_0f7a4_35 : decode cJ6_bitCount_0f7a4 35 = .ok (.iload_n 0, 1) := by decide +kernel
theorem dJ6_bitCount_0f7a4_36 : decode cJ6_bitCount_0f7a4 36 = .ok (.bipush 8, 2) := by decide +kernel
theorem dJ6_bitCount_0f7a4_38 : decode cJ6_bitCount_0f7a4 38 = .ok (.iushr, 1) := by decide +kernel
theorem dJ6_bitCount_0f7a4_39 : decode cJ6_bitCount_0f7a4 39 = .ok (.iadd, 1) := by decide +kernel
theorem dJ6_bitCount_0f7a4_40 : decode cJ6_bitCount_0f7a4 40 = .ok (.istore_n 0, 1) := by decide +kernel
theorem dJ6_bitCount_0f7a4_41 : decode cJ6_bitCount_0f7a4 41 = .ok (.iload_n 0, 1) := by decide +kernel
theorem dJ6_bitCount_0f7a4_42 : decode cJ6_bitCount_0f7a4 42 = .ok (.iload_n 0, 1) := by decide +kernel
theorem dJ6_bitCount_0f7a4_43 : decode cJ6_bitCount_0f7a4 43 = .ok (.bipush 16, 2) := by decide +kernel
theorem dJ6_bitCount_0f7a4_45 : decode cJ6_bitCount_0f7a4 45 = .ok (.iushr, 1) := by decide +kernel
theorem dJ6_bitCount_0f7a4_46 : decode cJ6_bitCount_0f7a4 46 = .ok (.iadd, 1) := by decide +kernel
theorem dJ6_bitCount_0f7a4_47 : decode cJ6_bitCount_0f7a4 47 = .ok (.istore_n 0, 1) := by decide +kernel
theorem dJ6_bitCount_0f7a4_48 : decode cJ6_bitCount_0f7a4 48 = .ok (.iload_n 0, 1) := by decide +kernel
theorem dJ6_bitCount_0f7a4_49 : decode cJ6_bitCount_0f7a4 49 = .ok (.bipush 63, 2) := by decide +kernel
theorem dJ6_bitCount_0f7a4_51 : decode cJ6_bitCount_0f7a4 51 = .ok (.iand, 1) := by decide +kernel
theorem dJ6_bitCount_0f7a4_52 : decode cJ6_bitCount_0f7a4 52 = .ok (.ireturn, 1) := by decide +kernel
theorem dJ9_max_7cf53_0 : decode cJ9_max_7cf53 0 = .ok (.iload_n 0, 1) := by decide +kernel
theorem dJ9_max_7cf53_1 : decode cJ9_max_7cf53 1 = .ok (.iload_n 1, 1) := by decide +kernel
theorem dJ9_max_7cf53_2 : decode cJ9_max_7cf53 2 = .ok (.if_icmp .lt 7, 3) := by decide +kernel
theorem dJ9_max_7cf53_5 : decode cJ9_max_7cf53 5 = .ok (.iload_n 0, 1) := by decide +kernel
theorem dJ9_max_7cf53_6 : decode cJ9_max_7cf53 6 = .ok (.goto 4, 3) := by decide +kernel
theorem dJ9_max_7cf53_9 : decode cJ9_max_7cf53 9 = .ok (.iload_n 1, 1) := by decide +kernel
theorem dJ9_max_7cf53_10 : decode cJ9_max_7cf53 10 = .ok (.ireturn, 1) := by decide +kernel
theorem dJ9_min_7cf53_0 : decode cJ9_min_7cf53 0 = .ok (.iload_n 0, 1) := by decide +kernel
theorem dJ9_min_7cf53_1 : decode cJ9_min_7cf53 1 = .ok (.iload_n 1, 1) := by decide +kernel
theorem dJ9_min_7cf53_2 : decode cJ9_min_7cf53 2 = .ok (.if_icmp .gt 7, 3) := by decide +kernel
theorem dJ9_min_7cf53_5 : decode cJ9_min_7cf53 5 = .ok (.iload_n 0, 1) := by decide +kernel
theorem dJ9_min_7cf53_6 : decode cJ9_min_7cf53 6 = .ok (.goto 4, 3) := by decide +kernel
theorem dJ9_min_7cf53_9 : decode cJ9_min_7cf53 9 = .ok (.iload_n 1, 1) := by decide +kernel
theorem dJ9_min_7cf53_10 : decode cJ9_min_7cf53 10 = .ok (.ireturn, 1) := by decide +kernel
set_option maxRecDepth 20000 in
theorem ggJ0_length_8abf5_J0_coder_7d493 : GoodIn wsJ0_length_8abf5 wsJ0_coder_7d493 := goodIn_r _ [6, 7, 8] (by decide +kernel) (by decide +kernel)
set_option maxRecDepth 20000 in
theorem gJ0_length_8abf5_J0_coder_7d493 : GoodIn wsJ0_length_8abf5 (wsV RJ0 335 RJ0 yJ0_coder_7d493 wsJ0_coder_7d493) := goodIn_app (goodIn_of _ (by decide +kernel)) ggJ0_length_8abf5_J0_coder_7d493
theorem dJ0_length_8abf5_0 : decode cJ0_length_8abf5 0 = .ok (.aload_n 0, 1) := by decide +kernel
theorem dJ0_length_8abf5_1 : decode cJ0_length_8abf5 1 = .ok (.getfield 9, 3) := by decide +kernel
theorem dJ0_length_8abf5_4 : decode cJ0_length_8abf5 4 = .ok (.arraylength, 1) := by decide +kernel
theorem dJ0_length_8abf5_5 : decode cJ0_length_8abf5 5 = .ok (.aload_n 0, 1) := by decide +kernel
theorem dJ0_length_8abf5_6 : decode cJ0_length_8abf5 6 = .ok (.invokevirtual 335, 3) := by decide +kernel
theorem dJ0_length_8abf5_9 : decode cJ0_length_8abf5 9 = .ok (.ishr, 1) := by decide +kernel
theorem dJ0_length_8abf5_10 : decode cJ0_length_8abf5 10 = .ok (.ireturn, 1) := by decide +kernel
set_option maxRecDepth 20000 in
theorem ggJ0_indexOf_0f7a4_J0_indexOf_7cf53 : GoodIn wsJ0_indexOf_0f7a4 wsJ0_indexOf_7cf53 := goodIn_r _ [5, 6, 7, 8, 9, 4, 10, 11, 12, 13, 14, 15, 16, 17, 18, 19, 20, 21, 22, 23, 24, 25, 26, 27, 28, 29, 30, 31, 32, 33, 34, 35, 36, 37, 38, 39, 40, 41, 42, 43, 44, 45, 46, 47, 48, 49, 50, 51, 52, 53, 54, 55, 56, 57, 58, 59, 60, 61, 62, 63, 64, 65, 66, 67, 68, 69, 70, 71, 72, 73, 74, 75, 76, 77, 78, 79, 80, 81, 82, 83, 84, 85] (by decide +kernel) (by decide +kernel)
set_option maxRecDepth 20000 in
theorem gJ0_indexOf_0f7a4_J0_indexOf_7cf53 : GoodIn wsJ0_indexOf_0f7a4 (wsV RJ0 633 RJ0 yJ0_indexOf_7cf53 wsJ0_indexOf_7cf53) := goodIn_app (goodIn_of _ (by decide +kernel)) ggJ0_indexOf_0f7a4_J0_indexOf_7cf53
theorem dJ0_indexOf_0f7a4_0 : decode cJ0_indexOf_0f7a4 0 = .ok (.aload_n 0, 1) := by decide +kernel
theorem dJ0_indexOf_0f7a4_1 : decode cJ0_indexOf_0f7a4 1 = .ok (.iload_n 1, 1) := by decide +kernel
theorem dJ0_indexOf_0f7a4_2 : decode cJ0_indexOf_0f7a4 2 = .ok (.iconst 0, 1) := by decide +kernel
theorem dJ0_indexOf_0f7a4_3 : decode cJ0_indexOf_0f7a4 3 = .ok (.invokevirtual 633, 3) := by decide +kernel
theorem dJ0_indexOf_0f7a4_6 : decode cJ0_indexOf_0f7a4 6 = .ok (.ireturn, 1) := by decide +kernel
set_option maxRecDepth 20000 in
theorem ggJ0_indexOf_7cf53_J0_isLatin1_aae02 : GoodIn wsJ0_indexOf_7cf53 wsJ0_isLatin1_aae02 := goodIn_r _ [6, 7, 8] (by decide +kernel) (by decide +kernel)
set_option maxRecDepth 20000 in
theorem gJ0_indexOf_7cf53_J0_isLatin1_aae02 : GoodIn wsJ0_indexOf_7cf53 (wsV RJ0 492 RJ0 yJ0_isLatin1_aae02 wsJ0_isLatin1_aae02) := goodIn_app (goodIn_of _ (by decide +kernel)) ggJ0_indexOf_7cf53_J0_isLatin1_aae02
set_option maxRecDepth 20000 in
theorem ggJ0_indexOf_7cf53_J0_length_8abf5 : GoodIn wsJ0_indexOf_7cf53 wsJ0_length_8abf5 := goodIn_r _ [12, 1, 13, 14, 15, 5, 16, 7, 8] (by decide +kernel) (by decide +kernel)
set_option maxRecDepth 20000 in
theorem gJ0_indexOf_7cf53_J0_length_8abf5 : GoodIn wsJ0_indexOf_7cf53 (wsV RJ0 505 RJ0 yJ0_length_8abf5 wsJ0_length_8abf5) := goodIn_app (goodIn_of _ (by decide +kernel)) ggJ0_indexOf_7cf53_J0_length_8abf5
set_option maxRecDepth 20000 in
theorem ggJ0_indexOf_7cf53_J1_indexOf_4cfef : GoodIn wsJ0_indexOf_7cf53 wsJ1_indexOf_4cfef := goodIn_r _ [20, 21, 22, 23, 24, 25, 26, 27, 28, 29, 19, 30, 31, 32, 33] (by decide +kernel) (by decide +kernel)
set_option maxRecDepth 20000 in
theorem gJ0_indexOf_7cf53_J1_indexOf_4cfef : GoodIn wsJ0_indexOf_7cf53 (va_wsS RJ0 637 yJ1_indexOf_4cfef wsJ1_indexOf_4cfef) := goodIn_app (goodIn_of _ (by decide +kernel)) ggJ0_indexOf_7cf53_J1_indexOf_4cfef
set_option maxRecDepth 20000 in
theorem ggJ0_indexOf_7cf53_J2_indexOf_4cfef : GoodIn wsJ0_indexOf_7cf53 wsJ2_indexOf_4cfef := goodIn_r _ [37, 38, 22, 23, 24, 39, 26, 27, 40, 41, 42, 36, 43, 44, 45, 46, 47, 48, 49, 50, 51, 5, 52, 53, 54, 55, 56, 57, 58, 59, 60, 61, 62, 63, 64, 65, 66, 67, 68, 69, 70, 71, 72, 73, 74, 75, 76, 77, 78, 79, 80, 81] (by decide +kernel) (by decide +kernel)
set_option maxRecDepth 20000 in
theorem gJ0_indexOf_7cf53_J2_indexOf_4cfef : GoodIn wsJ0_indexOf_7cf53 (va_wsS RJ0 640 yJ2_indexOf_4cfef wsJ2_indexOf_4cfef) := goodIn_app (goodIn_of _ (by decide +kernel)) ggJ0_indexOf_7cf53_J2_indexOf_4cfef
theorem dJ0_indexOf_7cf53_0 : decode cJ0_indexOf_7cf53 0 = .ok (.aload_n 0, 1) := by decide +kernel
theorem dJ0_indexOf_7cf53_1 : decode cJ0_indexOf_7cf53 1 = .ok (.invokevirtual 492, 3) := by decide +kernel
theorem dJ0_indexOf_7cf53_4 : decode cJ0_indexOf_7cf53 4 = .ok (.ifCond .eq 19, 3) := by decide +kernel
theorem dJ0_indexOf_7cf53_7 : decode cJ0_indexOf_7cf53 7 = .ok (.aload_n 0, 1) := by decide +kernel
theorem dJ0_indexOf_7cf53_8 : decode cJ0_indexOf_7cf53 8 = .ok (.getfield 9, 3) := by decide +kernel
theorem dJ0_indexOf_7cf53_11 : decode cJ0_indexOf_7cf53 11 = .ok (.iload_n 1, 1) := by decide +kernel
theorem dJ0_indexOf_7cf53_12 : decode cJ0_indexOf_7cf53 12 = .ok (.iload_n 2, 1) := by decide +kernel
theorem dJ0_indexOf_7cf53_13 : decode cJ0_indexOf_7cf53 13 = .ok (.aload_n 0, 1) := by decide +kernel
theorem dJ0_indexOf_7cf53_14 : decode cJ0_indexOf_7cf53 14 = .ok (.invokevirtual 505, 3) := by decide +kernel
theorem dJ0_indexOf_7cf53_17 : decode cJ0_indexOf_7cf53 17 = .ok (.invokestatic 637, 3) := by decide +kernel
theorem dJ0_indexOf_7cf53_20 : decode cJ0_indexOf_7cf53 20 = .ok (.goto 16, 3) := by decide +kernel
theorem dJ0_indexOf_7cf53_23 : decode cJ0_indexOf_7cf53 23 = .ok (.aload_n 0, 1) := by decide +kernel
theorem dJ0_indexOf_7cf53_24 : decode cJ0_indexOf_7cf53 24 = .ok (.getfield 9, 3) := by decide +kernel
theorem dJ0_indexOf_7cf53_27 : decode cJ0_indexOf_7cf53 27 = .ok (.iload_n 1, 1) := by decide +kernel
theorem dJ0_indexOf_7cf53_28 : decode cJ0_indexOf_7cf53 28 = .ok (.iload_n 2, 1) := by decide +kernel
theorem dJ0_indexOf_7cf53_29 : decode cJ0_indexOf_7cf53 29 = .ok (.aload_n 0, 1) := by decide +kernel
theorem dJ0_indexOf_7cf53_30 : decode cJ0_indexOf_7cf53 30 = .ok (.invokevirtual 505, 3) := by decide +kernel
theorem dJ0_indexOf_7cf53_33 : decode cJ0_indexOf_7cf53 33 = .ok (.invokestatic 640, 3) := by decide +kernel
theorem dJ0_indexOf_7cf53_36 : decode cJ0_indexOf_7cf53 36 = .ok (.ireturn, 1) := by decide +kernel
theorem dJ0_coder_7d493_0 : decode cJ0_coder_7d493 0 = .ok (.getstatic 38, 3) := by decide +kernel
theorem dJ0_coder_7d493_3 : decode cJ0_coder_7d493 3 = .ok (.ifCond .eq 10, 3) := by decide +kernel
theorem dJ0_coder_7d493_6 : decode cJ0_coder_7d493 6 = .ok (.aload_n 0, 1) := by decide +kernel
theorem dJ0_coder_7d493_7 : decode cJ0_coder_7d493 7 = .ok (.getfield 15, 3) := by decide +kernel
theorem dJ0_coder_7d493_10 : decode cJ0_coder_7d493 10 = .ok (.goto 4, 3) := by decide +kernel
theorem dJ0_coder_7d493_13 : decode cJ0_coder_7d493 13 = .ok (.iconst 1, 1) := by decide +kernel
theorem dJ0_coder_7d493_14 : decode cJ0_coder_7d493 14 = .ok (.ireturn, 1) := by decide +kernel
theorem dJ0_isLatin1_aae02_0 : decode cJ0_isLatin1_aae02 0 = .ok (.getstatic 38, 3) := by decide +kernel
theorem dJ0_isLatin1_aae02_3 : decode cJ0_isLatin1_aae02 3 = .ok (.ifCond .eq 14, 3) := by decide +kernel
theorem dJ0_isLatin1_aae02_6 : decode cJ0_isLatin1_aae02 6 = .ok (.aload_n 0, 1) := by decide +kernel
theorem dJ0_isLatin1_aae02_7 : decode cJ0_isLatin1_aae02 7 = .ok (.getfield 15, 3) := by decide +kernel
theorem dJ0_isLatin1_aae02_10 : decode cJ0_isLatin1_aae02 10 = .ok (.ifCond .ne 7, 3) := by decide +kernel
theorem dJ0_isLatin1_aae02_13 : decode cJ0_isLatin1_aae02 13 = .ok (.iconst 1, 1) := by decide +kernel
theorem dJ0_isLatin1_aae02_14 : decode cJ0_isLatin1_aae02 14 = .ok (.goto 4, 3) := by decide +kernel
theorem dJ0_isLatin1_aae02_17 : decode cJ0_isLatin1_aae02 17 = .ok (.iconst 0, 1) := by decide +kernel
theorem dJ0_isLatin1_aae02_18 : decode cJ0_isLatin1_aae02 18 = .ok (.ireturn, 1) := by decide +kernel
set_option maxRecDepth 20000 in
theorem ggJ0_checkBoundsBeginEnd_23922_J3_checkFromToIndex_8c36e : GoodIn wsJ0_checkBoundsBeginEnd_23922 wsJ3_checkFromToIndex_8c36e := goodIn_r _ [5] (by decide +kernel) (by decide +kernel)
set_option maxRecDepth 20000 in
theorem gJ0_checkBoundsBeginEnd_23922_J3_checkFromToIndex_8c36e : GoodIn wsJ0_checkBoundsBeginEnd_23922 (va_wsS RJ0 1062 yJ3_checkFromToIndex_8c36e wsJ3_checkFromToIndex_8c36e) := goodIn_app (goodIn_of _ (by decide +kernel)) ggJ0_checkBoundsBeginEnd_23922_J3_checkFromToIndex_8c36e
theorem dJ0_checkBoundsBeginEnd_23922_0 : decode cJ0_checkBoundsBeginEnd_23922 0 = .ok (.iload_n 0, 1) := by decide +kernel
theorem dJ0_checkBoundsBeginEnd_23922_1 : decode cJ0_checkBoundsBeginEnd_23922 1 = .ok (.iload_n 1, 1) := by decide +kernel
theorem dJ0_checkBoundsBeginEnd_23922_2 : decode cJ0_checkBoundsBeginEnd_23922 2 = .ok (.iload_n 2, 1) := by decide +kernel
theorem dJ0_checkBoundsBeginEnd_23922_3 : decode cJ0_checkBoundsBeginEnd_23922 3 = .ok (.getstatic 1053, 3) := by decide +kernel
theorem dJ0_checkBoundsBeginEnd_23922_6 : decode cJ0_checkBoundsBeginEnd_23922 6 = .ok (.invokestatic 1062, 3) := by decide +kernel
theorem dJ0_checkBoundsBeginEnd_23922_9 : decode cJ0_checkBoundsBeginEnd_23922 9 = .ok (.pop, 1) := by decide +kernel
theorem dJ0_checkBoundsBeginEnd_23922_10 : decode cJ0_checkBoundsBeginEnd_23922 10 = .ok (.return_, 1) := by decide +kernel
theorem dJ1_canEncode_9a6ad_0 : decode cJ1_canEncode_9a6ad 0 = .ok (.iload_n 0, 1) := by decide +kernel
theorem dJ1_canEncode_9a6ad_1 : decode cJ1_canEncode_9a6ad 1 = .ok (.ifCond .lt 14, 3) := by decide +kernel
theorem dJ1_canEncode_9a6ad_4 : decode cJ1_canEncode_9a6ad 4 = .ok (.iload_n 0, 1) := by decide +kernel
theorem dJ1_canEncode_9a6ad_5 : decode cJ1_canEncode_9a6ad 5 = .ok (.sipush 255, 3) := by decide +kernel
theorem dJ1_canEncode_9a6ad_8 : decode cJ1_canEncode_9a6ad 8 = .ok (.if_icmp .gt 7, 3) := by decide +kernel
theorem dJ1_canEncode_9a6ad_11 : decode cJ1_canEncode_9a6ad 11 = .ok (.iconst 1, 1) := by decide +kernel
theorem dJ1_canEncode_9a6ad_12 : decode cJ1_canEncode_9a6ad 12 = .ok (.goto 4, 3) := by decide +kernel
theorem dJ1_canEncode_9a6ad_15 : decode cJ1_canEncode_9a6ad 15 = .ok (.iconst 0, 1) := by decide +kernel
theorem dJ1_canEncode_9a6ad_16 : decode cJ1_canEncode_9a6ad 16 = .ok (.ireturn, 1) := by decide +kernel
set_option maxRecDepth 20000 in
theorem ggJ1_indexOf_4cfef_J1_canEncode_9a6ad : GoodIn wsJ1_indexOf_4cfef wsJ1_canEncode_9a6ad := goodIn_r _ [11] (by decide +kernel) (by decide +kernel)
set_option maxRecDepth 20000 in
theorem gJ1_indexOf_4cfef_J1_canEncode_9a6ad : GoodIn wsJ1_indexOf_4cfef (va_wsS RJ1 88 yJ1_canEncode_9a6ad wsJ1_canEncode_9a6ad) := goodIn_app (goodIn_of _ (by decide +kernel)) ggJ1_indexOf_4cfef_J1_canEncode_9a6ad
set_option maxRecDepth 20000 in
theorem ggJ1_indexOf_4cfef_J1_indexOfChar_4cfef : GoodIn wsJ1_indexOf_4cfef wsJ1_indexOfChar_4cfef := goodIn_r _ [14] (by decide +kernel) (by decide +kernel)
set_option maxRecDepth 20000 in
theorem gJ1_indexOf_4cfef_J1_indexOfChar_4cfef : GoodIn wsJ1_indexOf_4cfef (va_wsS RJ1 95 yJ1_indexOfChar_4cfef wsJ1_indexOfChar_4cfef) := goodIn_app (goodIn_of _ (by decide +kernel)) ggJ1_indexOf_4cfef_J1_indexOfChar_4cfef
theorem dJ1_indexOf_4cfef_0 : decode cJ1_indexOf_4cfef 0 = .ok (.iload_n 1, 1) := by decide +kernel
theorem dJ1_indexOf_4cfef_1 : decode cJ1_indexOf_4cfef 1 = .ok (.invokestatic 88, 3) := by decide +kernel
theorem dJ1_indexOf_4cfef_4 : decode cJ1_indexOf_4cfef 4 = .ok (.ifCond .ne 5, 3) := by decide +kernel
theorem dJ1_indexOf_4cfef_7 : decode cJ1_indexOf_4cfef 7 = .ok (.iconst (-1), 1) := by decide +kernel
theorem dJ1_indexOf_4cfef_8 : decode cJ1_indexOf_4cfef 8 = .ok (.ireturn, 1) := by decide +kernel
theorem dJ1_indexOf_4cfef_9 : decode cJ1_indexOf_4cfef 9 = .ok (.iload_n 2, 1) := by decide +kernel
theorem dJ1_indexOf_4cfef_10 : decode cJ1_indexOf_4cfef 10 = .ok (.iconst 0, 1) := by decide +kernel
theorem dJ1_indexOf_4cfef_11 : decode cJ1_indexOf_4cfef 11 = .ok (.invokestatic 92, 3) := by decide +kernel
theorem dJ1_indexOf_4cfef_14 : decode cJ1_indexOf_4cfef 14 = .ok (.istore_n 2, 1) := by decide +kernel
theorem dJ1_indexOf_4cfef_15 : decode cJ1_indexOf_4cfef 15 = .ok (.iload_n 3, 1) := by decide +kernel
theorem dJ1_indexOf_4cfef_16 : decode cJ1_indexOf_4cfef 16 = .ok (.aload_n 0, 1) := by decide +kernel
theorem dJ1_indexOf_4cfef_17 : decode cJ1_indexOf_4cfef 17 = .ok (.arraylength, 1) := by decide +kernel
theorem dJ1_indexOf_4cfef_18 : decode cJ1_indexOf_4cfef 18 = .ok (.invokestatic 38, 3) := by decide +kernel
theorem dJ1_indexOf_4cfef_21 : decode cJ1_indexOf_4cfef 21 = .ok (.istore_n 3, 1) := by decide +kernel
theorem dJ1_indexOf_4cfef_22 : decode cJ1_indexOf_4cfef 22 = .ok (.iload_n 2, 1) := by decide +kernel
theorem dJ1_indexOf_4cfef_23 : decode cJ1_indexOf_4cfef 23 = .ok (.iload_n 3, 1) := by decide +kernel
theorem dJ1_indexOf_4cfef_24 : decode cJ1_indexOf_4cfef 24 = .ok (.if_icmp .lt 5, 3) := by decide +kernel
theorem dJ1_indexOf_4cfef_27 : decode cJ1_indexOf_4cfef 27 = .ok (.iconst (-1), 1) := by decide +kernel
theorem dJ1_indexOf_4cfef_28 : decode cJ1_indexOf_4cfef 28 = .ok (.ireturn, 1) := by decide +kernel
theorem dJ1_indexOf_4cfef_29 : decode cJ1_indexOf_4cfef 29 = .ok (.aload_n 0, 1) := by decide +kernel
theorem dJ1_indexOf_4cfef_30 : decode cJ1_indexOf_4cfef 30 = .ok (.iload_n 1, 1) := by decide +kernel
theorem dJ1_indexOf_4cfef_31 : decode cJ1_indexOf_4cfef 31 = .ok (.iload_n 2, 1) := by decide +kernel
theorem dJ1_indexOf_4cfef_32 : decode cJ1_indexOf_4cfef 32 = .ok (.iload_n 3, 1) := by decide +kernel
theorem dJ1_indexOf_4cfef_33 : decode cJ1_indexOf_4cfef 33 = .ok (.invokestatic 95, 3) := by decide +kernel
theorem dJ1_indexOf_4cfef_36 : decode cJ1_indexOf_4cfef 36 = .ok (.ireturn, 1) := by decide +kernel
theorem dJ1_indexOfChar_4cfef_0 : decode cJ1_indexOfChar_4cfef 0 = .ok (.iload_n 1, 1) := by decide +kernel
theorem dJ1_indexOfChar_4cfef_1 : decode cJ1_indexOfChar_4cfef 1 = .ok (.i2b, 1) := by decide +kernel
theorem dJ1_indexOfChar_4cfef_2 : decode cJ1_indexOfChar_4cfef 2 = .ok (.istore 4, 2) := by decide +kernel
theorem dJ1_indexOfChar_4cfef_4 : decode cJ1_indexOfChar_4cfef 4 = .ok (.iload_n 2, 1) := by decide +kernel
theorem dJ1_indexOfChar_4cfef_5 : decode cJ1_indexOfChar_4cfef 5 = .ok (.istore 5, 2) := by decide +kernel
theorem dJ1_indexOfChar_4cfef_7 : decode cJ1_indexOfChar_4cfef 7 = .ok (.iload 5, 2) := by decide +kernel
theorem dJ1_indexOfChar_4cfef_9 : decode cJ1_indexOfChar_4cfef 9 = .ok (.iload_n 3, 1) := by decide +kernel
theorem dJ1_indexOfChar_4cfef_10 : decode cJ1_indexOfChar_4cfef 10 = .ok (.if_icmp .ge 21, 3) := by decide +kernel
theorem dJ1_indexOfChar_4cfef_13 : decode cJ1_indexOfChar_4cfef 13 = .ok (.aload_n 0, 1) := by decide +kernel
theorem dJ1_indexOfChar_4cfef_14 : decode cJ1_indexOfChar_4cfef 14 = .ok (.iload 5, 2) := by decide +kernel
theorem dJ1_indexOfChar_4cfef_16 : decode cJ1_indexOfChar_4cfef 16 = .ok (.baload, 1) := by decide +kernel
theorem dJ1_indexOfChar_4cfef_17 : decode cJ1_indexOfChar_4cfef 17 = .ok (.iload 4, 2) := by decide +kernel
theorem dJ1_indexOfChar_4cfef_19 : decode cJ1_indexOfChar_4cfef 19 = .ok (.if_icmp .ne 6, 3) := by decide +kernel
theorem dJ1_indexOfChar_4cfef_22 : decode cJ1_indexOfChar_4cfef 22 = .ok (.iload 5, 2) := by decide +kernel
theorem dJ1_indexOfChar_4cfef_24 : decode cJ1_indexOfChar_4cfef 24 = .ok (.ireturn, 1) := by decide +kernel
theorem dJ1_indexOfChar_4cfef_25 : decode cJ1_indexOfChar_4cfef 25 = .ok (.iinc 5 1, 3) := by decide +kernel
theorem dJ1_indexOfChar_4cfef_28 : decode cJ1_indexOfChar_4cfef 28 = .ok (.goto (-21), 3) := by decide +kernel
theorem dJ1_indexOfChar_4cfef_31 : decode cJ1_indexOfChar_4cfef 31 = .ok (.iconst (-1), 1) := by decide +kernel
theorem dJ1_indexOfChar_4cfef_32 : decode cJ1_indexOfChar_4cfef 32 = .ok (.ireturn, 1) := by decide +kernel
set_option maxRecDepth 20000 in
theorem ggJ2_getChar_3b067_J2_length_9d52b : GoodIn wsJ2_getChar_3b067 wsJ2_length_9d52b := goodIn_r _ [7] (by decide +kernel) (by decide +kernel)
set_option maxRecDepth 20000 in
theorem gJ2_getChar_3b067_J2_length_9d52b : GoodIn wsJ2_getChar_3b067 (va_wsS RJ2 48 yJ2_length_9d52b wsJ2_length_9d52b) := goodIn_app (goodIn_of _ (by decide +kernel)) ggJ2_getChar_3b067_J2_length_9d52b
theorem dJ2_getChar_3b067_0 : decode cJ2_getChar_3b067 0 = .ok (.getstatic 44, 3) := by decide +kernel
theorem dJ2_getChar_3b067_3 : decode cJ2_getChar_3b067 3 = .ok (.ifCond .ne 25, 3) := by decide +kernel
theorem dJ2_getChar_3b067_6 : decode cJ2_getChar_3b067 6 = .ok (.iload_n 1, 1) := by decide +kernel
theorem dJ2_getChar_3b067_7 : decode cJ2_getChar_3b067 7 = .ok (.ifCond .lt 11, 3) := by decide +kernel
theorem dJ2_getChar_3b067_10 : decode cJ2_getChar_3b067 10 = .ok (.iload_n 1, 1) := by decide +kernel
theorem dJ2_getChar_3b067_11 : decode cJ2_getChar_3b067 11 = .ok (.aload_n 0, 1) := by decide +kernel
theorem dJ2_getChar_3b067_12 : decode cJ2_getChar_3b067 12 = .ok (.invokestatic 48, 3) := by decide +kernel
theorem dJ2_getChar_3b067_15 : decode cJ2_getChar_3b067 15 = .ok (.if_icmp .lt 13, 3) := by decide +kernel
theorem dJ2_getChar_3b067_18 : decode cJ2_getChar_3b067 18 = .ok (.new 52, 3) := by decide +kernel
theorem dJ2_getChar_3b067_21 : decode cJ2_getChar_3b067 21 = .ok (.dup, 1) := by decide +kernel
theorem dJ2_getChar_3b067_22 : decode cJ2_getChar_3b067 22 = .ok (.ldc 54, 2) := by decide +kernel
theorem dJ2_getChar_3b067_24 : decode cJ2_getChar_3b067 24 = .ok (.invokespecial 56, 3) := by decide +kernel
theorem dJ2_getChar_3b067_27 : decode cJ2_getChar_3b067 27 = .ok (.athrow, 1) := by decide +kernel
theorem dJ2_getChar_3b067_28 : decode cJ2_getChar_3b067 28 = .ok (.iload_n 1, 1) := by decide +kernel
theorem dJ2_getChar_3b067_29 : decode cJ2_getChar_3b067 29 = .ok (.iconst 1, 1) := by decide +kernel
theorem dJ2_getChar_3b067_30 : decode cJ2_getChar_3b067 30 = .ok (.ishl, 1) := by decide +kernel
theorem dJ2_getChar_3b067_31 : decode cJ2_getChar_3b067 31 = .ok (.istore_n 1, 1) := by decide +kernel
theorem dJ2_getChar_3b067_32 : decode cJ2_getChar_3b067 32 = .ok (.aload_n 0, 1) := by decide +kernel
theorem dJ2_getChar_3b067_33 : decode cJ2_getChar_3b067 33 = .ok (.iload_n 1, 1) := by decide +kernel
theorem dJ2_getChar_3b067_34 : decode cJ2_getChar_3b067 34 = .ok (.iinc 1 1, 3) := by decide +kernel
theorem dJ2_getChar_3b067_37 : decode cJ2_getChar_3b067 37 = .ok (.baload, 1) := by decide +kernel
theorem dJ2_getChar_3b067_38 : decode cJ2_getChar_3b067 38 = .ok (.sipush 255, 3) := by decide +kernel
theorem dJ2_getChar_3b067_41 : decode cJ2_getChar_3b067 41 = .ok (.iand, 1) := by decide +kernel
theorem dJ2_getChar_3b067_42 : decode cJ2_getChar_3b067 42 = .ok (.getstatic 59, 3) := by decide +kernel
theorem dJ2_getChar_3b067_45 : decode cJ2_getChar_3b067 45 = .ok (.ishl, 1) := by decide +kernel
theorem dJ2_getChar_3b067_46 : decode cJ2_getChar_3b067 46 = .ok (.aload_n 0, 1) := by decide +kernel
theorem dJ2_getChar_3b067_47 : decode cJ2_getChar_3b067 47 = .ok (.iload_n 1, 1) := by decide +kernel
theorem dJ2_getChar_3b067_48 : decode cJ2_getChar_3b067 48 = .ok (.baload, 1) := by decide +kernel
theorem dJ2_getChar_3b067_49 : decode cJ2_getChar_3b067 49 = .ok (.sipush 255, 3) := by decide +kernel
theorem dJ2_getChar_3b067_52 : decode cJ2_getChar_3b067 52 = .ok (.iand, 1) := by decide +kernel
theorem dJ2_getChar_3b067_53 : decode cJ2_getChar_3b067 53 = .ok (.getstatic 63, 3) := by decide +kernel
theorem dJ2_getChar_3b067_56 : decode cJ2_getChar_3b067 56 = .ok (.ishl, 1) := by decide +kernel
theorem dJ2_getChar_3b067_57 : decode cJ2_getChar_3b067 57 = .ok (.ior, 1) := by decide +kernel
theorem dJ2_getChar_3b067_58 : decode cJ2_getChar_3b067 58 = .ok (.i2c, 1) := by decide +kernel
theorem dJ2_getChar_3b067_59 : decode cJ2_getChar_3b067 59 = .ok (.ireturn, 1) := by decide +kernel
theorem dJ2_length_9d52b_0 : decode cJ2_length_9d52b 0 = .ok (.aload_n 0, 1) := by decide +kernel
theorem dJ2_length_9d52b_1 : decode cJ2_length_9d52b 1 = .ok (.arraylength, 1) := by decide +kernel
theorem dJ2_length_9d52b_2 : decode cJ2_length_9d52b 2 = .ok (.iconst 1, 1) := by decide +kernel
theorem dJ2_length_9d52b_3 : decode cJ2_length_9d52b 3 = .ok (.ishr, 1) := by decide +kernel
theorem dJ2_length_9d52b_4 : decode cJ2_length_9d52b 4 = .ok (.ireturn, 1) := by decide +kernel
set_option maxRecDepth 20000 in
theorem ggJ2_indexOf_4cfef_J2_indexOfChar_4cfef : GoodIn wsJ2_indexOf_4cfef wsJ2_indexOfChar_4cfef := goodIn_r _ [12, 13, 14, 11, 15, 16, 17, 18, 19, 20, 21, 22, 23, 24, 25, 26, 27, 28, 29, 30, 31, 32, 33, 34, 35, 36] (by decide +kernel) (by decide +kernel)
set_option maxRecDepth 20000 in
theorem gJ2_indexOf_4cfef_J2_indexOfChar_4cfef : GoodIn wsJ2_indexOf_4cfef (va_wsS RJ2 228 yJ2_indexOfChar_4cfef wsJ2_indexOfChar_4cfef) := goodIn_app (goodIn_of _ (by decide +kernel)) ggJ2_indexOf_4cfef_J2_indexOfChar_4cfef
set_option maxRecDepth 20000 in
theorem ggJ2_indexOf_4cfef_J2_indexOfSupplementary_4cfef : GoodIn wsJ2_indexOf_4cfef wsJ2_indexOfSupplementary_4cfef := goodIn_r _ [39, 40, 41, 42, 43, 44, 45, 46, 47, 48, 49, 50, 51, 13, 14, 11, 15, 16, 17, 18, 19, 20, 21, 22, 23, 24, 25, 26, 27, 31, 32, 33, 34, 35, 36] (by decide +kernel) (by decide +kernel)
set_option maxRecDepth 20000 in
theorem gJ2_indexOf_4cfef_J2_indexOfSupplementary_4cfef : GoodIn wsJ2_indexOf_4cfef (va_wsS RJ2 232 yJ2_indexOfSupplementary_4cfef wsJ2_indexOfSupplementary_4cfef) := goodIn_app (goodIn_of _ (by decide +kernel)) ggJ2_indexOf_4cfef_J2_indexOfSupplementary_4cfef
theorem dJ2_indexOf_4cfef_0 : decode cJ2_indexOf_4cfef 0 = .ok (.iload_n 2, 1) := by decide +kernel
theorem dJ2_indexOf_4cfef_1 : decode cJ2_indexOf_4cfef 1 = .ok (.iconst 0, 1) := by decide +kernel
theorem dJ2_indexOf_4cfef_2 : decode cJ2_indexOf_4cfef 2 = .ok (.invokestatic 224, 3) := by decide +kernel
theorem dJ2_indexOf_4cfef_5 : decode cJ2_indexOf_4cfef 5 = .ok (.istore_n 2, 1) := by decide +kernel
theorem dJ2_indexOf_4cfef_6 : decode cJ2_indexOf_4cfef 6 = .ok (.iload_n 3, 1) := by decide +kernel
theorem dJ2_indexOf_4cfef_7 : decode cJ2_indexOf_4cfef 7 = .ok (.aload_n 0, 1) := by decide +kernel
theorem dJ2_indexOf_4cfef_8 : decode cJ2_indexOf_4cfef 8 = .ok (.arraylength, 1) := by decide +kernel
theorem dJ2_indexOf_4cfef_9 : decode cJ2_indexOf_4cfef 9 = .ok (.iconst 1, 1) := by decide +kernel
theorem dJ2_indexOf_4cfef_10 : decode cJ2_indexOf_4cfef 10 = .ok (.ishr, 1) := by decide +kernel
theorem dJ2_indexOf_4cfef_11 : decode cJ2_indexOf_4cfef 11 = .ok (.invokestatic 183, 3) := by decide +kernel
theorem dJ2_indexOf_4cfef_14 : decode cJ2_indexOf_4cfef 14 = .ok (.istore_n 3, 1) := by decide +kernel
theorem dJ2_indexOf_4cfef_15 : decode cJ2_indexOf_4cfef 15 = .ok (.iload_n 2, 1) := by decide +kernel
theorem dJ2_indexOf_4cfef_16 : decode cJ2_indexOf_4cfef 16 = .ok (.iload_n 3, 1) := by decide +kernel
theorem dJ2_indexOf_4cfef_17 : decode cJ2_indexOf_4cfef 17 = .ok (.if_icmp .lt 5, 3) := by decide +kernel
theorem dJ2_indexOf_4cfef_20 : decode cJ2_indexOf_4cfef 20 = .ok (.iconst (-1), 1) := by decide +kernel
theorem dJ2_indexOf_4cfef_21 : decode cJ2_indexOf_4cfef 21 = .ok (.ireturn, 1) := by decide +kernel
theorem dJ2_indexOf_4cfef_22 : decode cJ2_indexOf_4cfef 22 = .ok (.iload_n 1, 1) := by decide +kernel
theorem dJ2_indexOf_4cfef_23 : decode cJ2_indexOf_4cfef 23 = .ok (.ldc 227, 2) := by decide +kernel
theorem dJ2_indexOf_4cfef_25 : decode cJ2_indexOf_4cfef 25 = .ok (.if_icmp .ge 11, 3) := by decide +kernel
theorem dJ2_indexOf_4cfef_28 : decode cJ2_indexOf_4cfef 28 = .ok (.aload_n 0, 1) := by decide +kernel
theorem dJ2_indexOf_4cfef_29 : decode cJ2_indexOf_4cfef 29 = .ok (.iload_n 1, 1) := by decide +kernel
theorem dJ2_indexOf_4cfef_30 : decode cJ2_indexOf_4cfef 30 = .ok (.iload_n 2, 1) := by decide +kernel
theorem dJ2_indexOf_4cfef_31 : decode cJ2_indexOf_4cfef 31 = .ok (.iload_n 3, 1) := by decide +kernel
theorem dJ2_indexOf_4cfef_32 : decode cJ2_indexOf_4cfef 32 = .ok (.invokestatic 228, 3) := by decide +kernel
theorem dJ2_indexOf_4cfef_35 : decode cJ2_indexOf_4cfef 35 = .ok (.ireturn, 1) := by decide +kernel
theorem dJ2_indexOf_4cfef_36 : decode cJ2_indexOf_4cfef 36 = .ok (.aload_n 0, 1) := by decide +kernel
theorem dJ2_indexOf_4cfef_37 : decode cJ2_indexOf_4cfef 37 = .ok (.iload_n 1, 1) := by decide +kernel
theorem dJ2_indexOf_4cfef_38 : decode cJ2_indexOf_4cfef 38 = .ok (.iload_n 2, 1) := by decide +kernel
theorem dJ2_indexOf_4cfef_39 : decode cJ2_indexOf_4cfef 39 = .ok (.iload_n 3, 1) := by decide +kernel
theorem dJ2_indexOf_4cfef_40 : decode cJ2_indexOf_4cfef 40 = .ok (.invokestatic 232, 3) := by decide +kernel
theorem dJ2_indexOf_4cfef_43 : decode cJ2_indexOf_4cfef 43 = .ok (.ireturn, 1) := by decide +kernel
set_option maxRecDepth 20000 in
theorem ggJ2_indexOfChar_4cfef_J2_checkBoundsBeginEnd_d044e : GoodIn wsJ2_indexOfChar_4cfef wsJ2_checkBoundsBeginEnd_d044e := goodIn_r _ [4, 5, 6, 3, 7, 8, 9, 10, 11, 12, 13, 14, 15, 16] (by decide +kernel) (by decide +kernel)
set_option maxRecDepth 20000 in
theorem gJ2_indexOfChar_4cfef_J2_checkBoundsBeginEnd_d044e : GoodIn wsJ2_indexOfChar_4cfef (va_wsS RJ2 96 yJ2_checkBoundsBeginEnd_d044e wsJ2_checkBoundsBeginEnd_d044e) := goodIn_app (goodIn_of _ (by decide +kernel)) ggJ2_indexOfChar_4cfef_J2_checkBoundsBeginEnd_d044e
set_option maxRecDepth 20000 in
theorem ggJ2_indexOfChar_4cfef_J2_indexOfCharUnsafe_4cfef : GoodIn wsJ2_indexOfChar_4cfef wsJ2_indexOfCharUnsafe_4cfef := goodIn_r _ [19, 20, 21, 3, 22, 23, 24, 25, 5, 6, 7] (by decide +kernel) (by decide +kernel)
set_option maxRecDepth 20000 in
theorem gJ2_indexOfChar_4cfef_J2_indexOfCharUnsafe_4cfef : GoodIn wsJ2_indexOfChar_4cfef (va_wsS RJ2 244 yJ2_indexOfCharUnsafe_4cfef wsJ2_indexOfCharUnsafe_4cfef) := goodIn_app (goodIn_of _ (by decide +kernel)) ggJ2_indexOfChar_4cfef_J2_indexOfCharUnsafe_4cfef
theorem dJ2_indexOfChar_4cfef_0 : decode cJ2_indexOfChar_4cfef 0 = .ok (.iload_n 2, 1) := by decide +kernel
theorem dJ2_indexOfChar_4cfef_1 : decode cJ2_indexOfChar_4cfef 1 = .ok (.iload_n 3, 1) := by decide +kernel
theorem dJ2_indexOfChar_4cfef_2 : decode cJ2_indexOfChar_4cfef 2 = .ok (.aload_n 0, 1) := by decide +kernel
theorem dJ2_indexOfChar_4cfef_3 : decode cJ2_indexOfChar_4cfef 3 = .ok (.invokestatic 96, 3) := by decide +kernel
theorem dJ2_indexOfChar_4cfef_6 : decode cJ2_indexOfChar_4cfef 6 = .ok (.aload_n 0, 1) := by decide +kernel
theorem dJ2_indexOfChar_4cfef_7 : decode cJ2_indexOfChar_4cfef 7 = .ok (.iload_n 1, 1) := by decide +kernel
theorem dJ2_indexOfChar_4cfef_8 : decode cJ2_indexOfChar_4cfef 8 = .ok (.iload_n 2, 1) := by decide +kernel
theorem dJ2_indexOfChar_4cfef_9 : decode cJ2_indexOfChar_4cfef 9 = .ok (.iload_n 3, 1) := by decide +kernel
theorem dJ2_indexOfChar_4cfef_10 : decode cJ2_indexOfChar_4cfef 10 = .ok (.invokestatic 244, 3) := by decide +kernel
theorem dJ2_indexOfChar_4cfef_13 : decode cJ2_indexOfChar_4cfef 13 = .ok (.ireturn, 1) := by decide +kernel
set_option maxRecDepth 20000 in
theorem ggJ2_indexOfCharUnsafe_4cfef_J2_getChar_3b067 : GoodIn wsJ2_indexOfCharUnsafe_4cfef wsJ2_getChar_3b067 := goodIn_r _ [4, 5, 6, 7, 8, 9, 3, 10] (by decide +kernel) (by decide +kernel)
set_option maxRecDepth 20000 in
theorem gJ2_indexOfCharUnsafe_4cfef_J2_getChar_3b067 : GoodIn wsJ2_indexOfCharUnsafe_4cfef (va_wsS RJ2 71 yJ2_getChar_3b067 wsJ2_getChar_3b067) := goodIn_app (goodIn_of _ (by decide +kernel)) ggJ2_indexOfCharUnsafe_4cfef_J2_getChar_3b067
theorem dJ2_indexOfCharUnsafe_4cfef_0 : decode cJ2_indexOfCharUnsafe_4cfef 0 = .ok (.iload_n 2, 1) := by decide +kernel
theorem dJ2_indexOfCharUnsafe_4cfef_1 : decode cJ2_indexOfCharUnsafe_4cfef 1 = .ok (.istore 4, 2) := by decide +kernel
theorem dJ2_indexOfCharUnsafe_4cfef_3 : decode cJ2_indexOfCharUnsafe_4cfef 3 = .ok (.iload 4, 2) := by decide +kernel
theorem dJ2_indexOfCharUnsafe_4cfef_5 : decode cJ2_indexOfCharUnsafe_4cfef 5 = .ok (.iload_n 3, 1) := by decide +kernel
theorem dJ2_indexOfCharUnsafe_4cfef_6 : decode cJ2_indexOfCharUnsafe_4cfef 6 = .ok (.if_icmp .ge 22, 3) := by decide +kernel
theorem dJ2_indexOfCharUnsafe_4cfef_9 : decode cJ2_indexOfCharUnsafe_4cfef 9 = .ok (.aload_n 0, 1) := by decide +kernel
theorem dJ2_indexOfCharUnsafe_4cfef_10 : decode cJ2_indexOfCharUnsafe_4cfef 10 = .ok (.iload 4, 2) := by decide +kernel
theorem dJ2_indexOfCharUnsafe_4cfef_12 : decode cJ2_indexOfCharUnsafe_4cfef 12 = .ok (.invokestatic 71, 3) := by decide +kernel
theorem dJ2_indexOfCharUnsafe_4cfef_15 : decode cJ2_indexOfCharUnsafe_4cfef 15 = .ok (.iload_n 1, 1) := by decide +kernel
theorem dJ2_indexOfCharUnsafe_4cfef_16 : decode cJ2_indexOfCharUnsafe_4cfef 16 = .ok (.if_icmp .ne 6, 3) := by decide +kernel
theorem dJ2_indexOfCharUnsafe_4cfef_19 : decode cJ2_indexOfCharUnsafe_4cfef 19 = .ok (.iload 4, 2) := by decide +kernel
theorem dJ2_indexOfCharUnsafe_4cfef_21 : decode cJ2_indexOfCharUnsafe_4cfef 21 = .ok (.ireturn, 1) := by decide +kernel
theorem dJ2_indexOfCharUnsafe_4cfef_22 : decode cJ2_indexOfCharUnsafe_4cfef 22 = .ok (.iinc 4 1, 3) := by decide +kernel
theorem dJ2_indexOfCharUnsafe_4cfef_25 : decode cJ2_indexOfCharUnsafe_4cfef 25 = .ok (.goto (-22), 3) := by decide +kernel
theorem dJ2_indexOfCharUnsafe_4cfef_28 : decode cJ2_indexOfCharUnsafe_4cfef 28 = .ok (.iconst (-1), 1) := by decide +kernel
theorem dJ2_indexOfCharUnsafe_4cfef_29 : decode cJ2_indexOfCharUnsafe_4cfef 29 = .ok (.ireturn, 1) := by decide +kernel
set_option maxRecDepth 20000 in
theorem ggJ2_indexOfSupplementary_4cfef_J11_isValidCodePoint_9a6ad : GoodIn wsJ2_indexOfSupplementary_4cfef wsJ11_isValidCodePoint_9a6ad := goodIn_r _ [4] (by decide +kernel) (by decide +kernel)
set_option maxRecDepth 20000 in
theorem gJ2_indexOfSupplementary_4cfef_J11_isValidCodePoint_9a6ad : GoodIn wsJ2_indexOfSupplementary_4cfef (va_wsS RJ2 164 yJ11_isValidCodePoint_9a6ad wsJ11_isValidCodePoint_9a6ad) := goodIn_app (goodIn_of _ (by decide +kernel)) ggJ2_indexOfSupplementary_4cfef_J11_isValidCodePoint_9a6ad
set_option maxRecDepth 20000 in
theorem ggJ2_indexOfSupplementary_4cfef_J11_highSurrogate_5068e : GoodIn wsJ2_indexOfSupplementary_4cfef wsJ11_highSurrogate_5068e := goodIn_r _ [7, 8] (by decide +kernel) (by decide +kernel)
set_option maxRecDepth 20000 in
theorem gJ2_indexOfSupplementary_4cfef_J11_highSurrogate_5068e : GoodIn wsJ2_indexOfSupplementary_4cfef (va_wsS RJ2 157 yJ11_highSurrogate_5068e wsJ11_highSurrogate_5068e) := goodIn_app (goodIn_of _ (by decide +kernel)) ggJ2_indexOfSupplementary_4cfef_J11_highSurrogate_5068e
set_option maxRecDepth 20000 in
theorem ggJ2_indexOfSupplementary_4cfef_J11_lowSurrogate_5068e : GoodIn wsJ2_indexOfSupplementary_4cfef wsJ11_lowSurrogate_5068e := goodIn_r _ [11, 12] (by decide +kernel) (by decide +kernel)
set_option maxRecDepth 20000 in
theorem gJ2_indexOfSupplementary_4cfef_J11_lowSurrogate_5068e : GoodIn wsJ2_indexOfSupplementary_4cfef (va_wsS RJ2 161 yJ11_lowSurrogate_5068e wsJ11_lowSurrogate_5068e) := goodIn_app (goodIn_of _ (by decide +kernel)) ggJ2_indexOfSupplementary_4cfef_J11_lowSurrogate_5068e
set_option maxRecDepth 20000 in
theorem ggJ2_indexOfSupplementary_4cfef_J2_checkBoundsBeginEnd_d044e : GoodIn wsJ2_indexOfSupplementary_4cfef wsJ2_checkBoundsBeginEnd_d044e := goodIn_r _ [16, 17, 18, 15, 19, 20, 21, 22, 23, 24, 25, 26, 27, 28] (by decide +kernel) (by decide +kernel)
set_option maxRecDepth 20000 in
theorem gJ2_indexOfSupplementary_4cfef_J2_checkBoundsBeginEnd_d044e : GoodIn wsJ2_indexOfSupplementary_4cfef (va_wsS RJ2 96 yJ2_checkBoundsBeginEnd_d044e wsJ2_checkBoundsBeginEnd_d044e) := goodIn_app (goodIn_of _ (by decide +kernel)) ggJ2_indexOfSupplementary_4cfef_J2_checkBoundsBeginEnd_d044e
set_option maxRecDepth 20000 in
theorem ggJ2_indexOfSupplementary_4cfef_J2_getChar_3b067 : GoodIn wsJ2_indexOfSupplementary_4cfef wsJ2_getChar_3b067 := goodIn_r _ [31, 32, 33, 34, 17, 18, 15, 19] (by decide +kernel) (by decide +kernel)
set_option maxRecDepth 20000 in
theorem gJ2_indexOfSupplementary_4cfef_J2_getChar_3b067 : GoodIn wsJ2_indexOfSupplementary_4cfef (va_wsS RJ2 71 yJ2_getChar_3b067 wsJ2_getChar_3b067) := goodIn_app (goodIn_of _ (by decide +kernel)) ggJ2_indexOfSupplementary_4cfef_J2_getChar_3b067
theorem dJ2_indexOfSupplementary_4cfef_0 : decode cJ2_indexOfSupplementary_4cfef 0 = .ok (.iload_n 1, 1) := by decide +kernel
theorem dJ2_indexOfSupplementary_4cfef_1 : decode cJ2_indexOfSupplementary_4cfef 1 = .ok (.invokestatic 164, 3) := by decide +kernel
theorem dJ2_indexOfSupplementary_4cfef_4 : decode cJ2_indexOfSupplementary_4cfef 4 = .ok (.ifCond .eq 65, 3) := by decide +kernel
theorem dJ2_indexOfSupplementary_4cfef_7 : decode cJ2_indexOfSupplementary_4cfef 7 = .ok (.iload_n 1, 1) := by decide +kernel
theorem dJ2_indexOfSupplementary_4cfef_8 : decode cJ2_indexOfSupplementary_4cfef 8 = .ok (.invokestatic 157, 3) := by decide +kernel
theorem dJ2_indexOfSupplementary_4cfef_11 : decode cJ2_indexOfSupplementary_4cfef 11 = .ok (.istore 4, 2) := by decide +kernel
theorem dJ2_indexOfSupplementary_4cfef_13 : decode cJ2_indexOfSupplementary_4cfef 13 = .ok (.iload_n 1, 1) := by decide +kernel
theorem dJ2_indexOfSupplementary_4cfef_14 : decode cJ2_indexOfSupplementary_4cfef 14 = .ok (.invokestatic 161, 3) := by decide +kernel
theorem dJ2_indexOfSupplementary_4cfef_17 : decode cJ2_indexOfSupplementary_4cfef 17 = .ok (.istore 5, 2) := by decide +kernel
theorem dJ2_indexOfSupplementary_4cfef_19 : decode cJ2_indexOfSupplementary_4cfef 19 = .ok (.iload_n 2, 1) := by decide +kernel
theorem dJ2_indexOfSupplementary_4cfef_20 : decode cJ2_indexOfSupplementary_4cfef 20 = .ok (.iload_n 3, 1) := by decide +kernel
theorem dJ2_indexOfSupplementary_4cfef_21 : decode cJ2_indexOfSupplementary_4cfef 21 = .ok (.aload_n 0, 1) := by decide +kernel
theorem dJ2_indexOfSupplementary_4cfef_22 : decode cJ2_indexOfSupplementary_4cfef 22 = .ok (.invokestatic 96, 3) := by decide +kernel
theorem dJ2_indexOfSupplementary_4cfef_25 : decode cJ2_indexOfSupplementary_4cfef 25 = .ok (.iload_n 2, 1) := by decide +kernel
theorem dJ2_indexOfSupplementary_4cfef_26 : decode cJ2_indexOfSupplementary_4cfef 26 = .ok (.istore 6, 2) := by decide +kernel
theorem dJ2_indexOfSupplementary_4cfef_28 : decode cJ2_indexOfSupplementary_4cfef 28 = .ok (.iload 6, 2) := by decide +kernel
theorem dJ2_indexOfSupplementary_4cfef_30 : decode cJ2_indexOfSupplementary_4cfef 30 = .ok (.iload_n 3, 1) := by decide +kernel
theorem dJ2_indexOfSupplementary_4cfef_31 : decode cJ2_indexOfSupplementary_4cfef 31 = .ok (.iconst 1, 1) := by decide +kernel
theorem dJ2_indexOfSupplementary_4cfef_32 : decode cJ2_indexOfSupplementary_4cfef 32 = .ok (.isub, 1) := by decide +kernel
theorem dJ2_indexOfSupplementary_4cfef_33 : decode cJ2_indexOfSupplementary_4cfef 33 = .ok (.if_icmp .ge 36, 3) := by decide +kernel
theorem dJ2_indexOfSupplementary_4cfef_36 : decode cJ2_indexOfSupplementary_4cfef 36 = .ok (.aload_n 0, 1) := by decide +kernel
theorem dJ2_indexOfSupplementary_4cfef_37 : decode cJ2_indexOfSupplementary_4cfef 37 = .ok (.iload 6, 2) := by decide +kernel
theorem dJ2_indexOfSupplementary_4cfef_39 : decode cJ2_indexOfSupplementary_4cfef 39 = .ok (.invokestatic 71, 3) := by decide +kernel
theorem dJ2_indexOfSupplementary_4cfef_42 : decode cJ2_indexOfSupplementary_4cfef 42 = .ok (.iload 4, 2) := by decide +kernel
theorem dJ2_indexOfSupplementary_4cfef_44 : decode cJ2_indexOfSupplementary_4cfef 44 = .ok (.if_icmp .ne 19, 3) := by decide +kernel
theorem dJ2_indexOfSupplementary_4cfef_47 : decode cJ2_indexOfSupplementary_4cfef 47 = .ok (.aload_n 0, 1) := by decide +kernel
theorem dJ2_indexOfSupplementary_4cfef_48 : decode cJ2_indexOfSupplementary_4cfef 48 = .ok (.iload 6, 2) := by decide +kernel
theorem dJ2_indexOfSupplementary_4cfef_50 : decode cJ2_indexOfSupplementary_4cfef 50 = .ok (.iconst 1, 1) := by decide +kernel
theorem dJ2_indexOfSupplementary_4cfef_51 : decode cJ2_indexOfSupplementary_4cfef 51 = .ok (.iadd, 1) := by decide +kernel
theorem dJ2_indexOfSupplementary_4cfef_52 : decode cJ2_indexOfSupplementary_4cfef 52 = .ok (.invokestatic 71, 3) := by decide +kernel
theorem dJ2_indexOfSupplementary_4cfef_55 : decode cJ2_indexOfSupplementary_4cfef 55 = .ok (.iload 5, 2) := by decide +kernel
theorem dJ2_indexOfSupplementary_4cfef_57 : decode cJ2_indexOfSupplementary_4cfef 57 = .ok (.if_icmp .ne 6, 3) := by decide +kernel
theorem dJ2_indexOfSupplementary_4cfef_60 : decode cJ2_indexOfSupplementary_4cfef 60 = .ok (.iload 6, 2) := by decide +kernel
theorem dJ2_indexOfSupplementary_4cfef_62 : decode cJ2_indexOfSupplementary_4cfef 62 = .ok (.ireturn, 1) := by decide +kernel
theorem dJ2_indexOfSupplementary_4cfef_63 : decode cJ2_indexOfSupplementary_4cfef 63 = .ok (.iinc 6 1, 3) := by decide +kernel
theorem dJ2_indexOfSupplementary_4cfef_66 : decode cJ2_indexOfSupplementary_4cfef 66 = .ok (.goto (-38), 3) := by decide +kernel
theorem dJ2_indexOfSupplementary_4cfef_69 : decode cJ2_indexOfSupplementary_4cfef 69 = .ok (.iconst (-1), 1) := by decide +kernel
theorem dJ2_indexOfSupplementary_4cfef_70 : decode cJ2_indexOfSupplementary_4cfef 70 = .ok (.ireturn, 1) := by decide +kernel
set_option maxRecDepth 20000 in
theorem ggJ2_checkBoundsBeginEnd_d044e_J2_length_9d52b : GoodIn wsJ2_checkBoundsBeginEnd_d044e wsJ2_length_9d52b := goodIn_r _ [4] (by decide +kernel) (by decide +kernel)
set_option maxRecDepth 20000 in
theorem gJ2_checkBoundsBeginEnd_d044e_J2_length_9d52b : GoodIn wsJ2_checkBoundsBeginEnd_d044e (va_wsS RJ2 48 yJ2_length_9d52b wsJ2_length_9d52b) := goodIn_app (goodIn_of _ (by decide +kernel)) ggJ2_checkBoundsBeginEnd_d044e_J2_length_9d52b
set_option maxRecDepth 20000 in
theorem ggJ2_checkBoundsBeginEnd_d044e_J0_checkBoundsBeginEnd_23922 : GoodIn wsJ2_checkBoundsBeginEnd_d044e wsJ0_checkBoundsBeginEnd_23922 := goodIn_r _ [8, 9, 10, 11, 12, 13] (by decide +kernel) (by decide +kernel)
set_option maxRecDepth 20000 in
theorem gJ2_checkBoundsBeginEnd_d044e_J0_checkBoundsBeginEnd_23922 : GoodIn wsJ2_checkBoundsBeginEnd_d044e (va_wsS RJ2 241 yJ0_checkBoundsBeginEnd_23922 wsJ0_checkBoundsBeginEnd_23922) := goodIn_app (goodIn_of _ (by decide +kernel)) ggJ2_checkBoundsBeginEnd_d044e_J0_checkBoundsBeginEnd_23922
theorem dJ2_checkBoundsBeginEnd_d044e_0 : decode cJ2_checkBoundsBeginEnd_d044e 0 = .ok (.iload_n 0, 1) := by decide +kernel
theorem dJ2_checkBoundsBeginEnd_d044e_1 : decode cJ2_checkBoundsBeginEnd_d044e 1 = .ok (.iload_n 1, 1) := by decide +kernel
theorem dJ2_checkBoundsBeginEnd_d044e_2 : decode cJ2_checkBoundsBeginEnd_d044e 2 = .ok (.aload_n 2, 1) := by decide +kernel
theorem dJ2_checkBoundsBeginEnd_d044e_3 : decode cJ2_checkBoundsBeginEnd_d044e 3 = .ok (.invokestatic 48, 3) := by decide +kernel
theorem dJ2_checkBoundsBeginEnd_d044e_6 : decode cJ2_checkBoundsBeginEnd_d044e 6 = .ok (.invokestatic 241, 3) := by decide +kernel
theorem dJ2_checkBoundsBeginEnd_d044e_9 : decode cJ2_checkBoundsBeginEnd_d044e 9 = .ok (.return_, 1) := by decide +kernel
theorem dJ3_checkFromToIndex_8c36e_0 : decode cJ3_checkFromToIndex_8c36e 0 = .ok (.iload_n 0, 1) := by decide +kernel
theorem dJ3_checkFromToIndex_8c36e_1 : decode cJ3_checkFromToIndex_8c36e 1 = .ok (.ifCond .lt 13, 3) := by decide +kernel
theorem dJ3_checkFromToIndex_8c36e_4 : decode cJ3_checkFromToIndex_8c36e 4 = .ok (.iload_n 0, 1) := by decide +kernel
theorem dJ3_checkFromToIndex_8c36e_5 : decode cJ3_checkFromToIndex_8c36e 5 = .ok (.iload_n 1, 1) := by decide +kernel
theorem dJ3_checkFromToIndex_8c36e_6 : decode cJ3_checkFromToIndex_8c36e 6 = .ok (.if_icmp .gt 8, 3) := by decide +kernel
theorem dJ3_checkFromToIndex_8c36e_9 : decode cJ3_checkFromToIndex_8c36e 9 = .ok (.iload_n 1, 1) := by decide +kernel
theorem dJ3_checkFromToIndex_8c36e_10 : decode cJ3_checkFromToIndex_8c36e 10 = .ok (.iload_n 2, 1) := by decide +kernel
theorem dJ3_checkFromToIndex_8c36e_11 : decode cJ3_checkFromToIndex_8c36e 11 = .ok (.if_icmp .le 11, 3) := by decide +kernel
theorem dJ3_checkFromToIndex_8c36e_14 : decode cJ3_checkFromToIndex_8c36e 14 = .ok (.aload_n 3, 1) := by decide +kernel
theorem dJ3_checkFromToIndex_8c36e_15 : decode cJ3_checkFromToIndex_8c36e 15 = .ok (.iload_n 0, 1) := by decide +kernel
theorem dJ3_checkFromToIndex_8c36e_16 : decode cJ3_checkFromToIndex_8c36e 16 = .ok (.iload_n 1, 1) := by decide +kernel
theorem dJ3_checkFromToIndex_8c36e_17 : decode cJ3_checkFromToIndex_8c36e 17 = .ok (.iload_n 2, 1) := by decide +kernel
theorem dJ3_checkFromToIndex_8c36e_18 : decode cJ3_checkFromToIndex_8c36e 18 = .ok (.invokestatic 99, 3) := by decide +kernel
theorem dJ3_checkFromToIndex_8c36e_21 : decode cJ3_checkFromToIndex_8c36e 21 = .ok (.athrow, 1) := by decide +kernel
theorem dJ3_checkFromToIndex_8c36e_22 : decode cJ3_checkFromToIndex_8c36e 22 = .ok (.iload_n 0, 1) := by decide +kernel
theorem dJ3_checkFromToIndex_8c36e_23 : decode cJ3_checkFromToIndex_8c36e 23 = .ok (.ireturn, 1) := by decide +kernel
end
section
theorem zz_last : True := trivial
end
