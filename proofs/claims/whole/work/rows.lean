section
-- ===== PART A: goes FIRST, ahead of the names: the tables' words, and 'selects' of the private methods out of them =====
/-- a private method of a class that the tables say can be made, by its rows of tables_1 -/
def lw_okq (q : MethodName × Nat) : Prop := (q.1.cls ≠ "java/lang/invoke/MethodHandle" ∧ q.1.cls ≠ "java/lang/invoke/VarHandle") ∧ Cond.instantiable q.1.cls q.2 ∈ tables_1 ∧ Cond.privateMethod q.1 ∈ tables_1 ∧ Cond.instanceMethod q.1 ∈ tables_1
theorem lw_p0 : lw_okq (⟨"NoonOnABarrow$Land", "measure", "()V"⟩, 9) := ⟨⟨by decide +kernel, by decide +kernel⟩, List.mem_of_getElem? (i := 31) (by decide +kernel), List.mem_of_getElem? (i := 440) (by decide +kernel), List.mem_of_getElem? (i := 441) (by decide +kernel)⟩
theorem lw_p1 : lw_okq (⟨"NoonOnABarrow$Land", "shorten", "(II)V"⟩, 9) := ⟨⟨by decide +kernel, by decide +kernel⟩, List.mem_of_getElem? (i := 31) (by decide +kernel), List.mem_of_getElem? (i := 444) (by decide +kernel), List.mem_of_getElem? (i := 445) (by decide +kernel)⟩
theorem lw_p2 : lw_okq (⟨"NoonOnABarrow$Steps", "dayAt", "(I)LNoonOnABarrow$Day;"⟩, 3) := ⟨⟨by decide +kernel, by decide +kernel⟩, List.mem_of_getElem? (i := 167) (by decide +kernel), List.mem_of_getElem? (i := 492) (by decide +kernel), List.mem_of_getElem? (i := 493) (by decide +kernel)⟩
theorem lw_p3 : lw_okq (⟨"NoonOnABarrow$Laws", "rules", "(I)Z"⟩, 5) := ⟨⟨by decide +kernel, by decide +kernel⟩, List.mem_of_getElem? (i := 287) (by decide +kernel), List.mem_of_getElem? (i := 512) (by decide +kernel), List.mem_of_getElem? (i := 513) (by decide +kernel)⟩
theorem lw_p4 : lw_okq (⟨"NoonOnABarrow$Laws", "nameHere", "(LNoonOnABarrow$Day;I)V"⟩, 5) := ⟨⟨by decide +kernel, by decide +kernel⟩, List.mem_of_getElem? (i := 287) (by decide +kernel), List.mem_of_getElem? (i := 527) (by decide +kernel), List.mem_of_getElem? (i := 528) (by decide +kernel)⟩
theorem lw_p5 : lw_okq (⟨"NoonOnABarrow$Laws", "said", "(I)I"⟩, 5) := ⟨⟨by decide +kernel, by decide +kernel⟩, List.mem_of_getElem? (i := 287) (by decide +kernel), List.mem_of_getElem? (i := 537) (by decide +kernel), List.mem_of_getElem? (i := 538) (by decide +kernel)⟩
theorem lw_p6 : lw_okq (⟨"NoonOnABarrow$Laws", "lay", "(I)V"⟩, 5) := ⟨⟨by decide +kernel, by decide +kernel⟩, List.mem_of_getElem? (i := 287) (by decide +kernel), List.mem_of_getElem? (i := 557) (by decide +kernel), List.mem_of_getElem? (i := 558) (by decide +kernel)⟩
theorem lw_p7 : lw_okq (⟨"NoonOnABarrow$Laws", "lift", "()I"⟩, 5) := ⟨⟨by decide +kernel, by decide +kernel⟩, List.mem_of_getElem? (i := 287) (by decide +kernel), List.mem_of_getElem? (i := 561) (by decide +kernel), List.mem_of_getElem? (i := 562) (by decide +kernel)⟩
theorem lw_p8 : lw_okq (⟨"NoonOnABarrow$Doings", "fallsInDebt", "(LNoonOnABarrow$Day;I)Z"⟩, 2) := ⟨⟨by decide +kernel, by decide +kernel⟩, List.mem_of_getElem? (i := 310) (by decide +kernel), List.mem_of_getElem? (i := 616) (by decide +kernel), List.mem_of_getElem? (i := 617) (by decide +kernel)⟩
theorem lw_p9 : lw_okq (⟨"NoonOnABarrow$Doings", "setOffAsDrawn", "(LNoonOnABarrow$Day;)V"⟩, 2) := ⟨⟨by decide +kernel, by decide +kernel⟩, List.mem_of_getElem? (i := 310) (by decide +kernel), List.mem_of_getElem? (i := 659) (by decide +kernel), List.mem_of_getElem? (i := 660) (by decide +kernel)⟩
theorem lw_p10 : lw_okq (⟨"NoonOnABarrow$Tape", "byteAt", "(I)I"⟩, 6) := ⟨⟨by decide +kernel, by decide +kernel⟩, List.mem_of_getElem? (i := 232) (by decide +kernel), List.mem_of_getElem? (i := 695) (by decide +kernel), List.mem_of_getElem? (i := 696) (by decide +kernel)⟩
theorem lw_p11 : lw_okq (⟨"NoonOnABarrow$Tape", "cutWord", "(I)I"⟩, 6) := ⟨⟨by decide +kernel, by decide +kernel⟩, List.mem_of_getElem? (i := 232) (by decide +kernel), List.mem_of_getElem? (i := 702) (by decide +kernel), List.mem_of_getElem? (i := 703) (by decide +kernel)⟩
theorem lw_p12 : lw_okq (⟨"NoonOnABarrow$Tape", "wordOf", "(II)I"⟩, 6) := ⟨⟨by decide +kernel, by decide +kernel⟩, List.mem_of_getElem? (i := 232) (by decide +kernel), List.mem_of_getElem? (i := 706) (by decide +kernel), List.mem_of_getElem? (i := 707) (by decide +kernel)⟩
theorem lw_p13 : lw_okq (⟨"NoonOnABarrow$Tape", "note", "(III)V"⟩, 6) := ⟨⟨by decide +kernel, by decide +kernel⟩, List.mem_of_getElem? (i := 232) (by decide +kernel), List.mem_of_getElem? (i := 759) (by decide +kernel), List.mem_of_getElem? (i := 760) (by decide +kernel)⟩
theorem lw_p14 : lw_okq (⟨"NoonOnABarrow$Tape", "cutNumber", "(I)I"⟩, 6) := ⟨⟨by decide +kernel, by decide +kernel⟩, List.mem_of_getElem? (i := 232) (by decide +kernel), List.mem_of_getElem? (i := 766) (by decide +kernel), List.mem_of_getElem? (i := 767) (by decide +kernel)⟩
theorem lw_p15 : lw_okq (⟨"NoonOnABarrow$Tape", "cutSign", "(I)I"⟩, 6) := ⟨⟨by decide +kernel, by decide +kernel⟩, List.mem_of_getElem? (i := 232) (by decide +kernel), List.mem_of_getElem? (i := 771) (by decide +kernel), List.mem_of_getElem? (i := 772) (by decide +kernel)⟩
def lw_privs_1 : List (MethodName × Nat) := [(⟨"NoonOnABarrow$Land", "measure", "()V"⟩, 9), (⟨"NoonOnABarrow$Land", "shorten", "(II)V"⟩, 9), (⟨"NoonOnABarrow$Steps", "dayAt", "(I)LNoonOnABarrow$Day;"⟩, 3), (⟨"NoonOnABarrow$Laws", "rules", "(I)Z"⟩, 5), (⟨"NoonOnABarrow$Laws", "nameHere", "(LNoonOnABarrow$Day;I)V"⟩, 5), (⟨"NoonOnABarrow$Laws", "said", "(I)I"⟩, 5), (⟨"NoonOnABarrow$Laws", "lay", "(I)V"⟩, 5), (⟨"NoonOnABarrow$Laws", "lift", "()I"⟩, 5), (⟨"NoonOnABarrow$Doings", "fallsInDebt", "(LNoonOnABarrow$Day;I)Z"⟩, 2), (⟨"NoonOnABarrow$Doings", "setOffAsDrawn", "(LNoonOnABarrow$Day;)V"⟩, 2), (⟨"NoonOnABarrow$Tape", "byteAt", "(I)I"⟩, 6), (⟨"NoonOnABarrow$Tape", "cutWord", "(I)I"⟩, 6), (⟨"NoonOnABarrow$Tape", "wordOf", "(II)I"⟩, 6), (⟨"NoonOnABarrow$Tape", "note", "(III)V"⟩, 6), (⟨"NoonOnABarrow$Tape", "cutNumber", "(I)I"⟩, 6), (⟨"NoonOnABarrow$Tape", "cutSign", "(I)I"⟩, 6)]
theorem lw_r1 : ∀ q ∈ lw_privs_1, lw_okq q := List.forall_mem_cons.mpr ⟨lw_p0, List.forall_mem_cons.mpr ⟨lw_p1, List.forall_mem_cons.mpr ⟨lw_p2, List.forall_mem_cons.mpr ⟨lw_p3, List.forall_mem_cons.mpr ⟨lw_p4, List.forall_mem_cons.mpr ⟨lw_p5, List.forall_mem_cons.mpr ⟨lw_p6, List.forall_mem_cons.mpr ⟨lw_p7, List.forall_mem_cons.mpr ⟨lw_p8, List.forall_mem_cons.mpr ⟨lw_p9, List.forall_mem_cons.mpr ⟨lw_p10, List.forall_mem_cons.mpr ⟨lw_p11, List.forall_mem_cons.mpr ⟨lw_p12, List.forall_mem_cons.mpr ⟨lw_p13, List.forall_mem_cons.mpr ⟨lw_p14, List.forall_mem_cons.mpr ⟨lw_p15, fun _ h => absurd h List.not_mem_nil⟩⟩⟩⟩⟩⟩⟩⟩⟩⟩⟩⟩⟩⟩⟩⟩
theorem lw_p16 : lw_okq (⟨"NoonOnABarrow$Reader", "readClause", "()V"⟩, 6) := ⟨⟨by decide +kernel, by decide +kernel⟩, List.mem_of_getElem? (i := 258) (by decide +kernel), List.mem_of_getElem? (i := 835) (by decide +kernel), List.mem_of_getElem? (i := 836) (by decide +kernel)⟩
theorem lw_p17 : lw_okq (⟨"NoonOnABarrow$Reader", "refuse", "(I)V"⟩, 6) := ⟨⟨by decide +kernel, by decide +kernel⟩, List.mem_of_getElem? (i := 258) (by decide +kernel), List.mem_of_getElem? (i := 839) (by decide +kernel), List.mem_of_getElem? (i := 840) (by decide +kernel)⟩
theorem lw_p18 : lw_okq (⟨"NoonOnABarrow$Reader", "readSum", "(I)V"⟩, 6) := ⟨⟨by decide +kernel, by decide +kernel⟩, List.mem_of_getElem? (i := 258) (by decide +kernel), List.mem_of_getElem? (i := 848) (by decide +kernel), List.mem_of_getElem? (i := 849) (by decide +kernel)⟩
theorem lw_p19 : lw_okq (⟨"NoonOnABarrow$Reader", "readProduct", "(I)V"⟩, 6) := ⟨⟨by decide +kernel, by decide +kernel⟩, List.mem_of_getElem? (i := 258) (by decide +kernel), List.mem_of_getElem? (i := 852) (by decide +kernel), List.mem_of_getElem? (i := 853) (by decide +kernel)⟩
theorem lw_p20 : lw_okq (⟨"NoonOnABarrow$Reader", "readOne", "(I)V"⟩, 6) := ⟨⟨by decide +kernel, by decide +kernel⟩, List.mem_of_getElem? (i := 258) (by decide +kernel), List.mem_of_getElem? (i := 856) (by decide +kernel), List.mem_of_getElem? (i := 857) (by decide +kernel)⟩
theorem lw_p21 : lw_okq (⟨"NoonOnABarrow$Reader", "expectNumber", "(II)I"⟩, 6) := ⟨⟨by decide +kernel, by decide +kernel⟩, List.mem_of_getElem? (i := 258) (by decide +kernel), List.mem_of_getElem? (i := 860) (by decide +kernel), List.mem_of_getElem? (i := 861) (by decide +kernel)⟩
theorem lw_p22 : lw_okq (⟨"NoonOnABarrow$Reader", "isNext", "(I)Z"⟩, 6) := ⟨⟨by decide +kernel, by decide +kernel⟩, List.mem_of_getElem? (i := 258) (by decide +kernel), List.mem_of_getElem? (i := 868) (by decide +kernel), List.mem_of_getElem? (i := 869) (by decide +kernel)⟩
theorem lw_p23 : lw_okq (⟨"NoonOnABarrow$Reader", "opens", "(I)Z"⟩, 6) := ⟨⟨by decide +kernel, by decide +kernel⟩, List.mem_of_getElem? (i := 258) (by decide +kernel), List.mem_of_getElem? (i := 876) (by decide +kernel), List.mem_of_getElem? (i := 877) (by decide +kernel)⟩
theorem lw_p24 : lw_okq (⟨"NoonOnABarrow$Reader", "expect", "(I)V"⟩, 6) := ⟨⟨by decide +kernel, by decide +kernel⟩, List.mem_of_getElem? (i := 258) (by decide +kernel), List.mem_of_getElem? (i := 880) (by decide +kernel), List.mem_of_getElem? (i := 881) (by decide +kernel)⟩
theorem lw_p25 : lw_okq (⟨"NoonOnABarrow$Reader", "readFar", "(I)V"⟩, 6) := ⟨⟨by decide +kernel, by decide +kernel⟩, List.mem_of_getElem? (i := 258) (by decide +kernel), List.mem_of_getElem? (i := 884) (by decide +kernel), List.mem_of_getElem? (i := 885) (by decide +kernel)⟩
theorem lw_p26 : lw_okq (⟨"NoonOnABarrow$Reader", "readIf", "(I)V"⟩, 6) := ⟨⟨by decide +kernel, by decide +kernel⟩, List.mem_of_getElem? (i := 258) (by decide +kernel), List.mem_of_getElem? (i := 888) (by decide +kernel), List.mem_of_getElem? (i := 889) (by decide +kernel)⟩
theorem lw_p27 : lw_okq (⟨"NoonOnABarrow$Reader", "readEither", "(I)V"⟩, 6) := ⟨⟨by decide +kernel, by decide +kernel⟩, List.mem_of_getElem? (i := 258) (by decide +kernel), List.mem_of_getElem? (i := 892) (by decide +kernel), List.mem_of_getElem? (i := 893) (by decide +kernel)⟩
theorem lw_p28 : lw_okq (⟨"NoonOnABarrow$Reader", "readBoth", "(I)V"⟩, 6) := ⟨⟨by decide +kernel, by decide +kernel⟩, List.mem_of_getElem? (i := 258) (by decide +kernel), List.mem_of_getElem? (i := 896) (by decide +kernel), List.mem_of_getElem? (i := 897) (by decide +kernel)⟩
theorem lw_p29 : lw_okq (⟨"NoonOnABarrow$Reader", "readAsk", "(I)V"⟩, 6) := ⟨⟨by decide +kernel, by decide +kernel⟩, List.mem_of_getElem? (i := 258) (by decide +kernel), List.mem_of_getElem? (i := 900) (by decide +kernel), List.mem_of_getElem? (i := 901) (by decide +kernel)⟩
theorem lw_p30 : lw_okq (⟨"NoonOnABarrow$Reader", "readName", "()V"⟩, 6) := ⟨⟨by decide +kernel, by decide +kernel⟩, List.mem_of_getElem? (i := 258) (by decide +kernel), List.mem_of_getElem? (i := 911) (by decide +kernel), List.mem_of_getElem? (i := 912) (by decide +kernel)⟩
theorem lw_p31 : lw_okq (⟨"NoonOnABarrow$Reader", "readDeed", "(I)V"⟩, 6) := ⟨⟨by decide +kernel, by decide +kernel⟩, List.mem_of_getElem? (i := 258) (by decide +kernel), List.mem_of_getElem? (i := 925) (by decide +kernel), List.mem_of_getElem? (i := 926) (by decide +kernel)⟩
def lw_privs_2 : List (MethodName × Nat) := [(⟨"NoonOnABarrow$Reader", "readClause", "()V"⟩, 6), (⟨"NoonOnABarrow$Reader", "refuse", "(I)V"⟩, 6), (⟨"NoonOnABarrow$Reader", "readSum", "(I)V"⟩, 6), (⟨"NoonOnABarrow$Reader", "readProduct", "(I)V"⟩, 6), (⟨"NoonOnABarrow$Reader", "readOne", "(I)V"⟩, 6), (⟨"NoonOnABarrow$Reader", "expectNumber", "(II)I"⟩, 6), (⟨"NoonOnABarrow$Reader", "isNext", "(I)Z"⟩, 6), (⟨"NoonOnABarrow$Reader", "opens", "(I)Z"⟩, 6), (⟨"NoonOnABarrow$Reader", "expect", "(I)V"⟩, 6), (⟨"NoonOnABarrow$Reader", "readFar", "(I)V"⟩, 6), (⟨"NoonOnABarrow$Reader", "readIf", "(I)V"⟩, 6), (⟨"NoonOnABarrow$Reader", "readEither", "(I)V"⟩, 6), (⟨"NoonOnABarrow$Reader", "readBoth", "(I)V"⟩, 6), (⟨"NoonOnABarrow$Reader", "readAsk", "(I)V"⟩, 6), (⟨"NoonOnABarrow$Reader", "readName", "()V"⟩, 6), (⟨"NoonOnABarrow$Reader", "readDeed", "(I)V"⟩, 6)]
theorem lw_r2 : ∀ q ∈ lw_privs_2, lw_okq q := List.forall_mem_cons.mpr ⟨lw_p16, List.forall_mem_cons.mpr ⟨lw_p17, List.forall_mem_cons.mpr ⟨lw_p18, List.forall_mem_cons.mpr ⟨lw_p19, List.forall_mem_cons.mpr ⟨lw_p20, List.forall_mem_cons.mpr ⟨lw_p21, List.forall_mem_cons.mpr ⟨lw_p22, List.forall_mem_cons.mpr ⟨lw_p23, List.forall_mem_cons.mpr ⟨lw_p24, List.forall_mem_cons.mpr ⟨lw_p25, List.forall_mem_cons.mpr ⟨lw_p26, List.forall_mem_cons.mpr ⟨lw_p27, List.forall_mem_cons.mpr ⟨lw_p28, List.forall_mem_cons.mpr ⟨lw_p29, List.forall_mem_cons.mpr ⟨lw_p30, List.forall_mem_cons.mpr ⟨lw_p31, fun _ h => absurd h List.not_mem_nil⟩⟩⟩⟩⟩⟩⟩⟩⟩⟩⟩⟩⟩⟩⟩⟩
theorem lw_p32 : lw_okq (⟨"NoonOnABarrow", "textTold", "(I)LNoonOnABarrow$Text;"⟩, 18) := ⟨⟨by decide +kernel, by decide +kernel⟩, List.mem_of_getElem? (i := 23) (by decide +kernel), List.mem_of_getElem? (i := 938) (by decide +kernel), List.mem_of_getElem? (i := 939) (by decide +kernel)⟩
theorem lw_p33 : lw_okq (⟨"NoonOnABarrow", "letRule", "(I)V"⟩, 18) := ⟨⟨by decide +kernel, by decide +kernel⟩, List.mem_of_getElem? (i := 23) (by decide +kernel), List.mem_of_getElem? (i := 942) (by decide +kernel), List.mem_of_getElem? (i := 943) (by decide +kernel)⟩
theorem lw_p34 : lw_okq (⟨"NoonOnABarrow", "isDone", "(LNoonOnABarrow$Text;I)Z"⟩, 18) := ⟨⟨by decide +kernel, by decide +kernel⟩, List.mem_of_getElem? (i := 23) (by decide +kernel), List.mem_of_getElem? (i := 950) (by decide +kernel), List.mem_of_getElem? (i := 951) (by decide +kernel)⟩
theorem lw_p35 : lw_okq (⟨"NoonOnABarrow$Counsel", "fits", "(I)Z"⟩, 3) := ⟨⟨by decide +kernel, by decide +kernel⟩, List.mem_of_getElem? (i := 361) (by decide +kernel), List.mem_of_getElem? (i := 1033) (by decide +kernel), List.mem_of_getElem? (i := 1034) (by decide +kernel)⟩
theorem lw_p36 : lw_okq (⟨"NoonOnABarrow$Ways", "comeTo", "(III)V"⟩, 10) := ⟨⟨by decide +kernel, by decide +kernel⟩, List.mem_of_getElem? (i := 323) (by decide +kernel), List.mem_of_getElem? (i := 1047) (by decide +kernel), List.mem_of_getElem? (i := 1048) (by decide +kernel)⟩
theorem lw_p37 : lw_okq (⟨"NoonOnABarrow$Ways", "lanesBehind", "(I)I"⟩, 10) := ⟨⟨by decide +kernel, by decide +kernel⟩, List.mem_of_getElem? (i := 323) (by decide +kernel), List.mem_of_getElem? (i := 1052) (by decide +kernel), List.mem_of_getElem? (i := 1053) (by decide +kernel)⟩
theorem lw_p38 : lw_okq (⟨"NoonOnABarrow$Ways", "placeAhead", "(I)I"⟩, 10) := ⟨⟨by decide +kernel, by decide +kernel⟩, List.mem_of_getElem? (i := 323) (by decide +kernel), List.mem_of_getElem? (i := 1056) (by decide +kernel), List.mem_of_getElem? (i := 1057) (by decide +kernel)⟩
theorem lw_p39 : lw_okq (⟨"NoonOnABarrow$Ways", "goOnFrom", "(I)V"⟩, 10) := ⟨⟨by decide +kernel, by decide +kernel⟩, List.mem_of_getElem? (i := 323) (by decide +kernel), List.mem_of_getElem? (i := 1060) (by decide +kernel), List.mem_of_getElem? (i := 1061) (by decide +kernel)⟩
theorem lw_p40 : lw_okq (⟨"NoonOnABarrow$Ways", "askCosts", "(LNoonOnABarrow$Day;I)V"⟩, 10) := ⟨⟨by decide +kernel, by decide +kernel⟩, List.mem_of_getElem? (i := 323) (by decide +kernel), List.mem_of_getElem? (i := 1077) (by decide +kernel), List.mem_of_getElem? (i := 1078) (by decide +kernel)⟩
theorem lw_p41 : lw_okq (⟨"NoonOnABarrow$Ways", "lowerRest", "(I)V"⟩, 10) := ⟨⟨by decide +kernel, by decide +kernel⟩, List.mem_of_getElem? (i := 323) (by decide +kernel), List.mem_of_getElem? (i := 1083) (by decide +kernel), List.mem_of_getElem? (i := 1084) (by decide +kernel)⟩
theorem lw_p42 : lw_okq (⟨"NoonOnABarrow$Ways", "lowestNext", "(I)I"⟩, 10) := ⟨⟨by decide +kernel, by decide +kernel⟩, List.mem_of_getElem? (i := 323) (by decide +kernel), List.mem_of_getElem? (i := 1088) (by decide +kernel), List.mem_of_getElem? (i := 1089) (by decide +kernel)⟩
theorem lw_p43 : lw_okq (⟨"NoonOnABarrow$Counsel", "beatsAll", "(I)Z"⟩, 3) := ⟨⟨by decide +kernel, by decide +kernel⟩, List.mem_of_getElem? (i := 361) (by decide +kernel), List.mem_of_getElem? (i := 1104) (by decide +kernel), List.mem_of_getElem? (i := 1105) (by decide +kernel)⟩
theorem lw_p44 : lw_okq (⟨"NoonOnABarrow$Counsel", "beats", "(II)Z"⟩, 3) := ⟨⟨by decide +kernel, by decide +kernel⟩, List.mem_of_getElem? (i := 361) (by decide +kernel), List.mem_of_getElem? (i := 1108) (by decide +kernel), List.mem_of_getElem? (i := 1109) (by decide +kernel)⟩
theorem lw_p45 : lw_okq (⟨"NoonOnABarrow$Counsel", "isRow", "(II)Z"⟩, 3) := ⟨⟨by decide +kernel, by decide +kernel⟩, List.mem_of_getElem? (i := 361) (by decide +kernel), List.mem_of_getElem? (i := 1121) (by decide +kernel), List.mem_of_getElem? (i := 1122) (by decide +kernel)⟩
theorem lw_p46 : lw_okq (⟨"NoonOnABarrow$Counsel", "leastServed", "()I"⟩, 3) := ⟨⟨by decide +kernel, by decide +kernel⟩, List.mem_of_getElem? (i := 361) (by decide +kernel), List.mem_of_getElem? (i := 1139) (by decide +kernel), List.mem_of_getElem? (i := 1140) (by decide +kernel)⟩
theorem lw_p47 : lw_okq (⟨"NoonOnABarrow$Counsel", "isServedLess", "(II)Z"⟩, 3) := ⟨⟨by decide +kernel, by decide +kernel⟩, List.mem_of_getElem? (i := 361) (by decide +kernel), List.mem_of_getElem? (i := 1143) (by decide +kernel), List.mem_of_getElem? (i := 1144) (by decide +kernel)⟩
def lw_privs_3 : List (MethodName × Nat) := [(⟨"NoonOnABarrow", "textTold", "(I)LNoonOnABarrow$Text;"⟩, 18), (⟨"NoonOnABarrow", "letRule", "(I)V"⟩, 18), (⟨"NoonOnABarrow", "isDone", "(LNoonOnABarrow$Text;I)Z"⟩, 18), (⟨"NoonOnABarrow$Counsel", "fits", "(I)Z"⟩, 3), (⟨"NoonOnABarrow$Ways", "comeTo", "(III)V"⟩, 10), (⟨"NoonOnABarrow$Ways", "lanesBehind", "(I)I"⟩, 10), (⟨"NoonOnABarrow$Ways", "placeAhead", "(I)I"⟩, 10), (⟨"NoonOnABarrow$Ways", "goOnFrom", "(I)V"⟩, 10), (⟨"NoonOnABarrow$Ways", "askCosts", "(LNoonOnABarrow$Day;I)V"⟩, 10), (⟨"NoonOnABarrow$Ways", "lowerRest", "(I)V"⟩, 10), (⟨"NoonOnABarrow$Ways", "lowestNext", "(I)I"⟩, 10), (⟨"NoonOnABarrow$Counsel", "beatsAll", "(I)Z"⟩, 3), (⟨"NoonOnABarrow$Counsel", "beats", "(II)Z"⟩, 3), (⟨"NoonOnABarrow$Counsel", "isRow", "(II)Z"⟩, 3), (⟨"NoonOnABarrow$Counsel", "leastServed", "()I"⟩, 3), (⟨"NoonOnABarrow$Counsel", "isServedLess", "(II)Z"⟩, 3)]
theorem lw_r3 : ∀ q ∈ lw_privs_3, lw_okq q := List.forall_mem_cons.mpr ⟨lw_p32, List.forall_mem_cons.mpr ⟨lw_p33, List.forall_mem_cons.mpr ⟨lw_p34, List.forall_mem_cons.mpr ⟨lw_p35, List.forall_mem_cons.mpr ⟨lw_p36, List.forall_mem_cons.mpr ⟨lw_p37, List.forall_mem_cons.mpr ⟨lw_p38, List.forall_mem_cons.mpr ⟨lw_p39, List.forall_mem_cons.mpr ⟨lw_p40, List.forall_mem_cons.mpr ⟨lw_p41, List.forall_mem_cons.mpr ⟨lw_p42, List.forall_mem_cons.mpr ⟨lw_p43, List.forall_mem_cons.mpr ⟨lw_p44, List.forall_mem_cons.mpr ⟨lw_p45, List.forall_mem_cons.mpr ⟨lw_p46, List.forall_mem_cons.mpr ⟨lw_p47, fun _ h => absurd h List.not_mem_nil⟩⟩⟩⟩⟩⟩⟩⟩⟩⟩⟩⟩⟩⟩⟩⟩
theorem lw_p48 : lw_okq (⟨"NoonOnABarrow$Counsel", "mayBeAt", "(LNoonOnABarrow$Day;I)Z"⟩, 3) := ⟨⟨by decide +kernel, by decide +kernel⟩, List.mem_of_getElem? (i := 361) (by decide +kernel), List.mem_of_getElem? (i := 1159) (by decide +kernel), List.mem_of_getElem? (i := 1160) (by decide +kernel)⟩
theorem lw_p49 : lw_okq (⟨"NoonOnABarrow$Counsel", "answersAt", "(LNoonOnABarrow$Day;II)I"⟩, 3) := ⟨⟨by decide +kernel, by decide +kernel⟩, List.mem_of_getElem? (i := 361) (by decide +kernel), List.mem_of_getElem? (i := 1173) (by decide +kernel), List.mem_of_getElem? (i := 1174) (by decide +kernel)⟩
theorem lw_p50 : lw_okq (⟨"NoonOnABarrow$Counsel", "withAnswer", "(II)I"⟩, 3) := ⟨⟨by decide +kernel, by decide +kernel⟩, List.mem_of_getElem? (i := 361) (by decide +kernel), List.mem_of_getElem? (i := 1177) (by decide +kernel), List.mem_of_getElem? (i := 1178) (by decide +kernel)⟩
theorem lw_p51 : lw_okq (⟨"NoonOnABarrow$Counsel", "nearBits", "(II)I"⟩, 3) := ⟨⟨by decide +kernel, by decide +kernel⟩, List.mem_of_getElem? (i := 361) (by decide +kernel), List.mem_of_getElem? (i := 1198) (by decide +kernel), List.mem_of_getElem? (i := 1199) (by decide +kernel)⟩
theorem lw_p52 : lw_okq (⟨"NoonOnABarrow$Counsel", "watchedBy", "(I)I"⟩, 3) := ⟨⟨by decide +kernel, by decide +kernel⟩, List.mem_of_getElem? (i := 361) (by decide +kernel), List.mem_of_getElem? (i := 1208) (by decide +kernel), List.mem_of_getElem? (i := 1209) (by decide +kernel)⟩
theorem lw_p53 : lw_okq (⟨"NoonOnABarrowModel", "copies", "(Z)V"⟩, 47) := ⟨⟨by decide +kernel, by decide +kernel⟩, List.mem_of_getElem? (i := 1238) (by decide +kernel), List.mem_of_getElem? (i := 1244) (by decide +kernel), List.mem_of_getElem? (i := 1245) (by decide +kernel)⟩
theorem lw_p54 : lw_okq (⟨"NoonOnABarrowModel", "isHouse", "(I)Z"⟩, 47) := ⟨⟨by decide +kernel, by decide +kernel⟩, List.mem_of_getElem? (i := 1238) (by decide +kernel), List.mem_of_getElem? (i := 1402) (by decide +kernel), List.mem_of_getElem? (i := 1403) (by decide +kernel)⟩
theorem lw_p55 : lw_okq (⟨"NoonOnABarrowModel", "put", "(I)V"⟩, 47) := ⟨⟨by decide +kernel, by decide +kernel⟩, List.mem_of_getElem? (i := 1238) (by decide +kernel), List.mem_of_getElem? (i := 1418) (by decide +kernel), List.mem_of_getElem? (i := 1419) (by decide +kernel)⟩
theorem lw_p56 : lw_okq (⟨"NoonOnABarrowModel", "next", "()V"⟩, 47) := ⟨⟨by decide +kernel, by decide +kernel⟩, List.mem_of_getElem? (i := 1238) (by decide +kernel), List.mem_of_getElem? (i := 1430) (by decide +kernel), List.mem_of_getElem? (i := 1431) (by decide +kernel)⟩
theorem lw_p57 : lw_okq (⟨"NoonOnABarrowModel", "asks", "()V"⟩, 47) := ⟨⟨by decide +kernel, by decide +kernel⟩, List.mem_of_getElem? (i := 1238) (by decide +kernel), List.mem_of_getElem? (i := 1474) (by decide +kernel), List.mem_of_getElem? (i := 1475) (by decide +kernel)⟩
theorem lw_p58 : lw_okq (⟨"NoonOnABarrowModel", "isWord", "(I)Z"⟩, 47) := ⟨⟨by decide +kernel, by decide +kernel⟩, List.mem_of_getElem? (i := 1238) (by decide +kernel), List.mem_of_getElem? (i := 1478) (by decide +kernel), List.mem_of_getElem? (i := 1479) (by decide +kernel)⟩
theorem lw_p59 : lw_okq (⟨"NoonOnABarrowModel", "opensSign", "(I)Z"⟩, 47) := ⟨⟨by decide +kernel, by decide +kernel⟩, List.mem_of_getElem? (i := 1238) (by decide +kernel), List.mem_of_getElem? (i := 1482) (by decide +kernel), List.mem_of_getElem? (i := 1483) (by decide +kernel)⟩
theorem lw_p60 : lw_okq (⟨"NoonOnABarrowModel", "errs", "(I)V"⟩, 47) := ⟨⟨by decide +kernel, by decide +kernel⟩, List.mem_of_getElem? (i := 1238) (by decide +kernel), List.mem_of_getElem? (i := 1486) (by decide +kernel), List.mem_of_getElem? (i := 1487) (by decide +kernel)⟩
theorem lw_p61 : lw_okq (⟨"NoonOnABarrowModel", "opensFrame", "(I)V"⟩, 47) := ⟨⟨by decide +kernel, by decide +kernel⟩, List.mem_of_getElem? (i := 1238) (by decide +kernel), List.mem_of_getElem? (i := 1490) (by decide +kernel), List.mem_of_getElem? (i := 1491) (by decide +kernel)⟩
theorem lw_p62 : lw_okq (⟨"NoonOnABarrowModel", "begins", "()V"⟩, 47) := ⟨⟨by decide +kernel, by decide +kernel⟩, List.mem_of_getElem? (i := 1238) (by decide +kernel), List.mem_of_getElem? (i := 1494) (by decide +kernel), List.mem_of_getElem? (i := 1495) (by decide +kernel)⟩
theorem lw_p63 : lw_okq (⟨"NoonOnABarrowModel", "nameNow", "()I"⟩, 47) := ⟨⟨by decide +kernel, by decide +kernel⟩, List.mem_of_getElem? (i := 1238) (by decide +kernel), List.mem_of_getElem? (i := 1498) (by decide +kernel), List.mem_of_getElem? (i := 1499) (by decide +kernel)⟩
def lw_privs_4 : List (MethodName × Nat) := [(⟨"NoonOnABarrow$Counsel", "mayBeAt", "(LNoonOnABarrow$Day;I)Z"⟩, 3), (⟨"NoonOnABarrow$Counsel", "answersAt", "(LNoonOnABarrow$Day;II)I"⟩, 3), (⟨"NoonOnABarrow$Counsel", "withAnswer", "(II)I"⟩, 3), (⟨"NoonOnABarrow$Counsel", "nearBits", "(II)I"⟩, 3), (⟨"NoonOnABarrow$Counsel", "watchedBy", "(I)I"⟩, 3), (⟨"NoonOnABarrowModel", "copies", "(Z)V"⟩, 47), (⟨"NoonOnABarrowModel", "isHouse", "(I)Z"⟩, 47), (⟨"NoonOnABarrowModel", "put", "(I)V"⟩, 47), (⟨"NoonOnABarrowModel", "next", "()V"⟩, 47), (⟨"NoonOnABarrowModel", "asks", "()V"⟩, 47), (⟨"NoonOnABarrowModel", "isWord", "(I)Z"⟩, 47), (⟨"NoonOnABarrowModel", "opensSign", "(I)Z"⟩, 47), (⟨"NoonOnABarrowModel", "errs", "(I)V"⟩, 47), (⟨"NoonOnABarrowModel", "opensFrame", "(I)V"⟩, 47), (⟨"NoonOnABarrowModel", "begins", "()V"⟩, 47), (⟨"NoonOnABarrowModel", "nameNow", "()I"⟩, 47)]
theorem lw_r4 : ∀ q ∈ lw_privs_4, lw_okq q := List.forall_mem_cons.mpr ⟨lw_p48, List.forall_mem_cons.mpr ⟨lw_p49, List.forall_mem_cons.mpr ⟨lw_p50, List.forall_mem_cons.mpr ⟨lw_p51, List.forall_mem_cons.mpr ⟨lw_p52, List.forall_mem_cons.mpr ⟨lw_p53, List.forall_mem_cons.mpr ⟨lw_p54, List.forall_mem_cons.mpr ⟨lw_p55, List.forall_mem_cons.mpr ⟨lw_p56, List.forall_mem_cons.mpr ⟨lw_p57, List.forall_mem_cons.mpr ⟨lw_p58, List.forall_mem_cons.mpr ⟨lw_p59, List.forall_mem_cons.mpr ⟨lw_p60, List.forall_mem_cons.mpr ⟨lw_p61, List.forall_mem_cons.mpr ⟨lw_p62, List.forall_mem_cons.mpr ⟨lw_p63, fun _ h => absurd h List.not_mem_nil⟩⟩⟩⟩⟩⟩⟩⟩⟩⟩⟩⟩⟩⟩⟩⟩
theorem lw_p64 : lw_okq (⟨"NoonOnABarrowModel", "emits", "(II)V"⟩, 47) := ⟨⟨by decide +kernel, by decide +kernel⟩, List.mem_of_getElem? (i := 1238) (by decide +kernel), List.mem_of_getElem? (i := 1502) (by decide +kernel), List.mem_of_getElem? (i := 1503) (by decide +kernel)⟩
theorem lw_p65 : lw_okq (⟨"NoonOnABarrowModel", "oneIsOver", "()V"⟩, 47) := ⟨⟨by decide +kernel, by decide +kernel⟩, List.mem_of_getElem? (i := 1238) (by decide +kernel), List.mem_of_getElem? (i := 1506) (by decide +kernel), List.mem_of_getElem? (i := 1507) (by decide +kernel)⟩
theorem lw_p66 : lw_okq (⟨"NoonOnABarrowModel", "top", "()I"⟩, 47) := ⟨⟨by decide +kernel, by decide +kernel⟩, List.mem_of_getElem? (i := 1238) (by decide +kernel), List.mem_of_getElem? (i := 1510) (by decide +kernel), List.mem_of_getElem? (i := 1511) (by decide +kernel)⟩
theorem lw_p67 : lw_okq (⟨"NoonOnABarrowModel", "bySecond", "()V"⟩, 47) := ⟨⟨by decide +kernel, by decide +kernel⟩, List.mem_of_getElem? (i := 1238) (by decide +kernel), List.mem_of_getElem? (i := 1514) (by decide +kernel), List.mem_of_getElem? (i := 1515) (by decide +kernel)⟩
theorem lw_p68 : lw_okq (⟨"NoonOnABarrowModel", "isSign", "(I)Z"⟩, 47) := ⟨⟨by decide +kernel, by decide +kernel⟩, List.mem_of_getElem? (i := 1238) (by decide +kernel), List.mem_of_getElem? (i := 1521) (by decide +kernel), List.mem_of_getElem? (i := 1522) (by decide +kernel)⟩
theorem lw_p69 : lw_okq (⟨"NoonOnABarrowModel", "goesOn", "()V"⟩, 47) := ⟨⟨by decide +kernel, by decide +kernel⟩, List.mem_of_getElem? (i := 1238) (by decide +kernel), List.mem_of_getElem? (i := 1525) (by decide +kernel), List.mem_of_getElem? (i := 1526) (by decide +kernel)⟩
theorem lw_p70 : lw_okq (⟨"NoonOnABarrowModel", "waitsFor", "(I)V"⟩, 47) := ⟨⟨by decide +kernel, by decide +kernel⟩, List.mem_of_getElem? (i := 1238) (by decide +kernel), List.mem_of_getElem? (i := 1529) (by decide +kernel), List.mem_of_getElem? (i := 1530) (by decide +kernel)⟩
theorem lw_p71 : lw_okq (⟨"NoonOnABarrowModel", "works", "(I)V"⟩, 47) := ⟨⟨by decide +kernel, by decide +kernel⟩, List.mem_of_getElem? (i := 1238) (by decide +kernel), List.mem_of_getElem? (i := 1536) (by decide +kernel), List.mem_of_getElem? (i := 1537) (by decide +kernel)⟩
theorem lw_p72 : lw_okq (⟨"NoonOnABarrowModel", "turnsTo", "(II)V"⟩, 47) := ⟨⟨by decide +kernel, by decide +kernel⟩, List.mem_of_getElem? (i := 1238) (by decide +kernel), List.mem_of_getElem? (i := 1540) (by decide +kernel), List.mem_of_getElem? (i := 1541) (by decide +kernel)⟩
theorem lw_p73 : lw_okq (⟨"NoonOnABarrowModel", "askIsOver", "()V"⟩, 47) := ⟨⟨by decide +kernel, by decide +kernel⟩, List.mem_of_getElem? (i := 1238) (by decide +kernel), List.mem_of_getElem? (i := 1547) (by decide +kernel), List.mem_of_getElem? (i := 1548) (by decide +kernel)⟩
theorem lw_p74 : lw_okq (⟨"NoonOnABarrowModel", "clauseIsOver", "()V"⟩, 47) := ⟨⟨by decide +kernel, by decide +kernel⟩, List.mem_of_getElem? (i := 1238) (by decide +kernel), List.mem_of_getElem? (i := 1551) (by decide +kernel), List.mem_of_getElem? (i := 1552) (by decide +kernel)⟩
theorem lw_p75 : lw_okq (⟨"NoonOnABarrowModel", "asksOn", "()V"⟩, 47) := ⟨⟨by decide +kernel, by decide +kernel⟩, List.mem_of_getElem? (i := 1238) (by decide +kernel), List.mem_of_getElem? (i := 1555) (by decide +kernel), List.mem_of_getElem? (i := 1556) (by decide +kernel)⟩
theorem lw_p76 : lw_okq (⟨"NoonOnABarrowModel", "clause", "()V"⟩, 47) := ⟨⟨by decide +kernel, by decide +kernel⟩, List.mem_of_getElem? (i := 1238) (by decide +kernel), List.mem_of_getElem? (i := 1559) (by decide +kernel), List.mem_of_getElem? (i := 1560) (by decide +kernel)⟩
theorem lw_p77 : lw_okq (⟨"NoonOnABarrowModel", "wasTold", "(I)Z"⟩, 47) := ⟨⟨by decide +kernel, by decide +kernel⟩, List.mem_of_getElem? (i := 1238) (by decide +kernel), List.mem_of_getElem? (i := 1563) (by decide +kernel), List.mem_of_getElem? (i := 1564) (by decide +kernel)⟩
theorem lw_p78 : lw_okq (⟨"NoonOnABarrowModel", "doing", "()V"⟩, 47) := ⟨⟨by decide +kernel, by decide +kernel⟩, List.mem_of_getElem? (i := 1238) (by decide +kernel), List.mem_of_getElem? (i := 1567) (by decide +kernel), List.mem_of_getElem? (i := 1568) (by decide +kernel)⟩
theorem lw_p79 : lw_okq (⟨"NoonOnABarrowModel", "number", "(II)I"⟩, 47) := ⟨⟨by decide +kernel, by decide +kernel⟩, List.mem_of_getElem? (i := 1238) (by decide +kernel), List.mem_of_getElem? (i := 1571) (by decide +kernel), List.mem_of_getElem? (i := 1572) (by decide +kernel)⟩
def lw_privs_5 : List (MethodName × Nat) := [(⟨"NoonOnABarrowModel", "emits", "(II)V"⟩, 47), (⟨"NoonOnABarrowModel", "oneIsOver", "()V"⟩, 47), (⟨"NoonOnABarrowModel", "top", "()I"⟩, 47), (⟨"NoonOnABarrowModel", "bySecond", "()V"⟩, 47), (⟨"NoonOnABarrowModel", "isSign", "(I)Z"⟩, 47), (⟨"NoonOnABarrowModel", "goesOn", "()V"⟩, 47), (⟨"NoonOnABarrowModel", "waitsFor", "(I)V"⟩, 47), (⟨"NoonOnABarrowModel", "works", "(I)V"⟩, 47), (⟨"NoonOnABarrowModel", "turnsTo", "(II)V"⟩, 47), (⟨"NoonOnABarrowModel", "askIsOver", "()V"⟩, 47), (⟨"NoonOnABarrowModel", "clauseIsOver", "()V"⟩, 47), (⟨"NoonOnABarrowModel", "asksOn", "()V"⟩, 47), (⟨"NoonOnABarrowModel", "clause", "()V"⟩, 47), (⟨"NoonOnABarrowModel", "wasTold", "(I)Z"⟩, 47), (⟨"NoonOnABarrowModel", "doing", "()V"⟩, 47), (⟨"NoonOnABarrowModel", "number", "(II)I"⟩, 47)]
theorem lw_r5 : ∀ q ∈ lw_privs_5, lw_okq q := List.forall_mem_cons.mpr ⟨lw_p64, List.forall_mem_cons.mpr ⟨lw_p65, List.forall_mem_cons.mpr ⟨lw_p66, List.forall_mem_cons.mpr ⟨lw_p67, List.forall_mem_cons.mpr ⟨lw_p68, List.forall_mem_cons.mpr ⟨lw_p69, List.forall_mem_cons.mpr ⟨lw_p70, List.forall_mem_cons.mpr ⟨lw_p71, List.forall_mem_cons.mpr ⟨lw_p72, List.forall_mem_cons.mpr ⟨lw_p73, List.forall_mem_cons.mpr ⟨lw_p74, List.forall_mem_cons.mpr ⟨lw_p75, List.forall_mem_cons.mpr ⟨lw_p76, List.forall_mem_cons.mpr ⟨lw_p77, List.forall_mem_cons.mpr ⟨lw_p78, List.forall_mem_cons.mpr ⟨lw_p79, fun _ h => absurd h List.not_mem_nil⟩⟩⟩⟩⟩⟩⟩⟩⟩⟩⟩⟩⟩⟩⟩⟩
theorem lw_p80 : lw_okq (⟨"NoonOnABarrowModel", "numberBehind", "(III)I"⟩, 47) := ⟨⟨by decide +kernel, by decide +kernel⟩, List.mem_of_getElem? (i := 1238) (by decide +kernel), List.mem_of_getElem? (i := 1575) (by decide +kernel), List.mem_of_getElem? (i := 1576) (by decide +kernel)⟩
theorem lw_p81 : lw_okq (⟨"NoonOnABarrowModel", "laysNow", "()V"⟩, 47) := ⟨⟨by decide +kernel, by decide +kernel⟩, List.mem_of_getElem? (i := 1238) (by decide +kernel), List.mem_of_getElem? (i := 1591) (by decide +kernel), List.mem_of_getElem? (i := 1592) (by decide +kernel)⟩
theorem lw_p82 : lw_okq (⟨"NoonOnABarrowModel", "laysFar", "()V"⟩, 47) := ⟨⟨by decide +kernel, by decide +kernel⟩, List.mem_of_getElem? (i := 1238) (by decide +kernel), List.mem_of_getElem? (i := 1595) (by decide +kernel), List.mem_of_getElem? (i := 1596) (by decide +kernel)⟩
theorem lw_p83 : lw_okq (⟨"NoonOnABarrowModel", "canPush", "(II)Z"⟩, 47) := ⟨⟨by decide +kernel, by decide +kernel⟩, List.mem_of_getElem? (i := 1238) (by decide +kernel), List.mem_of_getElem? (i := 1599) (by decide +kernel), List.mem_of_getElem? (i := 1600) (by decide +kernel)⟩
theorem lw_p84 : lw_okq (⟨"NoonOnABarrowModel", "keepsStep", "()V"⟩, 47) := ⟨⟨by decide +kernel, by decide +kernel⟩, List.mem_of_getElem? (i := 1238) (by decide +kernel), List.mem_of_getElem? (i := 1603) (by decide +kernel), List.mem_of_getElem? (i := 1604) (by decide +kernel)⟩
theorem lw_p85 : lw_okq (⟨"NoonOnABarrowModel", "pushes", "(II)V"⟩, 47) := ⟨⟨by decide +kernel, by decide +kernel⟩, List.mem_of_getElem? (i := 1238) (by decide +kernel), List.mem_of_getElem? (i := 1607) (by decide +kernel), List.mem_of_getElem? (i := 1608) (by decide +kernel)⟩
theorem lw_p86 : lw_okq (⟨"NoonOnABarrowModel", "hardOf", "(III)I"⟩, 47) := ⟨⟨by decide +kernel, by decide +kernel⟩, List.mem_of_getElem? (i := 1238) (by decide +kernel), List.mem_of_getElem? (i := 1611) (by decide +kernel), List.mem_of_getElem? (i := 1612) (by decide +kernel)⟩
theorem lw_p87 : lw_okq (⟨"NoonOnABarrowModel", "ordersOf", "(I)I"⟩, 47) := ⟨⟨by decide +kernel, by decide +kernel⟩, List.mem_of_getElem? (i := 1238) (by decide +kernel), List.mem_of_getElem? (i := 1615) (by decide +kernel), List.mem_of_getElem? (i := 1616) (by decide +kernel)⟩
theorem lw_p88 : lw_okq (⟨"NoonOnABarrowModel", "names", "(I)V"⟩, 47) := ⟨⟨by decide +kernel, by decide +kernel⟩, List.mem_of_getElem? (i := 1238) (by decide +kernel), List.mem_of_getElem? (i := 1619) (by decide +kernel), List.mem_of_getElem? (i := 1620) (by decide +kernel)⟩
theorem lw_p89 : lw_okq (⟨"NoonOnABarrowModel", "saysOf", "(I)J"⟩, 47) := ⟨⟨by decide +kernel, by decide +kernel⟩, List.mem_of_getElem? (i := 1238) (by decide +kernel), List.mem_of_getElem? (i := 1623) (by decide +kernel), List.mem_of_getElem? (i := 1624) (by decide +kernel)⟩
theorem lw_p90 : lw_okq (⟨"NoonOnABarrowModel", "worked", "(IJJ)J"⟩, 47) := ⟨⟨by decide +kernel, by decide +kernel⟩, List.mem_of_getElem? (i := 1238) (by decide +kernel), List.mem_of_getElem? (i := 1627) (by decide +kernel), List.mem_of_getElem? (i := 1628) (by decide +kernel)⟩
theorem lw_p91 : lw_okq (⟨"NoonOnABarrowModel", "farBy", "(JJ)J"⟩, 47) := ⟨⟨by decide +kernel, by decide +kernel⟩, List.mem_of_getElem? (i := 1238) (by decide +kernel), List.mem_of_getElem? (i := 1636) (by decide +kernel), List.mem_of_getElem? (i := 1637) (by decide +kernel)⟩
theorem lw_p92 : lw_okq (⟨"NoonOnABarrowModel", "keepsNow", "()V"⟩, 47) := ⟨⟨by decide +kernel, by decide +kernel⟩, List.mem_of_getElem? (i := 1238) (by decide +kernel), List.mem_of_getElem? (i := 1644) (by decide +kernel), List.mem_of_getElem? (i := 1645) (by decide +kernel)⟩
theorem lw_p93 : lw_okq (⟨"NoonOnABarrowModel", "tips", "()V"⟩, 47) := ⟨⟨by decide +kernel, by decide +kernel⟩, List.mem_of_getElem? (i := 1238) (by decide +kernel), List.mem_of_getElem? (i := 1652) (by decide +kernel), List.mem_of_getElem? (i := 1653) (by decide +kernel)⟩
theorem lw_p94 : lw_okq (⟨"NoonOnABarrowModel", "lies", "(I)V"⟩, 47) := ⟨⟨by decide +kernel, by decide +kernel⟩, List.mem_of_getElem? (i := 1238) (by decide +kernel), List.mem_of_getElem? (i := 1656) (by decide +kernel), List.mem_of_getElem? (i := 1657) (by decide +kernel)⟩
theorem lw_p95 : lw_okq (⟨"NoonOnABarrowModel", "minutePasses", "()I"⟩, 47) := ⟨⟨by decide +kernel, by decide +kernel⟩, List.mem_of_getElem? (i := 1238) (by decide +kernel), List.mem_of_getElem? (i := 1668) (by decide +kernel), List.mem_of_getElem? (i := 1669) (by decide +kernel)⟩
def lw_privs_6 : List (MethodName × Nat) := [(⟨"NoonOnABarrowModel", "numberBehind", "(III)I"⟩, 47), (⟨"NoonOnABarrowModel", "laysNow", "()V"⟩, 47), (⟨"NoonOnABarrowModel", "laysFar", "()V"⟩, 47), (⟨"NoonOnABarrowModel", "canPush", "(II)Z"⟩, 47), (⟨"NoonOnABarrowModel", "keepsStep", "()V"⟩, 47), (⟨"NoonOnABarrowModel", "pushes", "(II)V"⟩, 47), (⟨"NoonOnABarrowModel", "hardOf", "(III)I"⟩, 47), (⟨"NoonOnABarrowModel", "ordersOf", "(I)I"⟩, 47), (⟨"NoonOnABarrowModel", "names", "(I)V"⟩, 47), (⟨"NoonOnABarrowModel", "saysOf", "(I)J"⟩, 47), (⟨"NoonOnABarrowModel", "worked", "(IJJ)J"⟩, 47), (⟨"NoonOnABarrowModel", "farBy", "(JJ)J"⟩, 47), (⟨"NoonOnABarrowModel", "keepsNow", "()V"⟩, 47), (⟨"NoonOnABarrowModel", "tips", "()V"⟩, 47), (⟨"NoonOnABarrowModel", "lies", "(I)V"⟩, 47), (⟨"NoonOnABarrowModel", "minutePasses", "()I"⟩, 47)]
theorem lw_r6 : ∀ q ∈ lw_privs_6, lw_okq q := List.forall_mem_cons.mpr ⟨lw_p80, List.forall_mem_cons.mpr ⟨lw_p81, List.forall_mem_cons.mpr ⟨lw_p82, List.forall_mem_cons.mpr ⟨lw_p83, List.forall_mem_cons.mpr ⟨lw_p84, List.forall_mem_cons.mpr ⟨lw_p85, List.forall_mem_cons.mpr ⟨lw_p86, List.forall_mem_cons.mpr ⟨lw_p87, List.forall_mem_cons.mpr ⟨lw_p88, List.forall_mem_cons.mpr ⟨lw_p89, List.forall_mem_cons.mpr ⟨lw_p90, List.forall_mem_cons.mpr ⟨lw_p91, List.forall_mem_cons.mpr ⟨lw_p92, List.forall_mem_cons.mpr ⟨lw_p93, List.forall_mem_cons.mpr ⟨lw_p94, List.forall_mem_cons.mpr ⟨lw_p95, fun _ h => absurd h List.not_mem_nil⟩⟩⟩⟩⟩⟩⟩⟩⟩⟩⟩⟩⟩⟩⟩⟩
theorem lw_p96 : lw_okq (⟨"NoonOnABarrowModel", "rolls", "()V"⟩, 47) := ⟨⟨by decide +kernel, by decide +kernel⟩, List.mem_of_getElem? (i := 1238) (by decide +kernel), List.mem_of_getElem? (i := 1672) (by decide +kernel), List.mem_of_getElem? (i := 1673) (by decide +kernel)⟩
theorem lw_p97 : lw_okq (⟨"NoonOnABarrowModel", "wearsNow", "()I"⟩, 47) := ⟨⟨by decide +kernel, by decide +kernel⟩, List.mem_of_getElem? (i := 1238) (by decide +kernel), List.mem_of_getElem? (i := 1676) (by decide +kernel), List.mem_of_getElem? (i := 1677) (by decide +kernel)⟩
theorem lw_p98 : lw_okq (⟨"NoonOnABarrowModel", "earnsOf", "(I)I"⟩, 47) := ⟨⟨by decide +kernel, by decide +kernel⟩, List.mem_of_getElem? (i := 1238) (by decide +kernel), List.mem_of_getElem? (i := 1680) (by decide +kernel), List.mem_of_getElem? (i := 1681) (by decide +kernel)⟩
theorem lw_p99 : lw_okq (⟨"NoonOnABarrowModel", "hourAt", "(II)I"⟩, 47) := ⟨⟨by decide +kernel, by decide +kernel⟩, List.mem_of_getElem? (i := 1238) (by decide +kernel), List.mem_of_getElem? (i := 1684) (by decide +kernel), List.mem_of_getElem? (i := 1685) (by decide +kernel)⟩
theorem lw_p100 : lw_okq (⟨"NoonOnABarrowModel", "writes", "(I)V"⟩, 47) := ⟨⟨by decide +kernel, by decide +kernel⟩, List.mem_of_getElem? (i := 1238) (by decide +kernel), List.mem_of_getElem? (i := 1694) (by decide +kernel), List.mem_of_getElem? (i := 1695) (by decide +kernel)⟩
theorem lw_p101 : lw_okq (⟨"NoonOnABarrowModel", "happens", "()V"⟩, 47) := ⟨⟨by decide +kernel, by decide +kernel⟩, List.mem_of_getElem? (i := 1238) (by decide +kernel), List.mem_of_getElem? (i := 1702) (by decide +kernel), List.mem_of_getElem? (i := 1703) (by decide +kernel)⟩
theorem lw_p102 : lw_okq (⟨"NoonOnABarrowModel", "draw", "(I)I"⟩, 47) := ⟨⟨by decide +kernel, by decide +kernel⟩, List.mem_of_getElem? (i := 1238) (by decide +kernel), List.mem_of_getElem? (i := 1706) (by decide +kernel), List.mem_of_getElem? (i := 1707) (by decide +kernel)⟩
theorem lw_p103 : lw_okq (⟨"NoonOnABarrowModel", "canPass", "()Z"⟩, 47) := ⟨⟨by decide +kernel, by decide +kernel⟩, List.mem_of_getElem? (i := 1238) (by decide +kernel), List.mem_of_getElem? (i := 1710) (by decide +kernel), List.mem_of_getElem? (i := 1711) (by decide +kernel)⟩
theorem lw_p104 : lw_okq (⟨"NoonOnABarrowModel", "minutes", "(I)Z"⟩, 47) := ⟨⟨by decide +kernel, by decide +kernel⟩, List.mem_of_getElem? (i := 1238) (by decide +kernel), List.mem_of_getElem? (i := 1724) (by decide +kernel), List.mem_of_getElem? (i := 1725) (by decide +kernel)⟩
theorem lw_p105 : lw_okq (⟨"NoonOnABarrowModel", "warmOf", "(II)I"⟩, 47) := ⟨⟨by decide +kernel, by decide +kernel⟩, List.mem_of_getElem? (i := 1238) (by decide +kernel), List.mem_of_getElem? (i := 1737) (by decide +kernel), List.mem_of_getElem? (i := 1738) (by decide +kernel)⟩
theorem lw_p106 : lw_okq (⟨"NoonOnABarrowModel", "isWanted", "(II)Z"⟩, 47) := ⟨⟨by decide +kernel, by decide +kernel⟩, List.mem_of_getElem? (i := 1238) (by decide +kernel), List.mem_of_getElem? (i := 1769) (by decide +kernel), List.mem_of_getElem? (i := 1770) (by decide +kernel)⟩
theorem lw_p107 : lw_okq (⟨"NoonOnABarrowModel", "laysYet", "()V"⟩, 47) := ⟨⟨by decide +kernel, by decide +kernel⟩, List.mem_of_getElem? (i := 1238) (by decide +kernel), List.mem_of_getElem? (i := 1777) (by decide +kernel), List.mem_of_getElem? (i := 1778) (by decide +kernel)⟩
theorem lw_p108 : lw_okq (⟨"NoonOnABarrowModel", "doneAt", "(II)I"⟩, 47) := ⟨⟨by decide +kernel, by decide +kernel⟩, List.mem_of_getElem? (i := 1238) (by decide +kernel), List.mem_of_getElem? (i := 1781) (by decide +kernel), List.mem_of_getElem? (i := 1782) (by decide +kernel)⟩
theorem lw_p109 : lw_okq (⟨"NoonOnABarrowModel", "laysPushing", "(II)V"⟩, 47) := ⟨⟨by decide +kernel, by decide +kernel⟩, List.mem_of_getElem? (i := 1238) (by decide +kernel), List.mem_of_getElem? (i := 1789) (by decide +kernel), List.mem_of_getElem? (i := 1790) (by decide +kernel)⟩
theorem lw_p110 : lw_okq (⟨"NoonOnABarrowModel", "doesBeat", "(II)Z"⟩, 47) := ⟨⟨by decide +kernel, by decide +kernel⟩, List.mem_of_getElem? (i := 1238) (by decide +kernel), List.mem_of_getElem? (i := 1798) (by decide +kernel), List.mem_of_getElem? (i := 1799) (by decide +kernel)⟩
theorem lw_p111 : lw_okq (⟨"NoonOnABarrowModel", "isAhead", "(II)Z"⟩, 47) := ⟨⟨by decide +kernel, by decide +kernel⟩, List.mem_of_getElem? (i := 1238) (by decide +kernel), List.mem_of_getElem? (i := 1817) (by decide +kernel), List.mem_of_getElem? (i := 1818) (by decide +kernel)⟩
def lw_privs_7 : List (MethodName × Nat) := [(⟨"NoonOnABarrowModel", "rolls", "()V"⟩, 47), (⟨"NoonOnABarrowModel", "wearsNow", "()I"⟩, 47), (⟨"NoonOnABarrowModel", "earnsOf", "(I)I"⟩, 47), (⟨"NoonOnABarrowModel", "hourAt", "(II)I"⟩, 47), (⟨"NoonOnABarrowModel", "writes", "(I)V"⟩, 47), (⟨"NoonOnABarrowModel", "happens", "()V"⟩, 47), (⟨"NoonOnABarrowModel", "draw", "(I)I"⟩, 47), (⟨"NoonOnABarrowModel", "canPass", "()Z"⟩, 47), (⟨"NoonOnABarrowModel", "minutes", "(I)Z"⟩, 47), (⟨"NoonOnABarrowModel", "warmOf", "(II)I"⟩, 47), (⟨"NoonOnABarrowModel", "isWanted", "(II)Z"⟩, 47), (⟨"NoonOnABarrowModel", "laysYet", "()V"⟩, 47), (⟨"NoonOnABarrowModel", "doneAt", "(II)I"⟩, 47), (⟨"NoonOnABarrowModel", "laysPushing", "(II)V"⟩, 47), (⟨"NoonOnABarrowModel", "doesBeat", "(II)Z"⟩, 47), (⟨"NoonOnABarrowModel", "isAhead", "(II)Z"⟩, 47)]
theorem lw_r7 : ∀ q ∈ lw_privs_7, lw_okq q := List.forall_mem_cons.mpr ⟨lw_p96, List.forall_mem_cons.mpr ⟨lw_p97, List.forall_mem_cons.mpr ⟨lw_p98, List.forall_mem_cons.mpr ⟨lw_p99, List.forall_mem_cons.mpr ⟨lw_p100, List.forall_mem_cons.mpr ⟨lw_p101, List.forall_mem_cons.mpr ⟨lw_p102, List.forall_mem_cons.mpr ⟨lw_p103, List.forall_mem_cons.mpr ⟨lw_p104, List.forall_mem_cons.mpr ⟨lw_p105, List.forall_mem_cons.mpr ⟨lw_p106, List.forall_mem_cons.mpr ⟨lw_p107, List.forall_mem_cons.mpr ⟨lw_p108, List.forall_mem_cons.mpr ⟨lw_p109, List.forall_mem_cons.mpr ⟨lw_p110, List.forall_mem_cons.mpr ⟨lw_p111, fun _ h => absurd h List.not_mem_nil⟩⟩⟩⟩⟩⟩⟩⟩⟩⟩⟩⟩⟩⟩⟩⟩
theorem lw_p112 : lw_okq (⟨"NoonOnABarrowModel", "answersAt", "(II)I"⟩, 47) := ⟨⟨by decide +kernel, by decide +kernel⟩, List.mem_of_getElem? (i := 1238) (by decide +kernel), List.mem_of_getElem? (i := 1834) (by decide +kernel), List.mem_of_getElem? (i := 1835) (by decide +kernel)⟩
theorem lw_p113 : lw_okq (⟨"NoonOnABarrowModel", "watchedBy", "(II)I"⟩, 47) := ⟨⟨by decide +kernel, by decide +kernel⟩, List.mem_of_getElem? (i := 1238) (by decide +kernel), List.mem_of_getElem? (i := 1849) (by decide +kernel), List.mem_of_getElem? (i := 1850) (by decide +kernel)⟩
def lw_privs_8 : List (MethodName × Nat) := [(⟨"NoonOnABarrowModel", "answersAt", "(II)I"⟩, 47), (⟨"NoonOnABarrowModel", "watchedBy", "(II)I"⟩, 47)]
theorem lw_r8 : ∀ q ∈ lw_privs_8, lw_okq q := List.forall_mem_cons.mpr ⟨lw_p112, List.forall_mem_cons.mpr ⟨lw_p113, fun _ h => absurd h List.not_mem_nil⟩⟩
def lw_privs : List (MethodName × Nat) := lw_privs_1 ++ (lw_privs_2 ++ (lw_privs_3 ++ (lw_privs_4 ++ (lw_privs_5 ++ (lw_privs_6 ++ (lw_privs_7 ++ (lw_privs_8)))))))
def lw_tbl : List Cond := k2_sels lw_privs ++ tables_1
theorem lw_privs_ok : ∀ q ∈ lw_privs, lw_okq q := by
  show ∀ q ∈ lw_privs_1 ++ (lw_privs_2 ++ (lw_privs_3 ++ (lw_privs_4 ++ (lw_privs_5 ++ (lw_privs_6 ++ (lw_privs_7 ++ (lw_privs_8))))))), lw_okq q
  exact List.forall_mem_append.mpr ⟨lw_r1, List.forall_mem_append.mpr ⟨lw_r2, List.forall_mem_append.mpr ⟨lw_r3, List.forall_mem_append.mpr ⟨lw_r4, List.forall_mem_append.mpr ⟨lw_r5, List.forall_mem_append.mpr ⟨lw_r6, List.forall_mem_append.mpr ⟨lw_r7, lw_r8⟩⟩⟩⟩⟩⟩⟩
end
section
def RX0 : String := "NoonOnABarrow$Counsel"
def TX0 : u_T := fun k => match k with
  | 0 => ("NoonOnABarrow$Counsel", "land", "LNoonOnABarrow$Land;", true)
  | 1 => ("NoonOnABarrow$Counsel", "laws", "LNoonOnABarrow$Laws;", true)
  | _ => ("NoonOnABarrow$Counsel", "row", "[I", true)
def tyX0 : Nat → FieldType := fun k => match k with
  | 0 => .object "NoonOnABarrow$Land"
  | 1 => .object "NoonOnABarrow$Laws"
  | _ => .array .int
abbrev wsX00 : List Cond := u_ws RX0 TX0 3
theorem nmX0 : ∀ a, a < 3 → ∀ b, b < 3 → a ≠ b → (TX0 a).2.1 ≠ (TX0 b).2.1 := by decide +kernel
theorem tyX0_ok : ∀ k, k < 3 → parseFieldDescriptor (TX0 k).2.2.1 = some (tyX0 k) := by decide +kernel
abbrev cX0_init : ByteArray := prog_2_method_1_code
def yX0_init : MethodName := ⟨RX0, "<init>", "(LNoonOnABarrow$Land;LNoonOnABarrow$Laws;)V"⟩
abbrev cX0_placesFitting : ByteArray := prog_2_method_2_code
def yX0_placesFitting : MethodName := ⟨RX0, "placesFitting", "()I"⟩
abbrev cX0_fits : ByteArray := prog_2_method_3_code
def yX0_fits : MethodName := ⟨RX0, "fits", "(I)Z"⟩
abbrev cX0_voted : ByteArray := prog_2_method_4_code
def yX0_voted : MethodName := ⟨RX0, "voted", "()I"⟩
abbrev cX0_beatsAll : ByteArray := prog_2_method_5_code
def yX0_beatsAll : MethodName := ⟨RX0, "beatsAll", "(I)Z"⟩
abbrev cX0_beats : ByteArray := prog_2_method_6_code
def yX0_beats : MethodName := ⟨RX0, "beats", "(II)Z"⟩
abbrev cX0_leftOfRow : ByteArray := prog_2_method_7_code
def yX0_leftOfRow : MethodName := ⟨RX0, "leftOfRow", "(II)I"⟩
abbrev cX0_isRow : ByteArray := prog_2_method_8_code
def yX0_isRow : MethodName := ⟨RX0, "isRow", "(II)Z"⟩
abbrev cX0_fairTurn : ByteArray := prog_2_method_9_code
def yX0_fairTurn : MethodName := ⟨RX0, "fairTurn", "(I)I"⟩
abbrev cX0_leastServed : ByteArray := prog_2_method_10_code
def yX0_leastServed : MethodName := ⟨RX0, "leastServed", "()I"⟩
abbrev cX0_isServedLess : ByteArray := prog_2_method_11_code
def yX0_isServedLess : MethodName := ⟨RX0, "isServedLess", "(II)Z"⟩
abbrev cX0_placesInFog : ByteArray := prog_2_method_12_code
def yX0_placesInFog : MethodName := ⟨RX0, "placesInFog", "(LNoonOnABarrow$Day;)I"⟩
abbrev cX0_mayBeAt : ByteArray := prog_2_method_13_code
def yX0_mayBeAt : MethodName := ⟨RX0, "mayBeAt", "(LNoonOnABarrow$Day;I)Z"⟩
abbrev cX0_yardToFeel : ByteArray := prog_2_method_14_code
def yX0_yardToFeel : MethodName := ⟨RX0, "yardToFeel", "(LNoonOnABarrow$Day;)I"⟩
abbrev cX0_answersAt : ByteArray := prog_2_method_15_code
def yX0_answersAt : MethodName := ⟨RX0, "answersAt", "(LNoonOnABarrow$Day;II)I"⟩
abbrev cX0_withAnswer : ByteArray := prog_2_method_16_code
def yX0_withAnswer : MethodName := ⟨RX0, "withAnswer", "(II)I"⟩
abbrev cX0_farthestFromNoon : ByteArray := prog_2_method_17_code
def yX0_farthestFromNoon : MethodName := ⟨RX0, "farthestFromNoon", "(I)I"⟩
abbrev cX0_bestWatch : ByteArray := prog_2_method_18_code
def yX0_bestWatch : MethodName := ⟨RX0, "bestWatch", "(II)I"⟩
abbrev cX0_nearBits : ByteArray := prog_2_method_19_code
def yX0_nearBits : MethodName := ⟨RX0, "nearBits", "(II)I"⟩
abbrev cX0_watchedBy : ByteArray := prog_2_method_20_code
def yX0_watchedBy : MethodName := ⟨RX0, "watchedBy", "(I)I"⟩
def RX1 : String := "NoonOnABarrow$Day"
def TX1 : u_T := fun k => match k with
  | 0 => ("NoonOnABarrow$Day", "house", "I", false)
  | 1 => ("NoonOnABarrow$Day", "to", "I", false)
  | 2 => ("NoonOnABarrow$Day", "left", "I", false)
  | 3 => ("NoonOnABarrow$Day", "pusher", "I", false)
  | 4 => ("NoonOnABarrow$Day", "wheels", "I", false)
  | 5 => ("NoonOnABarrow$Day", "minute", "I", false)
  | 6 => ("NoonOnABarrow$Day", "x", "I", false)
  | 7 => ("NoonOnABarrow$Day", "purse", "[I", true)
  | 8 => ("NoonOnABarrow$Day", "pale", "[I", true)
  | 9 => ("NoonOnABarrow$Day", "debts", "I", false)
  | _ => ("NoonOnABarrow$Day", "book", "[I", true)
def tyX1 : Nat → FieldType := fun k => match k with
  | 0 => .int
  | 1 => .int
  | 2 => .int
  | 3 => .int
  | 4 => .int
  | 5 => .int
  | 6 => .int
  | 7 => .array .int
  | 8 => .array .int
  | 9 => .int
  | _ => .array .int
abbrev wsX10 : List Cond := u_ws RX1 TX1 11
theorem nmX1 : ∀ a, a < 11 → ∀ b, b < 11 → a ≠ b → (TX1 a).2.1 ≠ (TX1 b).2.1 := by decide +kernel
theorem tyX1_ok : ∀ k, k < 11 → parseFieldDescriptor (TX1 k).2.2.1 = some (tyX1 k) := by decide +kernel
abbrev cX1_init : ByteArray := prog_3_method_1_code
def yX1_init : MethodName := ⟨RX1, "<init>", "()V"⟩
abbrev cX1_copyFrom : ByteArray := prog_3_method_2_code
def yX1_copyFrom : MethodName := ⟨RX1, "copyFrom", "(LNoonOnABarrow$Day;)V"⟩
abbrev cX1_lieAt : ByteArray := prog_3_method_3_code
def yX1_lieAt : MethodName := ⟨RX1, "lieAt", "(I)V"⟩
abbrev cX1_purseOf : ByteArray := prog_3_method_4_code
def yX1_purseOf : MethodName := ⟨RX1, "purseOf", "(I)I"⟩
abbrev cX1_paleOf : ByteArray := prog_3_method_5_code
def yX1_paleOf : MethodName := ⟨RX1, "paleOf", "(I)I"⟩
abbrev cX1_writeDebt : ByteArray := prog_3_method_6_code
def yX1_writeDebt : MethodName := ⟨RX1, "writeDebt", "(II)V"⟩
abbrev cX1_debtWritten : ByteArray := prog_3_method_7_code
def yX1_debtWritten : MethodName := ⟨RX1, "debtWritten", "(II)I"⟩
abbrev cX1_draw : ByteArray := prog_3_method_8_code
def yX1_draw : MethodName := ⟨RX1, "draw", "(I)I"⟩
def RX2 : String := "NoonOnABarrow$Doings"
def TX2 : u_T := fun k => match k with
  | 0 => ("NoonOnABarrow$Doings", "land", "LNoonOnABarrow$Land;", true)
  | _ => ("NoonOnABarrow$Doings", "laws", "LNoonOnABarrow$Laws;", true)
def tyX2 : Nat → FieldType := fun k => match k with
  | 0 => .object "NoonOnABarrow$Land"
  | _ => .object "NoonOnABarrow$Laws"
abbrev wsX20 : List Cond := u_ws RX2 TX2 2
theorem nmX2 : ∀ a, a < 2 → ∀ b, b < 2 → a ≠ b → (TX2 a).2.1 ≠ (TX2 b).2.1 := by decide +kernel
theorem tyX2_ok : ∀ k, k < 2 → parseFieldDescriptor (TX2 k).2.2.1 = some (tyX2 k) := by decide +kernel
abbrev cX2_init : ByteArray := prog_4_method_1_code
def yX2_init : MethodName := ⟨RX2, "<init>", "(LNoonOnABarrow$Land;LNoonOnABarrow$Laws;)V"⟩
abbrev cX2_canSetOff : ByteArray := prog_4_method_2_code
def yX2_canSetOff : MethodName := ⟨RX2, "canSetOff", "(LNoonOnABarrow$Day;II)Z"⟩
abbrev cX2_setOff : ByteArray := prog_4_method_3_code
def yX2_setOff : MethodName := ⟨RX2, "setOff", "(LNoonOnABarrow$Day;II)V"⟩
abbrev cX2_tipOver : ByteArray := prog_4_method_4_code
def yX2_tipOver : MethodName := ⟨RX2, "tipOver", "(LNoonOnABarrow$Day;)V"⟩
abbrev cX2_passMinute : ByteArray := prog_4_method_5_code
def yX2_passMinute : MethodName := ⟨RX2, "passMinute", "(LNoonOnABarrow$Day;)I"⟩
abbrev cX2_roll : ByteArray := prog_4_method_6_code
def yX2_roll : MethodName := ⟨RX2, "roll", "(LNoonOnABarrow$Day;)V"⟩
abbrev cX2_fallsInDebt : ByteArray := prog_4_method_7_code
def yX2_fallsInDebt : MethodName := ⟨RX2, "fallsInDebt", "(LNoonOnABarrow$Day;I)Z"⟩
abbrev cX2_doAsDrawn : ByteArray := prog_4_method_8_code
def yX2_doAsDrawn : MethodName := ⟨RX2, "doAsDrawn", "(LNoonOnABarrow$Day;)V"⟩
abbrev cX2_setOffAsDrawn : ByteArray := prog_4_method_9_code
def yX2_setOffAsDrawn : MethodName := ⟨RX2, "setOffAsDrawn", "(LNoonOnABarrow$Day;)V"⟩
def RX3 : String := "NoonOnABarrow$Land"
def TX3 : u_T := fun k => match k with
  | 0 => ("NoonOnABarrow$Land", "houses", "I", false)
  | 1 => ("NoonOnABarrow$Land", "pushers", "I", false)
  | 2 => ("NoonOnABarrow$Land", "hill", "[I", true)
  | 3 => ("NoonOnABarrow$Land", "weight", "[I", true)
  | 4 => ("NoonOnABarrow$Land", "strength", "[I", true)
  | 5 => ("NoonOnABarrow$Land", "lane", "[I", true)
  | 6 => ("NoonOnABarrow$Land", "way", "[I", true)
  | 7 => ("NoonOnABarrow$Land", "wanted", "LNoonOnABarrow$Pairs;", true)
  | _ => ("NoonOnABarrow$Land", "felt", "LNoonOnABarrow$Pairs;", true)
def tyX3 : Nat → FieldType := fun k => match k with
  | 0 => .int
  | 1 => .int
  | 2 => .array .int
  | 3 => .array .int
  | 4 => .array .int
  | 5 => .array .int
  | 6 => .array .int
  | 7 => .object "NoonOnABarrow$Pairs"
  | _ => .object "NoonOnABarrow$Pairs"
abbrev wsX30 : List Cond := u_ws RX3 TX3 9
theorem nmX3 : ∀ a, a < 9 → ∀ b, b < 9 → a ≠ b → (TX3 a).2.1 ≠ (TX3 b).2.1 := by decide +kernel
theorem tyX3_ok : ∀ k, k < 9 → parseFieldDescriptor (TX3 k).2.2.1 = some (tyX3 k) := by decide +kernel
abbrev cX3_init : ByteArray := prog_5_method_1_code
def yX3_init : MethodName := ⟨RX3, "<init>", "()V"⟩
abbrev cX3_copyFrom : ByteArray := prog_5_method_2_code
def yX3_copyFrom : MethodName := ⟨RX3, "copyFrom", "(LNoonOnABarrow$Land;)V"⟩
abbrev cX3_isHouse : ByteArray := prog_5_method_3_code
def yX3_isHouse : MethodName := ⟨RX3, "isHouse", "(I)Z"⟩
abbrev cX3_isPusher : ByteArray := prog_5_method_4_code
def yX3_isPusher : MethodName := ⟨RX3, "isPusher", "(I)Z"⟩
abbrev cX3_addHouse : ByteArray := prog_5_method_5_code
def yX3_addHouse : MethodName := ⟨RX3, "addHouse", "(I)I"⟩
abbrev cX3_addPusher : ByteArray := prog_5_method_6_code
def yX3_addPusher : MethodName := ⟨RX3, "addPusher", "(I)I"⟩
abbrev cX3_setLane : ByteArray := prog_5_method_7_code
def yX3_setLane : MethodName := ⟨RX3, "setLane", "(III)V"⟩
abbrev cX3_measure : ByteArray := prog_5_method_8_code
def yX3_measure : MethodName := ⟨RX3, "measure", "()V"⟩
abbrev cX3_shorten : ByteArray := prog_5_method_9_code
def yX3_shorten : MethodName := ⟨RX3, "shorten", "(II)V"⟩
abbrev cX3_hillOf : ByteArray := prog_5_method_10_code
def yX3_hillOf : MethodName := ⟨RX3, "hillOf", "(I)I"⟩
abbrev cX3_strengthOf : ByteArray := prog_5_method_11_code
def yX3_strengthOf : MethodName := ⟨RX3, "strengthOf", "(I)I"⟩
abbrev cX3_laneBetween : ByteArray := prog_5_method_12_code
def yX3_laneBetween : MethodName := ⟨RX3, "laneBetween", "(II)I"⟩
abbrev cX3_wayBetween : ByteArray := prog_5_method_13_code
def yX3_wayBetween : MethodName := ⟨RX3, "wayBetween", "(II)I"⟩
abbrev cX3_hourBy : ByteArray := prog_5_method_14_code
def yX3_hourBy : MethodName := ⟨RX3, "hourBy", "(II)I"⟩
abbrev cX3_noteDown : ByteArray := prog_5_method_15_code
def yX3_noteDown : MethodName := ⟨RX3, "noteDown", "(LNoonOnABarrow$Pairs;III)I"⟩
def RX4 : String := "NoonOnABarrow$Laws"
def TX4 : u_T := fun k => match k with
  | 0 => ("NoonOnABarrow$Laws", "land", "LNoonOnABarrow$Land;", true)
  | 1 => ("NoonOnABarrow$Laws", "named", "[I", true)
  | 2 => ("NoonOnABarrow$Laws", "stack", "[I", true)
  | 3 => ("NoonOnABarrow$Laws", "top", "I", false)
  | _ => ("NoonOnABarrow$Laws", "ruler", "LNoonOnABarrow$Text;", false)
def tyX4 : Nat → FieldType := fun k => match k with
  | 0 => .object "NoonOnABarrow$Land"
  | 1 => .array .int
  | 2 => .array .int
  | 3 => .int
  | _ => .object "NoonOnABarrow$Text"
abbrev wsX40 : List Cond := u_ws RX4 TX4 5
theorem nmX4 : ∀ a, a < 5 → ∀ b, b < 5 → a ≠ b → (TX4 a).2.1 ≠ (TX4 b).2.1 := by decide +kernel
theorem tyX4_ok : ∀ k, k < 5 → parseFieldDescriptor (TX4 k).2.2.1 = some (tyX4 k) := by decide +kernel
abbrev cX4_init : ByteArray := prog_6_method_1_code
def yX4_init : MethodName := ⟨RX4, "<init>", "(LNoonOnABarrow$Land;)V"⟩
abbrev cX4_rules : ByteArray := prog_6_method_2_code
def yX4_rules : MethodName := ⟨RX4, "rules", "(I)Z"⟩
abbrev cX4_nameHere : ByteArray := prog_6_method_3_code
def yX4_nameHere : MethodName := ⟨RX4, "nameHere", "(LNoonOnABarrow$Day;I)V"⟩
abbrev cX4_hardness : ByteArray := prog_6_method_4_code
def yX4_hardness : MethodName := ⟨RX4, "hardness", "(LNoonOnABarrow$Day;III)I"⟩
abbrev cX4_wearing : ByteArray := prog_6_method_5_code
def yX4_wearing : MethodName := ⟨RX4, "wearing", "(LNoonOnABarrow$Day;)I"⟩
abbrev cX4_earning : ByteArray := prog_6_method_6_code
def yX4_earning : MethodName := ⟨RX4, "earning", "(LNoonOnABarrow$Day;I)I"⟩
abbrev cX4_warmth : ByteArray := prog_6_method_7_code
def yX4_warmth : MethodName := ⟨RX4, "warmth", "(LNoonOnABarrow$Day;II)I"⟩
abbrev cX4_said : ByteArray := prog_6_method_8_code
def yX4_said : MethodName := ⟨RX4, "said", "(I)I"⟩
abbrev cX4_lay : ByteArray := prog_6_method_9_code
def yX4_lay : MethodName := ⟨RX4, "lay", "(I)V"⟩
abbrev cX4_lift : ByteArray := prog_6_method_10_code
def yX4_lift : MethodName := ⟨RX4, "lift", "()I"⟩
abbrev cX4_joined : ByteArray := prog_6_method_11_code
def yX4_joined : MethodName := ⟨RX4, "joined", "(III)I"⟩
def RX5 : String := "NoonOnABarrow$Pairs"
def TX5 : u_T := fun k => match k with
  | 0 => ("NoonOnABarrow$Pairs", "house", "[I", true)
  | 1 => ("NoonOnABarrow$Pairs", "number", "[I", true)
  | _ => ("NoonOnABarrow$Pairs", "count", "I", false)
def tyX5 : Nat → FieldType := fun k => match k with
  | 0 => .array .int
  | 1 => .array .int
  | _ => .int
abbrev wsX50 : List Cond := u_ws RX5 TX5 3
theorem nmX5 : ∀ a, a < 3 → ∀ b, b < 3 → a ≠ b → (TX5 a).2.1 ≠ (TX5 b).2.1 := by decide +kernel
theorem tyX5_ok : ∀ k, k < 3 → parseFieldDescriptor (TX5 k).2.2.1 = some (tyX5 k) := by decide +kernel
abbrev cX5_init : ByteArray := prog_7_method_1_code
def yX5_init : MethodName := ⟨RX5, "<init>", "()V"⟩
abbrev cX5_copyFrom : ByteArray := prog_7_method_2_code
def yX5_copyFrom : MethodName := ⟨RX5, "copyFrom", "(LNoonOnABarrow$Pairs;)V"⟩
def RX6 : String := "NoonOnABarrow$Reader"
def TX6 : u_T := fun k => match k with
  | 0 => ("NoonOnABarrow$Reader", "tape", "LNoonOnABarrow$Tape;", true)
  | 1 => ("NoonOnABarrow$Reader", "text", "LNoonOnABarrow$Text;", false)
  | 2 => ("NoonOnABarrow$Reader", "at", "I", false)
  | 3 => ("NoonOnABarrow$Reader", "law", "I", false)
  | 4 => ("NoonOnABarrow$Reader", "fault", "I", false)
  | _ => ("NoonOnABarrow$Reader", "place", "I", false)
def tyX6 : Nat → FieldType := fun k => match k with
  | 0 => .object "NoonOnABarrow$Tape"
  | 1 => .object "NoonOnABarrow$Text"
  | 2 => .int
  | 3 => .int
  | 4 => .int
  | _ => .int
abbrev wsX60 : List Cond := u_ws RX6 TX6 6
theorem nmX6 : ∀ a, a < 6 → ∀ b, b < 6 → a ≠ b → (TX6 a).2.1 ≠ (TX6 b).2.1 := by decide +kernel
theorem tyX6_ok : ∀ k, k < 6 → parseFieldDescriptor (TX6 k).2.2.1 = some (tyX6 k) := by decide +kernel
abbrev cX6_init : ByteArray := prog_8_method_1_code
def yX6_init : MethodName := ⟨RX6, "<init>", "(LNoonOnABarrow$Tape;)V"⟩
abbrev cX6_read : ByteArray := prog_8_method_2_code
def yX6_read : MethodName := ⟨RX6, "read", "(LNoonOnABarrow$Text;)V"⟩
abbrev cX6_refuse : ByteArray := prog_8_method_3_code
def yX6_refuse : MethodName := ⟨RX6, "refuse", "(I)V"⟩
abbrev cX6_isNext : ByteArray := prog_8_method_4_code
def yX6_isNext : MethodName := ⟨RX6, "isNext", "(I)Z"⟩
abbrev cX6_expect : ByteArray := prog_8_method_5_code
def yX6_expect : MethodName := ⟨RX6, "expect", "(I)V"⟩
abbrev cX6_expectNumber : ByteArray := prog_8_method_6_code
def yX6_expectNumber : MethodName := ⟨RX6, "expectNumber", "(II)I"⟩
abbrev cX6_readClause : ByteArray := prog_8_method_7_code
def yX6_readClause : MethodName := ⟨RX6, "readClause", "()V"⟩
abbrev cX6_readDeed : ByteArray := prog_8_method_8_code
def yX6_readDeed : MethodName := ⟨RX6, "readDeed", "(I)V"⟩
abbrev cX6_readSum : ByteArray := prog_8_method_9_code
def yX6_readSum : MethodName := ⟨RX6, "readSum", "(I)V"⟩
abbrev cX6_readProduct : ByteArray := prog_8_method_10_code
def yX6_readProduct : MethodName := ⟨RX6, "readProduct", "(I)V"⟩
abbrev cX6_readOne : ByteArray := prog_8_method_11_code
def yX6_readOne : MethodName := ⟨RX6, "readOne", "(I)V"⟩
abbrev cX6_opens : ByteArray := prog_8_method_12_code
def yX6_opens : MethodName := ⟨RX6, "opens", "(I)Z"⟩
abbrev cX6_readName : ByteArray := prog_8_method_13_code
def yX6_readName : MethodName := ⟨RX6, "readName", "()V"⟩
abbrev cX6_readFar : ByteArray := prog_8_method_14_code
def yX6_readFar : MethodName := ⟨RX6, "readFar", "(I)V"⟩
abbrev cX6_readIf : ByteArray := prog_8_method_15_code
def yX6_readIf : MethodName := ⟨RX6, "readIf", "(I)V"⟩
abbrev cX6_readEither : ByteArray := prog_8_method_16_code
def yX6_readEither : MethodName := ⟨RX6, "readEither", "(I)V"⟩
abbrev cX6_readBoth : ByteArray := prog_8_method_17_code
def yX6_readBoth : MethodName := ⟨RX6, "readBoth", "(I)V"⟩
abbrev cX6_readAsk : ByteArray := prog_8_method_18_code
def yX6_readAsk : MethodName := ⟨RX6, "readAsk", "(I)V"⟩
abbrev cX6_compares : ByteArray := prog_8_method_19_code
def yX6_compares : MethodName := ⟨RX6, "compares", "(I)Z"⟩
def RX7 : String := "NoonOnABarrow$Steps"
def TX7 : u_T := fun k => match k with
  | 0 => ("NoonOnABarrow$Steps", "days", "[LNoonOnABarrow$Day;", true)
  | 1 => ("NoonOnABarrow$Steps", "first", "I", false)
  | _ => ("NoonOnABarrow$Steps", "count", "I", false)
def tyX7 : Nat → FieldType := fun k => match k with
  | 0 => .array (.object "NoonOnABarrow$Day")
  | 1 => .int
  | _ => .int
abbrev wsX70 : List Cond := u_ws RX7 TX7 3
theorem nmX7 : ∀ a, a < 3 → ∀ b, b < 3 → a ≠ b → (TX7 a).2.1 ≠ (TX7 b).2.1 := by decide +kernel
theorem tyX7_ok : ∀ k, k < 3 → parseFieldDescriptor (TX7 k).2.2.1 = some (tyX7 k) := by decide +kernel
abbrev cX7_init : ByteArray := prog_9_method_1_code
def yX7_init : MethodName := ⟨RX7, "<init>", "()V"⟩
abbrev cX7_dayAt : ByteArray := prog_9_method_2_code
def yX7_dayAt : MethodName := ⟨RX7, "dayAt", "(I)LNoonOnABarrow$Day;"⟩
abbrev cX7_keep : ByteArray := prog_9_method_3_code
def yX7_keep : MethodName := ⟨RX7, "keep", "(LNoonOnABarrow$Day;)V"⟩
abbrev cX7_takeBack : ByteArray := prog_9_method_4_code
def yX7_takeBack : MethodName := ⟨RX7, "takeBack", "(LNoonOnABarrow$Day;)I"⟩
abbrev cX7_copyFrom : ByteArray := prog_9_method_5_code
def yX7_copyFrom : MethodName := ⟨RX7, "copyFrom", "(LNoonOnABarrow$Steps;)V"⟩
def RX8 : String := "NoonOnABarrow$Tape"
def TX8 : u_T := fun k => match k with
  | 0 => ("NoonOnABarrow$Tape", "bytes", "[I", true)
  | 1 => ("NoonOnABarrow$Tape", "length", "I", false)
  | 2 => ("NoonOnABarrow$Tape", "kinds", "[I", true)
  | 3 => ("NoonOnABarrow$Tape", "values", "[I", true)
  | 4 => ("NoonOnABarrow$Tape", "places", "[I", true)
  | _ => ("NoonOnABarrow$Tape", "tokens", "I", false)
def tyX8 : Nat → FieldType := fun k => match k with
  | 0 => .array .int
  | 1 => .int
  | 2 => .array .int
  | 3 => .array .int
  | 4 => .array .int
  | _ => .int
abbrev wsX80 : List Cond := u_ws RX8 TX8 6
theorem nmX8 : ∀ a, a < 6 → ∀ b, b < 6 → a ≠ b → (TX8 a).2.1 ≠ (TX8 b).2.1 := by decide +kernel
theorem tyX8_ok : ∀ k, k < 6 → parseFieldDescriptor (TX8 k).2.2.1 = some (tyX8 k) := by decide +kernel
abbrev cX8_init : ByteArray := prog_10_method_1_code
def yX8_init : MethodName := ⟨RX8, "<init>", "()V"⟩
abbrev cX8_addFour : ByteArray := prog_10_method_2_code
def yX8_addFour : MethodName := ⟨RX8, "addFour", "(I)V"⟩
abbrev cX8_kindAt : ByteArray := prog_10_method_3_code
def yX8_kindAt : MethodName := ⟨RX8, "kindAt", "(I)I"⟩
abbrev cX8_valueAt : ByteArray := prog_10_method_4_code
def yX8_valueAt : MethodName := ⟨RX8, "valueAt", "(I)I"⟩
abbrev cX8_placeAt : ByteArray := prog_10_method_5_code
def yX8_placeAt : MethodName := ⟨RX8, "placeAt", "(I)I"⟩
abbrev cX8_cut : ByteArray := prog_10_method_6_code
def yX8_cut : MethodName := ⟨RX8, "cut", "()V"⟩
abbrev cX8_byteAt : ByteArray := prog_10_method_7_code
def yX8_byteAt : MethodName := ⟨RX8, "byteAt", "(I)I"⟩
abbrev cX8_isLetter : ByteArray := prog_10_method_8_code
def yX8_isLetter : MethodName := ⟨RX8, "isLetter", "(I)Z"⟩
abbrev cX8_isDigit : ByteArray := prog_10_method_9_code
def yX8_isDigit : MethodName := ⟨RX8, "isDigit", "(I)Z"⟩
abbrev cX8_note : ByteArray := prog_10_method_10_code
def yX8_note : MethodName := ⟨RX8, "note", "(III)V"⟩
abbrev cX8_cutWord : ByteArray := prog_10_method_11_code
def yX8_cutWord : MethodName := ⟨RX8, "cutWord", "(I)I"⟩
abbrev cX8_wordOf : ByteArray := prog_10_method_12_code
def yX8_wordOf : MethodName := ⟨RX8, "wordOf", "(II)I"⟩
abbrev cX8_cutNumber : ByteArray := prog_10_method_13_code
def yX8_cutNumber : MethodName := ⟨RX8, "cutNumber", "(I)I"⟩
abbrev cX8_cutSign : ByteArray := prog_10_method_14_code
def yX8_cutSign : MethodName := ⟨RX8, "cutSign", "(I)I"⟩
def RX9 : String := "NoonOnABarrow$Text"
def TX9 : u_T := fun k => match k with
  | 0 => ("NoonOnABarrow$Text", "kind", "[I", true)
  | 1 => ("NoonOnABarrow$Text", "one", "[I", true)
  | 2 => ("NoonOnABarrow$Text", "two", "[I", true)
  | 3 => ("NoonOnABarrow$Text", "three", "[I", true)
  | 4 => ("NoonOnABarrow$Text", "clauses", "I", false)
  | 5 => ("NoonOnABarrow$Text", "lawFrom", "[I", true)
  | 6 => ("NoonOnABarrow$Text", "lawTo", "[I", true)
  | 7 => ("NoonOnABarrow$Text", "steps", "[I", true)
  | 8 => ("NoonOnABarrow$Text", "givens", "[I", true)
  | _ => ("NoonOnABarrow$Text", "length", "I", false)
def tyX9 : Nat → FieldType := fun k => match k with
  | 0 => .array .int
  | 1 => .array .int
  | 2 => .array .int
  | 3 => .array .int
  | 4 => .int
  | 5 => .array .int
  | 6 => .array .int
  | 7 => .array .int
  | 8 => .array .int
  | _ => .int
abbrev wsX90 : List Cond := u_ws RX9 TX9 10
theorem nmX9 : ∀ a, a < 10 → ∀ b, b < 10 → a ≠ b → (TX9 a).2.1 ≠ (TX9 b).2.1 := by decide +kernel
theorem tyX9_ok : ∀ k, k < 10 → parseFieldDescriptor (TX9 k).2.2.1 = some (tyX9 k) := by decide +kernel
abbrev cX9_init : ByteArray := prog_11_method_1_code
def yX9_init : MethodName := ⟨RX9, "<init>", "()V"⟩
abbrev cX9_empty : ByteArray := prog_11_method_2_code
def yX9_empty : MethodName := ⟨RX9, "empty", "()V"⟩
abbrev cX9_hasLaw : ByteArray := prog_11_method_3_code
def yX9_hasLaw : MethodName := ⟨RX9, "hasLaw", "(I)Z"⟩
abbrev cX9_lawStart : ByteArray := prog_11_method_4_code
def yX9_lawStart : MethodName := ⟨RX9, "lawStart", "(I)I"⟩
abbrev cX9_lawEnd : ByteArray := prog_11_method_5_code
def yX9_lawEnd : MethodName := ⟨RX9, "lawEnd", "(I)I"⟩
abbrev cX9_stepAt : ByteArray := prog_11_method_6_code
def yX9_stepAt : MethodName := ⟨RX9, "stepAt", "(I)I"⟩
abbrev cX9_givenAt : ByteArray := prog_11_method_7_code
def yX9_givenAt : MethodName := ⟨RX9, "givenAt", "(I)I"⟩
abbrev cX9_addClause : ByteArray := prog_11_method_8_code
def yX9_addClause : MethodName := ⟨RX9, "addClause", "(IIII)V"⟩
abbrev cX9_setLaw : ByteArray := prog_11_method_9_code
def yX9_setLaw : MethodName := ⟨RX9, "setLaw", "(II)V"⟩
abbrev cX9_ask : ByteArray := prog_11_method_10_code
def yX9_ask : MethodName := ⟨RX9, "ask", "(II)I"⟩
abbrev cX9_goOnHere : ByteArray := prog_11_method_11_code
def yX9_goOnHere : MethodName := ⟨RX9, "goOnHere", "(I)V"⟩
def RX10 : String := "NoonOnABarrow$Ways"
def TX10 : u_T := fun k => match k with
  | 0 => ("NoonOnABarrow$Ways", "land", "LNoonOnABarrow$Land;", true)
  | 1 => ("NoonOnABarrow$Ways", "laws", "LNoonOnABarrow$Laws;", true)
  | 2 => ("NoonOnABarrow$Ways", "queue", "[I", true)
  | 3 => ("NoonOnABarrow$Ways", "earlier", "[I", true)
  | 4 => ("NoonOnABarrow$Ways", "queued", "I", false)
  | 5 => ("NoonOnABarrow$Ways", "last", "I", false)
  | 6 => ("NoonOnABarrow$Ways", "cost", "[I", true)
  | 7 => ("NoonOnABarrow$Ways", "rest", "[I", true)
  | 8 => ("NoonOnABarrow$Ways", "leastWay", "[I", true)
  | _ => ("NoonOnABarrow$Ways", "lanes", "I", false)
def tyX10 : Nat → FieldType := fun k => match k with
  | 0 => .object "NoonOnABarrow$Land"
  | 1 => .object "NoonOnABarrow$Laws"
  | 2 => .array .int
  | 3 => .array .int
  | 4 => .int
  | 5 => .int
  | 6 => .array .int
  | 7 => .array .int
  | 8 => .array .int
  | _ => .int
abbrev wsX100 : List Cond := u_ws RX10 TX10 10
theorem nmX10 : ∀ a, a < 10 → ∀ b, b < 10 → a ≠ b → (TX10 a).2.1 ≠ (TX10 b).2.1 := by decide +kernel
theorem tyX10_ok : ∀ k, k < 10 → parseFieldDescriptor (TX10 k).2.2.1 = some (tyX10 k) := by decide +kernel
abbrev cX10_init : ByteArray := prog_12_method_1_code
def yX10_init : MethodName := ⟨RX10, "<init>", "(LNoonOnABarrow$Land;LNoonOnABarrow$Laws;)V"⟩
abbrev cX10_seekRoute : ByteArray := prog_12_method_2_code
def yX10_seekRoute : MethodName := ⟨RX10, "seekRoute", "(I)I"⟩
abbrev cX10_goOnFrom : ByteArray := prog_12_method_3_code
def yX10_goOnFrom : MethodName := ⟨RX10, "goOnFrom", "(I)V"⟩
abbrev cX10_comeTo : ByteArray := prog_12_method_4_code
def yX10_comeTo : MethodName := ⟨RX10, "comeTo", "(III)V"⟩
abbrev cX10_lanesBehind : ByteArray := prog_12_method_5_code
def yX10_lanesBehind : MethodName := ⟨RX10, "lanesBehind", "(I)I"⟩
abbrev cX10_placeAhead : ByteArray := prog_12_method_6_code
def yX10_placeAhead : MethodName := ⟨RX10, "placeAhead", "(I)I"⟩
abbrev cX10_routeHouse : ByteArray := prog_12_method_7_code
def yX10_routeHouse : MethodName := ⟨RX10, "routeHouse", "(I)I"⟩
abbrev cX10_seekLeast : ByteArray := prog_12_method_8_code
def yX10_seekLeast : MethodName := ⟨RX10, "seekLeast", "(LNoonOnABarrow$Day;II)I"⟩
abbrev cX10_askCosts : ByteArray := prog_12_method_9_code
def yX10_askCosts : MethodName := ⟨RX10, "askCosts", "(LNoonOnABarrow$Day;I)V"⟩
abbrev cX10_lowerRest : ByteArray := prog_12_method_10_code
def yX10_lowerRest : MethodName := ⟨RX10, "lowerRest", "(I)V"⟩
abbrev cX10_lowestNext : ByteArray := prog_12_method_11_code
def yX10_lowestNext : MethodName := ⟨RX10, "lowestNext", "(I)I"⟩
abbrev cX10_leastHouse : ByteArray := prog_12_method_12_code
def yX10_leastHouse : MethodName := ⟨RX10, "leastHouse", "(I)I"⟩
def RX11 : String := "NoonOnABarrow"
def TX11 : u_T := fun k => match k with
  | 0 => ("NoonOnABarrow", "land", "LNoonOnABarrow$Land;", true)
  | 1 => ("NoonOnABarrow", "day", "LNoonOnABarrow$Day;", true)
  | 2 => ("NoonOnABarrow", "steps", "LNoonOnABarrow$Steps;", true)
  | 3 => ("NoonOnABarrow", "texts", "[LNoonOnABarrow$Text;", true)
  | 4 => ("NoonOnABarrow", "told", "I", false)
  | 5 => ("NoonOnABarrow", "ruling", "I", false)
  | 6 => ("NoonOnABarrow", "imageLand", "LNoonOnABarrow$Land;", true)
  | 7 => ("NoonOnABarrow", "imageDay", "LNoonOnABarrow$Day;", true)
  | 8 => ("NoonOnABarrow", "imageSteps", "LNoonOnABarrow$Steps;", true)
  | 9 => ("NoonOnABarrow", "imageTold", "I", false)
  | 10 => ("NoonOnABarrow", "imageRuling", "I", false)
  | 11 => ("NoonOnABarrow", "tape", "LNoonOnABarrow$Tape;", true)
  | 12 => ("NoonOnABarrow", "reader", "LNoonOnABarrow$Reader;", true)
  | 13 => ("NoonOnABarrow", "laws", "LNoonOnABarrow$Laws;", true)
  | 14 => ("NoonOnABarrow", "doings", "LNoonOnABarrow$Doings;", true)
  | 15 => ("NoonOnABarrow", "ways", "LNoonOnABarrow$Ways;", true)
  | 16 => ("NoonOnABarrow", "counsel", "LNoonOnABarrow$Counsel;", true)
  | _ => ("NoonOnABarrow", "guess", "LNoonOnABarrow$Day;", true)
def tyX11 : Nat → FieldType := fun k => match k with
  | 0 => .object "NoonOnABarrow$Land"
  | 1 => .object "NoonOnABarrow$Day"
  | 2 => .object "NoonOnABarrow$Steps"
  | 3 => .array (.object "NoonOnABarrow$Text")
  | 4 => .int
  | 5 => .int
  | 6 => .object "NoonOnABarrow$Land"
  | 7 => .object "NoonOnABarrow$Day"
  | 8 => .object "NoonOnABarrow$Steps"
  | 9 => .int
  | 10 => .int
  | 11 => .object "NoonOnABarrow$Tape"
  | 12 => .object "NoonOnABarrow$Reader"
  | 13 => .object "NoonOnABarrow$Laws"
  | 14 => .object "NoonOnABarrow$Doings"
  | 15 => .object "NoonOnABarrow$Ways"
  | 16 => .object "NoonOnABarrow$Counsel"
  | _ => .object "NoonOnABarrow$Day"
abbrev wsX110 : List Cond := u_ws RX11 TX11 18
theorem nmX11 : ∀ a, a < 18 → ∀ b, b < 18 → a ≠ b → (TX11 a).2.1 ≠ (TX11 b).2.1 := by decide +kernel
theorem tyX11_ok : ∀ k, k < 18 → parseFieldDescriptor (TX11 k).2.2.1 = some (tyX11 k) := by decide +kernel
abbrev cX11_init : ByteArray := prog_1_method_1_code
def yX11_init : MethodName := ⟨RX11, "<init>", "()V"⟩
abbrev cX11_house : ByteArray := prog_1_method_2_code
def yX11_house : MethodName := ⟨RX11, "house", "(I)I"⟩
abbrev cX11_lane : ByteArray := prog_1_method_3_code
def yX11_lane : MethodName := ⟨RX11, "lane", "(III)Z"⟩
abbrev cX11_pusher : ByteArray := prog_1_method_4_code
def yX11_pusher : MethodName := ⟨RX11, "pusher", "(I)I"⟩
abbrev cX11_push : ByteArray := prog_1_method_5_code
def yX11_push : MethodName := ⟨RX11, "push", "(II)I"⟩
abbrev cX11_tip : ByteArray := prog_1_method_6_code
def yX11_tip : MethodName := ⟨RX11, "tip", "()Z"⟩
abbrev cX11_mend : ByteArray := prog_1_method_7_code
def yX11_mend : MethodName := ⟨RX11, "mend", "()Z"⟩
abbrev cX11_minute : ByteArray := prog_1_method_8_code
def yX11_minute : MethodName := ⟨RX11, "minute", "(I)I"⟩
abbrev cX11_years : ByteArray := prog_1_method_9_code
def yX11_years : MethodName := ⟨RX11, "years", "(II)I"⟩
abbrev cX11_feed : ByteArray := prog_1_method_10_code
def yX11_feed : MethodName := ⟨RX11, "feed", "(IIIII)I"⟩
abbrev cX11_end : ByteArray := prog_1_method_11_code
def yX11_end : MethodName := ⟨RX11, "end", "(I)I"⟩
abbrev cX11_text : ByteArray := prog_1_method_12_code
def yX11_text : MethodName := ⟨RX11, "text", "()I"⟩
abbrev cX11_fault : ByteArray := prog_1_method_13_code
def yX11_fault : MethodName := ⟨RX11, "fault", "(I)I"⟩
abbrev cX11_by : ByteArray := prog_1_method_14_code
def yX11_by : MethodName := ⟨RX11, "by", "(I)Z"⟩
abbrev cX11_played : ByteArray := prog_1_method_15_code
def yX11_played : MethodName := ⟨RX11, "played", "(I)I"⟩
abbrev cX11_undo : ByteArray := prog_1_method_16_code
def yX11_undo : MethodName := ⟨RX11, "undo", "()I"⟩
abbrev cX11_of : ByteArray := prog_1_method_17_code
def yX11_of : MethodName := ⟨RX11, "of", "(II)I"⟩
abbrev cX11_two : ByteArray := prog_1_method_18_code
def yX11_two : MethodName := ⟨RX11, "two", "(III)I"⟩
abbrev cX11_barrow : ByteArray := prog_1_method_19_code
def yX11_barrow : MethodName := ⟨RX11, "barrow", "(I)I"⟩
abbrev cX11_hard : ByteArray := prog_1_method_20_code
def yX11_hard : MethodName := ⟨RX11, "hard", "(III)I"⟩
abbrev cX11_book : ByteArray := prog_1_method_21_code
def yX11_book : MethodName := ⟨RX11, "book", "(II)I"⟩
abbrev cX11_foretold : ByteArray := prog_1_method_22_code
def yX11_foretold : MethodName := ⟨RX11, "foretold", "(III)I"⟩
abbrev cX11_arrives : ByteArray := prog_1_method_23_code
def yX11_arrives : MethodName := ⟨RX11, "arrives", "()I"⟩
abbrev cX11_want : ByteArray := prog_1_method_24_code
def yX11_want : MethodName := ⟨RX11, "want", "(II)I"⟩
abbrev cX11_fitting : ByteArray := prog_1_method_25_code
def yX11_fitting : MethodName := ⟨RX11, "fitting", "()I"⟩
abbrev cX11_route : ByteArray := prog_1_method_26_code
def yX11_route : MethodName := ⟨RX11, "route", "(I)I"⟩
abbrev cX11_least : ByteArray := prog_1_method_27_code
def yX11_least : MethodName := ⟨RX11, "least", "(III)I"⟩
abbrev cX11_winner : ByteArray := prog_1_method_28_code
def yX11_winner : MethodName := ⟨RX11, "winner", "()I"⟩
abbrev cX11_agenda : ByteArray := prog_1_method_29_code
def yX11_agenda : MethodName := ⟨RX11, "agenda", "(II)I"⟩
abbrev cX11_weight : ByteArray := prog_1_method_30_code
def yX11_weight : MethodName := ⟨RX11, "weight", "(II)Z"⟩
abbrev cX11_fair : ByteArray := prog_1_method_31_code
def yX11_fair : MethodName := ⟨RX11, "fair", "(I)I"⟩
abbrev cX11_feel : ByteArray := prog_1_method_32_code
def yX11_feel : MethodName := ⟨RX11, "feel", "(II)I"⟩
abbrev cX11_lost : ByteArray := prog_1_method_33_code
def yX11_lost : MethodName := ⟨RX11, "lost", "()I"⟩
abbrev cX11_yard : ByteArray := prog_1_method_34_code
def yX11_yard : MethodName := ⟨RX11, "yard", "()I"⟩
abbrev cX11_thieves : ByteArray := prog_1_method_35_code
def yX11_thieves : MethodName := ⟨RX11, "thieves", "()I"⟩
abbrev cX11_watch : ByteArray := prog_1_method_36_code
def yX11_watch : MethodName := ⟨RX11, "watch", "(II)I"⟩
abbrev cX11_image : ByteArray := prog_1_method_37_code
def yX11_image : MethodName := ⟨RX11, "image", "()I"⟩
abbrev cX11_back : ByteArray := prog_1_method_38_code
def yX11_back : MethodName := ⟨RX11, "back", "()I"⟩
abbrev cX11_about : ByteArray := prog_1_method_39_code
def yX11_about : MethodName := ⟨RX11, "about", "(I)I"⟩
abbrev cX11_textTold : ByteArray := prog_1_method_40_code
def yX11_textTold : MethodName := ⟨RX11, "textTold", "(I)LNoonOnABarrow$Text;"⟩
abbrev cX11_letRule : ByteArray := prog_1_method_41_code
def yX11_letRule : MethodName := ⟨RX11, "letRule", "(I)V"⟩
abbrev cX11_isDone : ByteArray := prog_1_method_42_code
def yX11_isDone : MethodName := ⟨RX11, "isDone", "(LNoonOnABarrow$Text;I)Z"⟩
abbrev cX11_held : ByteArray := prog_1_method_43_code
def yX11_held : MethodName := ⟨RX11, "held", "(III)I"⟩
def RX12 : String := "NoonOnABarrowModel"
def TX12 : u_T := fun k => match k with
  | 0 => ("NoonOnABarrowModel", "a", "[I", true)
  | 1 => ("NoonOnABarrowModel", "image", "[I", true)
  | 2 => ("NoonOnABarrowModel", "tape", "[B", true)
  | 3 => ("NoonOnABarrowModel", "taped", "I", false)
  | 4 => ("NoonOnABarrowModel", "fault", "I", false)
  | 5 => ("NoonOnABarrowModel", "faultAt", "I", false)
  | 6 => ("NoonOnABarrowModel", "clauses", "[I", true)
  | 7 => ("NoonOnABarrowModel", "clauseWord", "[I", true)
  | 8 => ("NoonOnABarrowModel", "clauseAt", "[I", true)
  | 9 => ("NoonOnABarrowModel", "clauseOne", "[I", true)
  | 10 => ("NoonOnABarrowModel", "clauseTwo", "[I", true)
  | 11 => ("NoonOnABarrowModel", "clauseThree", "[I", true)
  | 12 => ("NoonOnABarrowModel", "order", "[I", true)
  | 13 => ("NoonOnABarrowModel", "value", "[I", true)
  | 14 => ("NoonOnABarrowModel", "textLength", "I", false)
  | 15 => ("NoonOnABarrowModel", "at", "I", false)
  | 16 => ("NoonOnABarrowModel", "token", "I", false)
  | 17 => ("NoonOnABarrowModel", "sort", "I", false)
  | 18 => ("NoonOnABarrowModel", "tokenIs", "I", false)
  | 19 => ("NoonOnABarrowModel", "wrong", "I", false)
  | 20 => ("NoonOnABarrowModel", "wrongAt", "I", false)
  | 21 => ("NoonOnABarrowModel", "open", "I", false)
  | 22 => ("NoonOnABarrowModel", "frames", "I", false)
  | 23 => ("NoonOnABarrowModel", "frame", "[I", true)
  | 24 => ("NoonOnABarrowModel", "compare", "[I", true)
  | 25 => ("NoonOnABarrowModel", "waits", "I", false)
  | 26 => ("NoonOnABarrowModel", "wait", "[I", true)
  | 27 => ("NoonOnABarrowModel", "waitFrame", "[I", true)
  | 28 => ("NoonOnABarrowModel", "state", "I", false)
  | 29 => ("NoonOnABarrowModel", "openAt", "[I", true)
  | 30 => ("NoonOnABarrowModel", "newClauses", "I", false)
  | 31 => ("NoonOnABarrowModel", "newKind", "I", false)
  | 32 => ("NoonOnABarrowModel", "newWord", "[I", true)
  | 33 => ("NoonOnABarrowModel", "newAt", "[I", true)
  | 34 => ("NoonOnABarrowModel", "newOne", "[I", true)
  | 35 => ("NoonOnABarrowModel", "newTwo", "[I", true)
  | 36 => ("NoonOnABarrowModel", "newThree", "[I", true)
  | 37 => ("NoonOnABarrowModel", "newOrders", "I", false)
  | 38 => ("NoonOnABarrowModel", "newOrder", "[I", true)
  | 39 => ("NoonOnABarrowModel", "newValue", "[I", true)
  | 40 => ("NoonOnABarrowModel", "far", "[I", true)
  | 41 => ("NoonOnABarrowModel", "w", "[I", true)
  | 42 => ("NoonOnABarrowModel", "name", "[I", true)
  | 43 => ("NoonOnABarrowModel", "pile", "[J", true)
  | 44 => ("NoonOnABarrowModel", "yet", "[I", true)
  | 45 => ("NoonOnABarrowModel", "pushing", "[I", true)
  | _ => ("NoonOnABarrowModel", "had", "[I", true)
def tyX12 : Nat → FieldType := fun k => match k with
  | 0 => .array .int
  | 1 => .array .int
  | 2 => .array .byte
  | 3 => .int
  | 4 => .int
  | 5 => .int
  | 6 => .array .int
  | 7 => .array .int
  | 8 => .array .int
  | 9 => .array .int
  | 10 => .array .int
  | 11 => .array .int
  | 12 => .array .int
  | 13 => .array .int
  | 14 => .int
  | 15 => .int
  | 16 => .int
  | 17 => .int
  | 18 => .int
  | 19 => .int
  | 20 => .int
  | 21 => .int
  | 22 => .int
  | 23 => .array .int
  | 24 => .array .int
  | 25 => .int
  | 26 => .array .int
  | 27 => .array .int
  | 28 => .int
  | 29 => .array .int
  | 30 => .int
  | 31 => .int
  | 32 => .array .int
  | 33 => .array .int
  | 34 => .array .int
  | 35 => .array .int
  | 36 => .array .int
  | 37 => .int
  | 38 => .array .int
  | 39 => .array .int
  | 40 => .array .int
  | 41 => .array .int
  | 42 => .array .int
  | 43 => .array .long
  | 44 => .array .int
  | 45 => .array .int
  | _ => .array .int
abbrev wsX120 : List Cond := u_ws RX12 TX12 47
theorem nmX12 : ∀ a, a < 47 → ∀ b, b < 47 → a ≠ b → (TX12 a).2.1 ≠ (TX12 b).2.1 := by decide +kernel
theorem tyX12_ok : ∀ k, k < 47 → parseFieldDescriptor (TX12 k).2.2.1 = some (tyX12 k) := by decide +kernel
abbrev cX12_init : ByteArray := prog_14_method_1_code
def yX12_init : MethodName := ⟨RX12, "<init>", "()V"⟩
abbrev cX12_in : ByteArray := prog_14_method_2_code
def yX12_in : MethodName := ⟨RX12, "in", "(III)Z"⟩
abbrev cX12_has : ByteArray := prog_14_method_3_code
def yX12_has : MethodName := ⟨RX12, "has", "(II)Z"⟩
abbrev cX12_many : ByteArray := prog_14_method_4_code
def yX12_many : MethodName := ⟨RX12, "many", "(I)I"⟩
abbrev cX12_held : ByteArray := prog_14_method_5_code
def yX12_held : MethodName := ⟨RX12, "held", "(JII)I"⟩
abbrev cX12_away : ByteArray := prog_14_method_6_code
def yX12_away : MethodName := ⟨RX12, "away", "(II)I"⟩
abbrev cX12_copies : ByteArray := prog_14_method_7_code
def yX12_copies : MethodName := ⟨RX12, "copies", "(Z)V"⟩
abbrev cX12_isHouse : ByteArray := prog_14_method_8_code
def yX12_isHouse : MethodName := ⟨RX12, "isHouse", "(I)Z"⟩
abbrev cX12_house : ByteArray := prog_14_method_9_code
def yX12_house : MethodName := ⟨RX12, "house", "(I)I"⟩
abbrev cX12_lane : ByteArray := prog_14_method_10_code
def yX12_lane : MethodName := ⟨RX12, "lane", "(III)Z"⟩
abbrev cX12_pusher : ByteArray := prog_14_method_11_code
def yX12_pusher : MethodName := ⟨RX12, "pusher", "(I)I"⟩
abbrev cX12_keepsStep : ByteArray := prog_14_method_12_code
def yX12_keepsStep : MethodName := ⟨RX12, "keepsStep", "()V"⟩
abbrev cX12_undo : ByteArray := prog_14_method_13_code
def yX12_undo : MethodName := ⟨RX12, "undo", "()I"⟩
abbrev cX12_put : ByteArray := prog_14_method_14_code
def yX12_put : MethodName := ⟨RX12, "put", "(I)V"⟩
abbrev cX12_feed : ByteArray := prog_14_method_15_code
def yX12_feed : MethodName := ⟨RX12, "feed", "(IIIII)I"⟩
abbrev cX12_end : ByteArray := prog_14_method_16_code
def yX12_end : MethodName := ⟨RX12, "end", "(I)I"⟩
abbrev cX12_isLetter : ByteArray := prog_14_method_17_code
def yX12_isLetter : MethodName := ⟨RX12, "isLetter", "(I)Z"⟩
abbrev cX12_wordOf : ByteArray := prog_14_method_18_code
def yX12_wordOf : MethodName := ⟨RX12, "wordOf", "(J)I"⟩
abbrev cX12_next : ByteArray := prog_14_method_19_code
def yX12_next : MethodName := ⟨RX12, "next", "()V"⟩
abbrev cX12_isSign : ByteArray := prog_14_method_20_code
def yX12_isSign : MethodName := ⟨RX12, "isSign", "(I)Z"⟩
abbrev cX12_isWord : ByteArray := prog_14_method_21_code
def yX12_isWord : MethodName := ⟨RX12, "isWord", "(I)Z"⟩
abbrev cX12_errs : ByteArray := prog_14_method_22_code
def yX12_errs : MethodName := ⟨RX12, "errs", "(I)V"⟩
abbrev cX12_emits : ByteArray := prog_14_method_23_code
def yX12_emits : MethodName := ⟨RX12, "emits", "(II)V"⟩
abbrev cX12_opensFrame : ByteArray := prog_14_method_24_code
def yX12_opensFrame : MethodName := ⟨RX12, "opensFrame", "(I)V"⟩
abbrev cX12_top : ByteArray := prog_14_method_25_code
def yX12_top : MethodName := ⟨RX12, "top", "()I"⟩
abbrev cX12_opensSign : ByteArray := prog_14_method_26_code
def yX12_opensSign : MethodName := ⟨RX12, "opensSign", "(I)Z"⟩
abbrev cX12_rank : ByteArray := prog_14_method_27_code
def yX12_rank : MethodName := ⟨RX12, "rank", "(I)I"⟩
abbrev cX12_works : ByteArray := prog_14_method_28_code
def yX12_works : MethodName := ⟨RX12, "works", "(I)V"⟩
abbrev cX12_waitsFor : ByteArray := prog_14_method_29_code
def yX12_waitsFor : MethodName := ⟨RX12, "waitsFor", "(I)V"⟩
abbrev cX12_asks : ByteArray := prog_14_method_30_code
def yX12_asks : MethodName := ⟨RX12, "asks", "()V"⟩
abbrev cX12_mayName : ByteArray := prog_14_method_31_code
def yX12_mayName : MethodName := ⟨RX12, "mayName", "(II)Z"⟩
abbrev cX12_nameNow : ByteArray := prog_14_method_32_code
def yX12_nameNow : MethodName := ⟨RX12, "nameNow", "()I"⟩
abbrev cX12_begins : ByteArray := prog_14_method_33_code
def yX12_begins : MethodName := ⟨RX12, "begins", "()V"⟩
abbrev cX12_oneIsOver : ByteArray := prog_14_method_34_code
def yX12_oneIsOver : MethodName := ⟨RX12, "oneIsOver", "()V"⟩
abbrev cX12_bySecond : ByteArray := prog_14_method_35_code
def yX12_bySecond : MethodName := ⟨RX12, "bySecond", "()V"⟩
abbrev cX12_askIsOver : ByteArray := prog_14_method_36_code
def yX12_askIsOver : MethodName := ⟨RX12, "askIsOver", "()V"⟩
abbrev cX12_isAsking : ByteArray := prog_14_method_37_code
def yX12_isAsking : MethodName := ⟨RX12, "isAsking", "(I)Z"⟩
abbrev cX12_turnsTo : ByteArray := prog_14_method_38_code
def yX12_turnsTo : MethodName := ⟨RX12, "turnsTo", "(II)V"⟩
abbrev cX12_goesOn : ByteArray := prog_14_method_39_code
def yX12_goesOn : MethodName := ⟨RX12, "goesOn", "()V"⟩
abbrev cX12_asksOn : ByteArray := prog_14_method_40_code
def yX12_asksOn : MethodName := ⟨RX12, "asksOn", "()V"⟩
abbrev cX12_clauseIsOver : ByteArray := prog_14_method_41_code
def yX12_clauseIsOver : MethodName := ⟨RX12, "clauseIsOver", "()V"⟩
abbrev cX12_number : ByteArray := prog_14_method_42_code
def yX12_number : MethodName := ⟨RX12, "number", "(II)I"⟩
abbrev cX12_wasTold : ByteArray := prog_14_method_43_code
def yX12_wasTold : MethodName := ⟨RX12, "wasTold", "(I)Z"⟩
abbrev cX12_numberBehind : ByteArray := prog_14_method_44_code
def yX12_numberBehind : MethodName := ⟨RX12, "numberBehind", "(III)I"⟩
abbrev cX12_doing : ByteArray := prog_14_method_45_code
def yX12_doing : MethodName := ⟨RX12, "doing", "()V"⟩
abbrev cX12_clause : ByteArray := prog_14_method_46_code
def yX12_clause : MethodName := ⟨RX12, "clause", "()V"⟩
abbrev cX12_text : ByteArray := prog_14_method_47_code
def yX12_text : MethodName := ⟨RX12, "text", "()I"⟩
abbrev cX12_fault : ByteArray := prog_14_method_48_code
def yX12_fault : MethodName := ⟨RX12, "fault", "(I)I"⟩
abbrev cX12_laysFar : ByteArray := prog_14_method_49_code
def yX12_laysFar : MethodName := ⟨RX12, "laysFar", "()V"⟩
abbrev cX12_laysNow : ByteArray := prog_14_method_50_code
def yX12_laysNow : MethodName := ⟨RX12, "laysNow", "()V"⟩
abbrev cX12_keepsNow : ByteArray := prog_14_method_51_code
def yX12_keepsNow : MethodName := ⟨RX12, "keepsNow", "()V"⟩
abbrev cX12_bound : ByteArray := prog_14_method_52_code
def yX12_bound : MethodName := ⟨RX12, "bound", "(J)J"⟩
abbrev cX12_farBy : ByteArray := prog_14_method_53_code
def yX12_farBy : MethodName := ⟨RX12, "farBy", "(JJ)J"⟩
abbrev cX12_worked : ByteArray := prog_14_method_54_code
def yX12_worked : MethodName := ⟨RX12, "worked", "(IJJ)J"⟩
abbrev cX12_saysOf : ByteArray := prog_14_method_55_code
def yX12_saysOf : MethodName := ⟨RX12, "saysOf", "(I)J"⟩
abbrev cX12_by : ByteArray := prog_14_method_56_code
def yX12_by : MethodName := ⟨RX12, "by", "(I)Z"⟩
abbrev cX12_ordersOf : ByteArray := prog_14_method_57_code
def yX12_ordersOf : MethodName := ⟨RX12, "ordersOf", "(I)I"⟩
abbrev cX12_hourBy : ByteArray := prog_14_method_58_code
def yX12_hourBy : MethodName := ⟨RX12, "hourBy", "(III)I"⟩
abbrev cX12_hourAt : ByteArray := prog_14_method_59_code
def yX12_hourAt : MethodName := ⟨RX12, "hourAt", "(II)I"⟩
abbrev cX12_names : ByteArray := prog_14_method_60_code
def yX12_names : MethodName := ⟨RX12, "names", "(I)V"⟩
abbrev cX12_hardOf : ByteArray := prog_14_method_61_code
def yX12_hardOf : MethodName := ⟨RX12, "hardOf", "(III)I"⟩
abbrev cX12_wearsNow : ByteArray := prog_14_method_62_code
def yX12_wearsNow : MethodName := ⟨RX12, "wearsNow", "()I"⟩
abbrev cX12_earnsOf : ByteArray := prog_14_method_63_code
def yX12_earnsOf : MethodName := ⟨RX12, "earnsOf", "(I)I"⟩
abbrev cX12_warmOf : ByteArray := prog_14_method_64_code
def yX12_warmOf : MethodName := ⟨RX12, "warmOf", "(II)I"⟩
abbrev cX12_canPush : ByteArray := prog_14_method_65_code
def yX12_canPush : MethodName := ⟨RX12, "canPush", "(II)Z"⟩
abbrev cX12_pushes : ByteArray := prog_14_method_66_code
def yX12_pushes : MethodName := ⟨RX12, "pushes", "(II)V"⟩
abbrev cX12_lies : ByteArray := prog_14_method_67_code
def yX12_lies : MethodName := ⟨RX12, "lies", "(I)V"⟩
abbrev cX12_tips : ByteArray := prog_14_method_68_code
def yX12_tips : MethodName := ⟨RX12, "tips", "()V"⟩
abbrev cX12_rolls : ByteArray := prog_14_method_69_code
def yX12_rolls : MethodName := ⟨RX12, "rolls", "()V"⟩
abbrev cX12_writes : ByteArray := prog_14_method_70_code
def yX12_writes : MethodName := ⟨RX12, "writes", "(I)V"⟩
abbrev cX12_canPass : ByteArray := prog_14_method_71_code
def yX12_canPass : MethodName := ⟨RX12, "canPass", "()Z"⟩
abbrev cX12_minutePasses : ByteArray := prog_14_method_72_code
def yX12_minutePasses : MethodName := ⟨RX12, "minutePasses", "()I"⟩
abbrev cX12_push : ByteArray := prog_14_method_73_code
def yX12_push : MethodName := ⟨RX12, "push", "(II)I"⟩
abbrev cX12_tip : ByteArray := prog_14_method_74_code
def yX12_tip : MethodName := ⟨RX12, "tip", "()Z"⟩
abbrev cX12_mend : ByteArray := prog_14_method_75_code
def yX12_mend : MethodName := ⟨RX12, "mend", "()Z"⟩
abbrev cX12_minute : ByteArray := prog_14_method_76_code
def yX12_minute : MethodName := ⟨RX12, "minute", "(I)I"⟩
abbrev cX12_draw : ByteArray := prog_14_method_77_code
def yX12_draw : MethodName := ⟨RX12, "draw", "(I)I"⟩
abbrev cX12_happens : ByteArray := prog_14_method_78_code
def yX12_happens : MethodName := ⟨RX12, "happens", "()V"⟩
abbrev cX12_years : ByteArray := prog_14_method_79_code
def yX12_years : MethodName := ⟨RX12, "years", "(II)I"⟩
abbrev cX12_minutes : ByteArray := prog_14_method_80_code
def yX12_minutes : MethodName := ⟨RX12, "minutes", "(I)Z"⟩
abbrev cX12_played : ByteArray := prog_14_method_81_code
def yX12_played : MethodName := ⟨RX12, "played", "(I)I"⟩
abbrev cX12_of : ByteArray := prog_14_method_82_code
def yX12_of : MethodName := ⟨RX12, "of", "(II)I"⟩
abbrev cX12_two : ByteArray := prog_14_method_83_code
def yX12_two : MethodName := ⟨RX12, "two", "(III)I"⟩
abbrev cX12_barrow : ByteArray := prog_14_method_84_code
def yX12_barrow : MethodName := ⟨RX12, "barrow", "(I)I"⟩
abbrev cX12_hard : ByteArray := prog_14_method_85_code
def yX12_hard : MethodName := ⟨RX12, "hard", "(III)I"⟩
abbrev cX12_book : ByteArray := prog_14_method_86_code
def yX12_book : MethodName := ⟨RX12, "book", "(II)I"⟩
abbrev cX12_foretold : ByteArray := prog_14_method_87_code
def yX12_foretold : MethodName := ⟨RX12, "foretold", "(III)I"⟩
abbrev cX12_arrives : ByteArray := prog_14_method_88_code
def yX12_arrives : MethodName := ⟨RX12, "arrives", "()I"⟩
abbrev cX12_want : ByteArray := prog_14_method_89_code
def yX12_want : MethodName := ⟨RX12, "want", "(II)I"⟩
abbrev cX12_isWanted : ByteArray := prog_14_method_90_code
def yX12_isWanted : MethodName := ⟨RX12, "isWanted", "(II)Z"⟩
abbrev cX12_fitting : ByteArray := prog_14_method_91_code
def yX12_fitting : MethodName := ⟨RX12, "fitting", "()I"⟩
abbrev cX12_doneAt : ByteArray := prog_14_method_92_code
def yX12_doneAt : MethodName := ⟨RX12, "doneAt", "(II)I"⟩
abbrev cX12_laysYet : ByteArray := prog_14_method_93_code
def yX12_laysYet : MethodName := ⟨RX12, "laysYet", "()V"⟩
abbrev cX12_route : ByteArray := prog_14_method_94_code
def yX12_route : MethodName := ⟨RX12, "route", "(I)I"⟩
abbrev cX12_laysPushing : ByteArray := prog_14_method_95_code
def yX12_laysPushing : MethodName := ⟨RX12, "laysPushing", "(II)V"⟩
abbrev cX12_least : ByteArray := prog_14_method_96_code
def yX12_least : MethodName := ⟨RX12, "least", "(III)I"⟩
abbrev cX12_doesBeat : ByteArray := prog_14_method_97_code
def yX12_doesBeat : MethodName := ⟨RX12, "doesBeat", "(II)Z"⟩
abbrev cX12_winner : ByteArray := prog_14_method_98_code
def yX12_winner : MethodName := ⟨RX12, "winner", "()I"⟩
abbrev cX12_agenda : ByteArray := prog_14_method_99_code
def yX12_agenda : MethodName := ⟨RX12, "agenda", "(II)I"⟩
abbrev cX12_weight : ByteArray := prog_14_method_100_code
def yX12_weight : MethodName := ⟨RX12, "weight", "(II)Z"⟩
abbrev cX12_isAhead : ByteArray := prog_14_method_101_code
def yX12_isAhead : MethodName := ⟨RX12, "isAhead", "(II)Z"⟩
abbrev cX12_fair : ByteArray := prog_14_method_102_code
def yX12_fair : MethodName := ⟨RX12, "fair", "(I)I"⟩
abbrev cX12_feel : ByteArray := prog_14_method_103_code
def yX12_feel : MethodName := ⟨RX12, "feel", "(II)I"⟩
abbrev cX12_lost : ByteArray := prog_14_method_104_code
def yX12_lost : MethodName := ⟨RX12, "lost", "()I"⟩
abbrev cX12_answersAt : ByteArray := prog_14_method_105_code
def yX12_answersAt : MethodName := ⟨RX12, "answersAt", "(II)I"⟩
abbrev cX12_yard : ByteArray := prog_14_method_106_code
def yX12_yard : MethodName := ⟨RX12, "yard", "()I"⟩
abbrev cX12_thieves : ByteArray := prog_14_method_107_code
def yX12_thieves : MethodName := ⟨RX12, "thieves", "()I"⟩
abbrev cX12_watchedBy : ByteArray := prog_14_method_108_code
def yX12_watchedBy : MethodName := ⟨RX12, "watchedBy", "(II)I"⟩
abbrev cX12_watch : ByteArray := prog_14_method_109_code
def yX12_watch : MethodName := ⟨RX12, "watch", "(II)I"⟩
abbrev cX12_image : ByteArray := prog_14_method_110_code
def yX12_image : MethodName := ⟨RX12, "image", "()I"⟩
abbrev cX12_back : ByteArray := prog_14_method_111_code
def yX12_back : MethodName := ⟨RX12, "back", "()I"⟩
abbrev cX12_about : ByteArray := prog_14_method_112_code
def yX12_about : MethodName := ⟨RX12, "about", "(I)I"⟩
def RJ11 : String := "java/lang/Character"
def TJ11 : u_T := fun k => match k with
  | _ => ("", "", "", false)
def tyJ11 : Nat → FieldType := fun k => match k with
  | _ => .int
abbrev wsJ110 : List Cond := u_ws RJ11 TJ11 0
theorem nmJ11 : ∀ a, a < 0 → ∀ b, b < 0 → a ≠ b → (TJ11 a).2.1 ≠ (TJ11 b).2.1 := by decide +kernel
theorem tyJ11_ok : ∀ k, k < 0 → parseFieldDescriptor (TJ11 k).2.2.1 = some (tyJ11 k) := by decide +kernel
abbrev cJ11_isValidCodePoint_9a6ad : ByteArray := prog_15_method_11_code
def yJ11_isValidCodePoint_9a6ad : MethodName := ⟨RJ11, "isValidCodePoint", "(I)Z"⟩
abbrev cJ11_highSurrogate_5068e : ByteArray := prog_15_method_28_code
def yJ11_highSurrogate_5068e : MethodName := ⟨RJ11, "highSurrogate", "(I)C"⟩
abbrev cJ11_lowSurrogate_5068e : ByteArray := prog_15_method_29_code
def yJ11_lowSurrogate_5068e : MethodName := ⟨RJ11, "lowSurrogate", "(I)C"⟩
def RJ6 : String := "java/lang/Integer"
def TJ6 : u_T := fun k => match k with
  | _ => ("", "", "", false)
def tyJ6 : Nat → FieldType := fun k => match k with
  | _ => .int
abbrev wsJ60 : List Cond := u_ws RJ6 TJ6 0
theorem nmJ6 : ∀ a, a < 0 → ∀ b, b < 0 → a ≠ b → (TJ6 a).2.1 ≠ (TJ6 b).2.1 := by decide +kernel
theorem tyJ6_ok : ∀ k, k < 0 → parseFieldDescriptor (TJ6 k).2.2.1 = some (tyJ6 k) := by decide +kernel
abbrev cJ6_bitCount_0f7a4 : ByteArray := prog_16_method_49_code
def yJ6_bitCount_0f7a4 : MethodName := ⟨RJ6, "bitCount", "(I)I"⟩
def RJ9 : String := "java/lang/Math"
def TJ9 : u_T := fun k => match k with
  | _ => ("", "", "", false)
def tyJ9 : Nat → FieldType := fun k => match k with
  | _ => .int
abbrev wsJ90 : List Cond := u_ws RJ9 TJ9 0
theorem nmJ9 : ∀ a, a < 0 → ∀ b, b < 0 → a ≠ b → (TJ9 a).2.1 ≠ (TJ9 b).2.1 := by decide +kernel
theorem tyJ9_ok : ∀ k, k < 0 → parseFieldDescriptor (TJ9 k).2.2.1 = some (tyJ9 k) := by decide +kernel
abbrev cJ9_abs_0f7a4 : ByteArray := prog_17_method_59_code
def yJ9_abs_0f7a4 : MethodName := ⟨RJ9, "abs", "(I)I"⟩
abbrev cJ9_max_7cf53 : ByteArray := prog_17_method_65_code
def yJ9_max_7cf53 : MethodName := ⟨RJ9, "max", "(II)I"⟩
abbrev cJ9_min_7cf53 : ByteArray := prog_17_method_69_code
def yJ9_min_7cf53 : MethodName := ⟨RJ9, "min", "(II)I"⟩
def RJ0 : String := "java/lang/String"
def TJ0 : u_T := fun k => match k with
  | _ => ("", "", "", false)
def tyJ0 : Nat → FieldType := fun k => match k with
  | _ => .int
abbrev wsJ00 : List Cond := u_ws RJ0 TJ0 0
theorem nmJ0 : ∀ a, a < 0 → ∀ b, b < 0 → a ≠ b → (TJ0 a).2.1 ≠ (TJ0 b).2.1 := by decide +kernel
theorem tyJ0_ok : ∀ k, k < 0 → parseFieldDescriptor (TJ0 k).2.2.1 = some (tyJ0 k) := by decide +kernel
abbrev cJ0_length_8abf5 : ByteArray := prog_18_method_54_code
def yJ0_length_8abf5 : MethodName := ⟨RJ0, "length", "()I"⟩
abbrev cJ0_charAt_5068e : ByteArray := prog_18_method_56_code
def yJ0_charAt_5068e : MethodName := ⟨RJ0, "charAt", "(I)C"⟩
abbrev cJ0_indexOf_0f7a4 : ByteArray := prog_18_method_79_code
def yJ0_indexOf_0f7a4 : MethodName := ⟨RJ0, "indexOf", "(I)I"⟩
abbrev cJ0_indexOf_7cf53 : ByteArray := prog_18_method_80_code
def yJ0_indexOf_7cf53 : MethodName := ⟨RJ0, "indexOf", "(II)I"⟩
abbrev cJ0_coder_7d493 : ByteArray := prog_18_method_152_code
def yJ0_coder_7d493 : MethodName := ⟨RJ0, "coder", "()B"⟩
abbrev cJ0_isLatin1_aae02 : ByteArray := prog_18_method_154_code
def yJ0_isLatin1_aae02 : MethodName := ⟨RJ0, "isLatin1", "()Z"⟩
abbrev cJ0_checkIndex_df160 : ByteArray := prog_18_method_155_code
def yJ0_checkIndex_df160 : MethodName := ⟨RJ0, "checkIndex", "(II)V"⟩
abbrev cJ0_checkBoundsBeginEnd_23922 : ByteArray := prog_18_method_158_code
def yJ0_checkBoundsBeginEnd_23922 : MethodName := ⟨RJ0, "checkBoundsBeginEnd", "(III)V"⟩
def RJ1 : String := "java/lang/StringLatin1"
def TJ1 : u_T := fun k => match k with
  | _ => ("", "", "", false)
def tyJ1 : Nat → FieldType := fun k => match k with
  | _ => .int
abbrev wsJ10 : List Cond := u_ws RJ1 TJ1 0
theorem nmJ1 : ∀ a, a < 0 → ∀ b, b < 0 → a ≠ b → (TJ1 a).2.1 ≠ (TJ1 b).2.1 := by decide +kernel
theorem tyJ1_ok : ∀ k, k < 0 → parseFieldDescriptor (TJ1 k).2.2.1 = some (tyJ1 k) := by decide +kernel
abbrev cJ1_charAt_3b067 : ByteArray := prog_19_method_2_code
def yJ1_charAt_3b067 : MethodName := ⟨RJ1, "charAt", "([BI)C"⟩
abbrev cJ1_canEncode_9a6ad : ByteArray := prog_19_method_4_code
def yJ1_canEncode_9a6ad : MethodName := ⟨RJ1, "canEncode", "(I)Z"⟩
abbrev cJ1_indexOf_4cfef : ByteArray := prog_19_method_22_code
def yJ1_indexOf_4cfef : MethodName := ⟨RJ1, "indexOf", "([BIII)I"⟩
abbrev cJ1_indexOfChar_4cfef : ByteArray := prog_19_method_23_code
def yJ1_indexOfChar_4cfef : MethodName := ⟨RJ1, "indexOfChar", "([BIII)I"⟩
def RJ2 : String := "java/lang/StringUTF16"
def TJ2 : u_T := fun k => match k with
  | _ => ("", "", "", false)
def tyJ2 : Nat → FieldType := fun k => match k with
  | _ => .int
abbrev wsJ20 : List Cond := u_ws RJ2 TJ2 0
theorem nmJ2 : ∀ a, a < 0 → ∀ b, b < 0 → a ≠ b → (TJ2 a).2.1 ≠ (TJ2 b).2.1 := by decide +kernel
theorem tyJ2_ok : ∀ k, k < 0 → parseFieldDescriptor (TJ2 k).2.2.1 = some (tyJ2 k) := by decide +kernel
abbrev cJ2_getChar_3b067 : ByteArray := prog_20_method_5_code
def yJ2_getChar_3b067 : MethodName := ⟨RJ2, "getChar", "([BI)C"⟩
abbrev cJ2_length_9d52b : ByteArray := prog_20_method_6_code
def yJ2_length_9d52b : MethodName := ⟨RJ2, "length", "([B)I"⟩
abbrev cJ2_indexOf_4cfef : ByteArray := prog_20_method_40_code
def yJ2_indexOf_4cfef : MethodName := ⟨RJ2, "indexOf", "([BIII)I"⟩
abbrev cJ2_indexOfChar_4cfef : ByteArray := prog_20_method_47_code
def yJ2_indexOfChar_4cfef : MethodName := ⟨RJ2, "indexOfChar", "([BIII)I"⟩
abbrev cJ2_indexOfCharUnsafe_4cfef : ByteArray := prog_20_method_48_code
def yJ2_indexOfCharUnsafe_4cfef : MethodName := ⟨RJ2, "indexOfCharUnsafe", "([BIII)I"⟩
abbrev cJ2_indexOfSupplementary_4cfef : ByteArray := prog_20_method_49_code
def yJ2_indexOfSupplementary_4cfef : MethodName := ⟨RJ2, "indexOfSupplementary", "([BIII)I"⟩
abbrev cJ2_charAt_3b067 : ByteArray := prog_20_method_83_code
def yJ2_charAt_3b067 : MethodName := ⟨RJ2, "charAt", "([BI)C"⟩
abbrev cJ2_checkIndex_2214a : ByteArray := prog_20_method_91_code
def yJ2_checkIndex_2214a : MethodName := ⟨RJ2, "checkIndex", "(I[B)V"⟩
abbrev cJ2_checkBoundsBeginEnd_d044e : ByteArray := prog_20_method_93_code
def yJ2_checkBoundsBeginEnd_d044e : MethodName := ⟨RJ2, "checkBoundsBeginEnd", "(II[B)V"⟩
def RJ10 : String := "java/lang/System"
def TJ10 : u_T := fun k => match k with
  | _ => ("", "", "", false)
def tyJ10 : Nat → FieldType := fun k => match k with
  | _ => .int
abbrev wsJ100 : List Cond := u_ws RJ10 TJ10 0
theorem nmJ10 : ∀ a, a < 0 → ∀ b, b < 0 → a ≠ b → (TJ10 a).2.1 ≠ (TJ10 b).2.1 := by decide +kernel
theorem tyJ10_ok : ∀ k, k < 0 → parseFieldDescriptor (TJ10 k).2.2.1 = some (tyJ10 k) := by decide +kernel
def RJ3 : String := "jdk/internal/util/Preconditions"
def TJ3 : u_T := fun k => match k with
  | _ => ("", "", "", false)
def tyJ3 : Nat → FieldType := fun k => match k with
  | _ => .int
abbrev wsJ30 : List Cond := u_ws RJ3 TJ3 0
theorem nmJ3 : ∀ a, a < 0 → ∀ b, b < 0 → a ≠ b → (TJ3 a).2.1 ≠ (TJ3 b).2.1 := by decide +kernel
theorem tyJ3_ok : ∀ k, k < 0 → parseFieldDescriptor (TJ3 k).2.2.1 = some (tyJ3 k) := by decide +kernel
abbrev cJ3_checkIndex_8e157 : ByteArray := prog_22_method_11_code
def yJ3_checkIndex_8e157 : MethodName := ⟨RJ3, "checkIndex", "(IILjava/util/function/BiFunction;)I"⟩
abbrev cJ3_checkFromToIndex_8c36e : ByteArray := prog_22_method_12_code
def yJ3_checkFromToIndex_8c36e : MethodName := ⟨RJ3, "checkFromToIndex", "(IIILjava/util/function/BiFunction;)I"⟩
def RL : String := "NoonOnABarrowLaw"
abbrev cL_law : ByteArray := code
def yL_law : MethodName := ⟨RL, "law", "([I)Z"⟩
abbrev vwCl : List vw_C := [(RX0, TX0, 3), (RX1, TX1, 11), (RX2, TX2, 2), (RX3, TX3, 9), (RX4, TX4, 5), (RX5, TX5, 3), (RX6, TX6, 6), (RX7, TX7, 3), (RX8, TX8, 6), (RX9, TX9, 10), (RX10, TX10, 10), (RX11, TX11, 18), (RX12, TX12, 47)]
end
section
/-! The little machine: memory by cells and slots; the world that it stands for. -/
abbrev x_S : Type := (Nat → Nat → Int32) × (Nat → Nat → Int64) × (Nat → Nat → Option Nat)
def x_wi (σ : x_S) (c k : Nat) (v : Int32) : x_S := (fun a b => if a = c ∧ b = k then v else σ.1 a b, σ.2)
def x_wl (σ : x_S) (c k : Nat) (v : Int64) : x_S := (σ.1, fun a b => if a = c ∧ b = k then v else σ.2.1 a b, σ.2.2)
def x_wr (σ : x_S) (c k : Nat) (v : Option Nat) : x_S := (σ.1, σ.2.1, fun a b => if a = c ∧ b = k then v else σ.2.2 a b)
/-- a fresh cell -/
def x_nw (σ : x_S) (c : Nat) : x_S := (fun a b => if a = c then 0 else σ.1 a b, fun a b => if a = c then 0 else σ.2.1 a b, fun a b => if a = c then none else σ.2.2 a b)
def x_shAll : List (Nat × Nat) := [(11, 18), (3, 9), (20, 8), (20, 8), (20, 4), (20, 64), (20, 64), (5, 3), (20, 8), (20, 8), (5, 3), (20, 8), (20, 8), (1, 11), (20, 8), (20, 8), (20, 90), (7, 3), (24, 30), (1, 11), (20, 8), (20, 8), (20, 90), (1, 11), (20, 8), (20, 8), (20, 90), (1, 11), (20, 8), (20, 8), (20, 90), (1, 11), (20, 8), (20, 8), (20, 90), (1, 11), (20, 8), (20, 8), (20, 90), (1, 11), (20, 8), (20, 8), (20, 90), (1, 11), (20, 8), (20, 8), (20, 90), (1, 11), (20, 8), (20, 8), (20, 90), (1, 11), (20, 8), (20, 8), (20, 90), (1, 11), (20, 8), (20, 8), (20, 90), (1, 11), (20, 8), (20, 8), (20, 90), (1, 11), (20, 8), (20, 8), (20, 90), (1, 11), (20, 8), (20, 8), (20, 90), (1, 11), (20, 8), (20, 8), (20, 90), (1, 11), (20, 8), (20, 8), (20, 90), (1, 11), (20, 8), (20, 8), (20, 90), (1, 11), (20, 8), (20, 8), (20, 90), (1, 11), (20, 8), (20, 8), (20, 90), (1, 11), (20, 8), (20, 8), (20, 90), (1, 11), (20, 8), (20, 8), (20, 90), (1, 11), (20, 8), (20, 8), (20, 90), (1, 11), (20, 8), (20, 8), (20, 90), (1, 11), (20, 8), (20, 8), (20, 90), (1, 11), (20, 8), (20, 8), (20, 90), (1, 11), (20, 8), (20, 8), (20, 90), (1, 11), (20, 8), (20, 8), (20, 90), (1, 11), (20, 8), (20, 8), (20, 90), (1, 11), (20, 8), (20, 8), (20, 90), (1, 11), (20, 8), (20, 8), (20, 90), (1, 11), (20, 8), (20, 8), (20, 90), (23, 4), (9, 10), (20, 24), (20, 24), (20, 24), (20, 24), (20, 4), (20, 4), (20, 300), (20, 300), (9, 10), (20, 24), (20, 24), (20, 24), (20, 24), (20, 4), (20, 4), (20, 300), (20, 300), (9, 10), (20, 24), (20, 24), (20, 24), (20, 24), (20, 4), (20, 4), (20, 300), (20, 300), (9, 10), (20, 24), (20, 24), (20, 24), (20, 24), (20, 4), (20, 4), (20, 300), (20, 300), (3, 9), (20, 8), (20, 8), (20, 4), (20, 64), (20, 64), (5, 3), (20, 8), (20, 8), (5, 3), (20, 8), (20, 8), (1, 11), (20, 8), (20, 8), (20, 90), (7, 3), (24, 30), (1, 11), (20, 8), (20, 8), (20, 90), (1, 11), (20, 8), (20, 8), (20, 90), (1, 11), (20, 8), (20, 8), (20, 90), (1, 11), (20, 8), (20, 8), (20, 90), (1, 11), (20, 8), (20, 8), (20, 90), (1, 11), (20, 8), (20, 8), (20, 90), (1, 11), (20, 8), (20, 8), (20, 90), (1, 11), (20, 8), (20, 8), (20, 90), (1, 11), (20, 8), (20, 8), (20, 90), (1, 11), (20, 8), (20, 8), (20, 90), (1, 11), (20, 8), (20, 8), (20, 90), (1, 11), (20, 8), (20, 8), (20, 90), (1, 11), (20, 8), (20, 8), (20, 90), (1, 11), (20, 8), (20, 8), (20, 90), (1, 11), (20, 8), (20, 8), (20, 90), (1, 11), (20, 8), (20, 8), (20, 90), (1, 11), (20, 8), (20, 8), (20, 90), (1, 11), (20, 8), (20, 8), (20, 90), (1, 11), (20, 8), (20, 8), (20, 90), (1, 11), (20, 8), (20, 8), (20, 90), (1, 11), (20, 8), (20, 8), (20, 90), (1, 11), (20, 8), (20, 8), (20, 90), (1, 11), (20, 8), (20, 8), (20, 90), (1, 11), (20, 8), (20, 8), (20, 90), (1, 11), (20, 8), (20, 8), (20, 90), (1, 11), (20, 8), (20, 8), (20, 90), (1, 11), (20, 8), (20, 8), (20, 90), (1, 11), (20, 8), (20, 8), (20, 90), (1, 11), (20, 8), (20, 8), (20, 90), (1, 11), (20, 8), (20, 8), (20, 90), (8, 6), (20, 300), (20, 301), (20, 301), (20, 301), (6, 6), (9, 10), (20, 24), (20, 24), (20, 24), (20, 24), (20, 4), (20, 4), (20, 300), (20, 300), (4, 5), (20, 32), (20, 64), (2, 2), (10, 10), (20, 72), (20, 72), (20, 64), (20, 8), (20, 8), (0, 3), (20, 8), (1, 11), (20, 8), (20, 8), (20, 90), (12, 47), (20, 3670), (20, 3670), (21, 300), (20, 4), (20, 96), (20, 96), (20, 96), (20, 96), (20, 96), (20, 1600), (20, 1600), (20, 40), (20, 41), (20, 80), (20, 80), (20, 41), (20, 24), (20, 24), (20, 24), (20, 24), (20, 24), (20, 400), (20, 400), (20, 64), (20, 114), (20, 12), (22, 200), (20, 72), (20, 8), (20, 8)]
/-- the shape of each cell, by its number: (class or kind of array, how many slots) -/
def x_sh (c : Nat) : Nat × Nat := x_shAll.getD c (99, 0)
theorem x_shN : x_shAll.length = 376 := by decide +kernel
theorem x_sh_lt {c t n : Nat} (h : x_sh c = (t, n)) (ht : t ≠ 99) : c < 376 := by
  rcases Nat.lt_or_ge c 376 with q | q
  · exact q
  · exfalso
    have : x_sh c = (99, 0) := by
      unfold x_sh
      rw [List.getD_eq_getElem?_getD, List.getElem?_eq_none (by rw [x_shN]; exact q)]
      rfl
    rw [this] at h
    exact ht (Prod.mk.inj h).1.symm
/-- how many slots the first N cells have -/
def x_sl : Nat → Nat
  | 0 => 0
  | n + 1 => x_sl n + (x_sh n).2
theorem x_sl_le {a b : Nat} (h : a ≤ b) : x_sl a ≤ x_sl b := by
  induction b with
  | zero => have : a = 0 := by omega
            subst this; exact Nat.le_refl _
  | succ n ih =>
    rcases Nat.lt_or_ge a (n + 1) with q | q
    · exact Nat.le_trans (ih (by omega)) (Nat.le_add_right _ _)
    · have : a = n + 1 := by omega
      subst this; exact Nat.le_refl _
def x_ty (t : Nat) : Nat → FieldType := match t with
  | 0 => tyX0 | 1 => tyX1 | 2 => tyX2 | 3 => tyX3 | 4 => tyX4 | 5 => tyX5 | 6 => tyX6 | 7 => tyX7 | 8 => tyX8 | 9 => tyX9 | 10 => tyX10 | 11 => tyX11 | _ => tyX12
/-- what the world's places are: numbers of classes and slots, array classes, the first address, the table's address, the texts' addresses -/
abbrev x_G : Type := va_G × (Nat → ClassId) × Nat × Nat × (Nat → Nat) × (Nat → Nat)
def x_ad (z : Nat) (v : Value) : Value := match v with
  | .ref c => .ref (z + c)
  | v => v
def x_rf (r : Option Nat) : Value := match r with
  | none => .null
  | some c => .ref c
theorem x_ad_cat (z : Nat) (v : Value) : (x_ad z v).category = v.category := by cases v <;> rfl
def x_av (ty : FieldType) (σ : x_S) (c k : Nat) : Value := match ty with
  | .int => .int (σ.1 c k)
  | .long => .long (σ.2.1 c k)
  | _ => x_rf (σ.2.2 c k)
def x_el (G : x_G) (σ : x_S) (c : Nat) : va_E := match x_sh c with
  | (20, n) => .inl (G.2.1 0, n, .inl (σ.1 c))
  | (21, n) => .inl (G.2.1 1, n, .inl (σ.1 c))
  | (22, n) => .inl (G.2.1 2, n, .inr (.inl (σ.2.1 c)))
  | (23, n) => .inl (G.2.1 3, n, .inr (.inr (.inr (.inr (fun j => (σ.2.2 c j).map (G.2.2.1 + ·))))))
  | (24, n) => .inl (G.2.1 4, n, .inr (.inr (.inr (.inr (fun j => (σ.2.2 c j).map (G.2.2.1 + ·))))))
  | (t, n) => .inr (t, (List.range n).map (fun k => x_ad G.2.2.1 (x_av (x_ty t k) σ c k)))
theorem x_el_i {G : x_G} {σ : x_S} {c n : Nat} (h : x_sh c = (20, n)) : x_el G σ c = .inl (G.2.1 0, n, .inl (σ.1 c)) := by unfold x_el; rw [h]; rfl
theorem x_el_b {G : x_G} {σ : x_S} {c n : Nat} (h : x_sh c = (21, n)) : x_el G σ c = .inl (G.2.1 1, n, .inl (σ.1 c)) := by unfold x_el; rw [h]; rfl
theorem x_el_l {G : x_G} {σ : x_S} {c n : Nat} (h : x_sh c = (22, n)) : x_el G σ c = .inl (G.2.1 2, n, .inr (.inl (σ.2.1 c))) := by unfold x_el; rw [h]; rfl
theorem x_el_t {G : x_G} {σ : x_S} {c n : Nat} (h : x_sh c = (23, n)) : x_el G σ c = .inl (G.2.1 3, n, .inr (.inr (.inr (.inr (fun j => (σ.2.2 c j).map (G.2.2.1 + ·)))))) := by unfold x_el; rw [h]; rfl
theorem x_el_d {G : x_G} {σ : x_S} {c n : Nat} (h : x_sh c = (24, n)) : x_el G σ c = .inl (G.2.1 4, n, .inr (.inr (.inr (.inr (fun j => (σ.2.2 c j).map (G.2.2.1 + ·)))))) := by unfold x_el; rw [h]; rfl
theorem x_el_o {G : x_G} {σ : x_S} {c t n : Nat} (h : x_sh c = (t, n)) (ht : t < 13) : x_el G σ c = .inr (t, (List.range n).map (fun k => x_ad G.2.2.1 (x_av (x_ty t k) σ c k))) := by
  unfold x_el
  rw [h]
  split
  · rename_i q; have := (Prod.mk.inj q).1; omega
  · rename_i q; have := (Prod.mk.inj q).1; omega
  · rename_i q; have := (Prod.mk.inj q).1; omega
  · rename_i q; have := (Prod.mk.inj q).1; omega
  · rename_i q; have := (Prod.mk.inj q).1; omega
  · rename_i q; have q1 := (Prod.mk.inj q).1; have q2 := (Prod.mk.inj q).2; subst q1; subst q2; rfl
def x_ws (G : x_G) (N : Nat) (σ : x_S) : va_W := (List.range N).map fun c => (G.2.2.1 + c, x_el G σ c)
theorem x_ws_at {G : x_G} {N : Nat} {σ : x_S} {c : Nat} (h : c < N) : (x_ws G N σ)[c]? = some (G.2.2.1 + c, x_el G σ c) := by
  unfold x_ws
  rw [List.getElem?_map, List.getElem?_range h]
  rfl
theorem x_ws_inv {G : x_G} {N : Nat} {σ : x_S} {k : Nat} {q : Nat × va_E} (h : (x_ws G N σ)[k]? = some q) : k < N ∧ q = (G.2.2.1 + k, x_el G σ k) := by
  have hk : k < N := by
    have := (List.getElem?_eq_some_iff.mp h).1
    unfold x_ws at this
    rw [List.length_map, List.length_range] at this
    exact this
  rw [x_ws_at hk] at h
  exact ⟨hk, (Option.some.inj h).symm⟩
theorem x_ws_set {G : x_G} {N : Nat} {σ σ' : x_S} {c : Nat} {e : va_E} (hc : c < N) (h1 : x_el G σ' c = e) (h2 : ∀ a, a ≠ c → x_el G σ' a = x_el G σ a) : (x_ws G N σ).set c (G.2.2.1 + c, e) = x_ws G N σ' := by
  apply List.ext_getElem?
  intro k
  rw [List.getElem?_set]
  by_cases hk : c = k
  · subst hk
    have hl : c < (x_ws G N σ).length := by unfold x_ws; rw [List.length_map, List.length_range]; exact hc
    rw [if_pos rfl, if_pos hl, x_ws_at hc, h1]
  · rw [if_neg hk]
    rcases Nat.lt_or_ge k N with q | q
    · rw [x_ws_at q, x_ws_at q, h2 k (fun h => hk h.symm)]
    · unfold x_ws
      rw [List.getElem?_eq_none (by rw [List.length_map, List.length_range]; exact q), List.getElem?_eq_none (by rw [List.length_map, List.length_range]; exact q)]
theorem x_ws_new {G : x_G} {N : Nat} {σ σ' : x_S} {e : va_E} (h1 : x_el G σ' N = e) (h2 : ∀ a, a < N → x_el G σ' a = x_el G σ a) : x_ws G N σ ++ [(G.2.2.1 + N, e)] = x_ws G (N + 1) σ' := by
  unfold x_ws
  rw [List.range_succ, List.map_append, List.map_singleton, h1]
  congr 1
  apply List.map_congr_left
  intro a ha
  rw [h2 a (List.mem_range.mp ha)]
def x_A (G : x_G) : Nat → Prop := fun q => G.2.2.1 ≤ q
theorem x_D {G : x_G} {N : Nat} {σ : x_S} : va_D (x_A G) (x_ws G N σ) := by
  refine ⟨fun i j p q hi hj h => ?_, fun k q hk => ?_⟩
  · obtain ⟨-, rfl⟩ := x_ws_inv hi
    obtain ⟨-, rfl⟩ := x_ws_inv hj
    have h : G.2.2.1 + i = G.2.2.1 + j := h
    omega
  · obtain ⟨-, rfl⟩ := x_ws_inv hk
    exact Nat.le_add_right _ _
def x_W (G : x_G) (N : Nat) (σ : x_S) (H : Heap) : Prop := va_P G.1 vwCl (x_ws G N σ) H
def x_tys (G : x_G) : List (ClassId × FieldType) := [(G.2.1 0, .int), (G.2.1 1, .byte), (G.2.1 2, .long), (G.2.1 3, .object "NoonOnABarrow$Text"), (G.2.1 4, .object "NoonOnABarrow$Day")]
def x_wordsS : String := "hard wears earns warm house lane pusher push tip mend minute to of by far if then else end not or and here hill hour pale purse there strength wheels left noon "
def x_signsS : String := "<>=#+-*/();"
def x_words : List Int32 := x_wordsS.toList.map fun c => Int32.ofNat c.toNat
def x_signs : List Int32 := x_signsS.toList.map fun c => Int32.ofNat c.toNat
def x_named : List Int32 := [0, 0, 0, 0, 0, 1, 0, 0, 0, 0, 15, 0, 0, 0, 0, 0, 0, 0, 0, 0, 0, 0, 15, 15, 4, 4, 4, 1, 1, 2, 2, 8]
/-- the links between the class and the ones nested in it -/
def x_nm : List (String × Nat × MethodName × String) := [("NoonOnABarrow", 9, yX3_init, "NoonOnABarrow"), ("NoonOnABarrow$Land", 29, yX5_init, "NoonOnABarrow"), ("NoonOnABarrow", 18, yX1_init, "NoonOnABarrow"), ("NoonOnABarrow$Steps", 17, yX1_init, "NoonOnABarrow"), ("NoonOnABarrow", 36, yX9_init, "NoonOnABarrow"), ("NoonOnABarrow", 61, yX8_init, "NoonOnABarrow"), ("NoonOnABarrow$Reader", 24, yX9_init, "NoonOnABarrow"), ("NoonOnABarrow$Laws", 72, yX11_held, "NoonOnABarrow"), ("NoonOnABarrow$Doings", 95, yX11_held, "NoonOnABarrow")]
/-- what stands outside the world and stays: the table, the texts, the links -/
def x_Z (G : x_G) (U : State) : Prop :=
  va_Z "NoonOnABarrow" "NAMED_IN" "[I" (.ref G.2.2.2.1) (x_A G) U U.heap ∧ va_T .int G.2.2.2.1 32 (fun j => .int (x_named.getD j 0)) (x_A G) U U.heap ∧
  va_Z "java/lang/String" "COMPACT_STRINGS" "Z" (.int 1) (x_A G) U U.heap ∧ vk_S 2 [160, 11] [x_words, x_signs] G.2.2.2.2.1 G.2.2.2.2.2 (x_A G) U U.heap ∧
  vk_R "NoonOnABarrow$Tape" 59 x_wordsS (G.2.2.2.2.1 0) U ∧ vk_R "NoonOnABarrow$Tape" 75 x_signsS (G.2.2.2.2.1 1) U ∧
  (∀ q ∈ x_nm, va_Nw (.methodLinkNest q.1 q.2.1 q.2.2.1 q.2.2.2) U) ∧ va_Nw (.fieldLinkNest "NoonOnABarrow$Reader" 115 "NoonOnABarrow" "NAMED_IN" "[I" "NoonOnABarrow") U ∧ va_AO "NoonOnABarrow$Text" U ∧ va_AO "NoonOnABarrow$Day" U
theorem x_Z.warm {G : x_G} {u U : State} (hW : u.WarmedH U.vm) (hz : u.heap.size ≤ U.heap.size) (hq : ∀ a : Nat, a < u.heap.size → ¬ x_A G a → U.heap[a]? = u.heap[a]?) (h : x_Z G u) : x_Z G U := by
  obtain ⟨h1, h2, h3, h4, h5, h6, h7, h8, h9, hx⟩ := h
  exact ⟨(h1.moved hW.alike).kept hq, (h2.moved hW.alike).kept hq, (h3.moved hW.alike).kept hq, (h4.moved hW.alike).kept hq, h5.warm hW, h6.warm hW, fun q hq => (h7 q hq).warmM hW, h8.warmF hW, h9.moved hW.alike, hx.moved hW.alike⟩
theorem x_Z.same {G : x_G} {u U : State} (hv : U.vm = u.vm) (hh : U.heap = u.heap) (h : x_Z G u) : x_Z G U := by
  have ha : u.vm.Alike U.vm := by rw [hv]; exact Vm.Alike.refl u.vm
  obtain ⟨h1, h2, h3, h4, h5, h6, h7, h8, h9, hx⟩ := h
  refine ⟨?_, ?_, ?_, ?_, h5.same hv, h6.same hv, fun q hq => (h7 q hq).same rfl hv.symm, h8.same rfl hv.symm, h9.moved ha, hx.moved ha⟩
  · rw [hh]; exact h1.moved ha
  · rw [hh]; exact h2.moved ha
  · rw [hh]; exact h3.moved ha
  · rw [hh]; exact h4.moved ha
def x_K (G : x_G) (U : State) : Prop := va_K G.1 vwCl (x_tys G) U ∧ x_Z G U
/-- the good words of the tables -/
def x_tb : List Cond := lw_tbl.filter goodWord
theorem x_tb_in {w : Cond} (h : w ∈ lw_tbl) (hg : goodWord w = true) : w ∈ x_tb := List.mem_filter.mpr ⟨h, hg⟩
/-- a method: its name, bytes, how many locals, what it returns, how many cells and slots it makes -/
abbrev x_M : Type := MethodName × ByteArray × Nat × Option FieldType × Nat × Nat
def x_w (μ : x_M) : List Cond := Cond.code μ.1 μ.2.1 μ.2.2.1 μ.2.2.2.1 :: x_tb
def x_rm (d : Nat) (μ : x_M) : Room := { frames := d, cells := μ.2.2.2.2.1, slots := μ.2.2.2.2.2, locals := 40 * d }
def x_Qc (G : x_G) (N0 : Nat) (μ : x_M) (Q : x_S → Option Value → Prop) : Array Value → State → Outcome → State → Prop := fun _ st oc t =>
  (∃ (v : Option Value) (σ' : x_S), oc = .returned (v.map (x_ad G.2.2.1)) ∧ Q σ' v ∧ x_W G (N0 + μ.2.2.2.2.1) σ' t.heap) ∧ va_F (x_A G) st t
/-- THE CONTRACT: from N cells with memory σ and these arguments the method ends, with Q -/
def x_Mt (d : Nat) (μ : x_M) (N : Nat) (vs : List Value) (σ : x_S) (Q : x_S → Option Value → Prop) : Prop := ∀ (l : Launch) (G : x_G),
  Met l μ.1 (x_w μ) (x_rm d μ) (va_Pc (vs.map (x_ad G.2.2.1)) (fun U => U.heap.size = G.2.2.1 + N ∧ x_W G N σ U.heap ∧ x_K G U)) (x_Qc G N μ Q) μ.2.2.2.2.1 μ.2.2.2.2.2 (x_A G)
def x_Cx (l : Launch) (G : x_G) (p : Program) (e : Env) (s : State) (m : MethodId) (args : Array Value) (meth : Method) (c : Code) (μ : x_M) (N0 : Nat) : Prop :=
  p.tables.exec = Jvm.exec ∧ c.code = μ.2.1 ∧ meth.sig.returnType = μ.2.2.2.1 ∧ c.maxLocals = μ.2.2.1 ∧ s.vm.findClass μ.1.cls = some m.cls ∧ meth.locks = false ∧ meth.name = μ.1.name ∧ (∀ w ∈ x_w μ, w.before args s = true) ∧ x_K G s ∧ s.heap.size = G.2.2.1 + N0
/-- THE JUDGEMENT: at pc, with locals L, stack st, N cells of memory σ, the method comes to its end with Q -/
def x_Wg (d : Nat) (μ : x_M) (N0 : Nat) (Q : x_S → Option Value → Prop) (N pc : Nat) (L : List (Nat × Value)) (st : List Value) (σ : x_S) : Prop :=
  ∀ (l : Launch) (G : x_G) (p : Program) (e : Env) (s : State) (m : MethodId) (args : Array Value) (below : List Frame) (meth : Method) (c : Code), x_Cx l G p e s m args meth c μ N0 →
  N0 ≤ N → N ≤ N0 + μ.2.2.2.2.1 → x_sl N ≤ x_sl N0 + μ.2.2.2.2.2 → ∀ (H : Heap) (locs : List Loc) (ls : Array Slot), x_W G N σ H → va_S (x_A G) s.heap H locs → lv_has ls μ.2.2.1 (L.map fun q => (q.1, x_ad G.2.2.1 q.2)) →
  W p l e (x_rm d μ) s m args below meth c H locs (N - N0) (x_sl N - x_sl N0) (MQ below (x_Qc G N0 μ Q) args s μ.2.2.2.2.1 μ.2.2.2.2.2 (x_A G)) (F0 m pc ls (st.map (x_ad G.2.2.1)))
theorem x_size {l : Launch} {G : x_G} {p : Program} {e : Env} {R : Room} {s T : State} {m : MethodId} {args : Array Value} {below : List Frame} {meth : Method} {c : Code} {μ : x_M} {N0 N k : Nat} {σ : x_S} {H : Heap} {locs : List Loc} (C : x_Cx l G p e s m args meth c μ N0) (X : Stand p l e R s m args below meth c T locs (N - N0) k) (hT : T.heap = H) (hN : N0 ≤ N) (hW : x_W G N σ H) (hS : va_S (x_A G) s.heap H locs) : H.size = G.2.2.1 + N := by
  have h1 : T.heap.size ≤ s.heap.size + (N - N0) := X.same.2.2.1
  have h2 : s.heap.size = G.2.2.1 + N0 := C.2.2.2.2.2.2.2.2.2
  rw [hT, h2] at h1
  have h3 := hS.1
  rw [h2] at h3
  cases N with
  | zero => omega
  | succ n =>
    have h4 := (hW n _ (x_ws_at (Nat.lt_succ_self n))).lt
    have h4 : G.2.2.1 + n < H.size := h4
    omega
end
section
section XO
variable {d : Nat} {μ : x_M} {N0 : Nat} {Q : x_S → Option Value → Prop} {N pc : Nat} {L L' : List (Nat × Value)} {st : List Value} {σ : x_S}
theorem x_lat {ls : Array Slot} {nL z : Nat} (hl : lv_has ls nL (L.map fun q => (q.1, x_ad z q.2))) {j i : Nat} {v : Value} (h : L[j]? = some (i, v)) : ls[i]? = some (.val (x_ad z v)) := lv_at hl j (by rw [List.getElem?_map, h]; rfl)
def x_st1 (i : Nat) (v : Value) (L : List (Nat × Value)) : List (Nat × Value) := (i, v) :: L.filter (fun q => !(q.1 == i) && !(q.1 + 1 == i && q.2.category == 2))
def x_st2 (i : Nat) (v : Value) (L : List (Nat × Value)) : List (Nat × Value) := (i, v) :: L.filter (fun q => !(q.1 == i) && (!(q.1 == i + 1) && !(q.1 + 1 == i && q.2.category == 2)))
theorem x_st1_map {i z : Nat} {v w : Value} (hw : x_ad z v = w) (h : x_st1 i v L = L') : (i, w) :: (L.map fun q => (q.1, x_ad z q.2)).filter (fun q => !(q.1 == i) && !(q.1 + 1 == i && q.2.category == 2)) = L'.map fun q => (q.1, x_ad z q.2) := by
  subst h; subst hw
  unfold x_st1
  rw [List.map_cons, List.filter_map]
  congr 2
  apply List.filter_congr
  intro q _
  simp only [Function.comp, x_ad_cat]
theorem x_st2_map {i z : Nat} {v w : Value} (hw : x_ad z v = w) (h : x_st2 i v L = L') : (i, w) :: (L.map fun q => (q.1, x_ad z q.2)).filter (fun q => !(q.1 == i) && (!(q.1 == i + 1) && !(q.1 + 1 == i && q.2.category == 2))) = L'.map fun q => (q.1, x_ad z q.2) := by
  subst h; subst hw
  unfold x_st2
  rw [List.map_cons, List.filter_map]
  congr 2
  apply List.filter_congr
  intro q _
  simp only [Function.comp, x_ad_cat]
theorem o_iload_n {k : Fin 4} {x : Int32} (j : Nat) (hd : decode μ.2.1 pc = .ok (.iload_n k, 1)) (hL : L[j]? = some ((k : Nat), .int x)) (h : x_Wg d μ N0 Q N (pc + 1) L (.int x :: st) σ) : x_Wg d μ N0 Q N pc L st σ := by
  intro l G p e s m args below meth c C h0 h1 h2 H locs ls hW hS hl
  exact lv_iload_n C.1 C.2.1 hd rfl (x_lat hl hL) (h l G p e s m args below meth c C h0 h1 h2 H locs ls hW hS hl)
theorem o_iload {k : Nat} {x : Int32} (j : Nat) (hd : decode μ.2.1 pc = .ok (.iload k, 2)) (hL : L[j]? = some (k, .int x)) (h : x_Wg d μ N0 Q N (pc + 2) L (.int x :: st) σ) : x_Wg d μ N0 Q N pc L st σ := by
  intro l G p e s m args below meth c C h0 h1 h2 H locs ls hW hS hl
  exact lv_iload C.1 C.2.1 hd (x_lat hl hL) (h l G p e s m args below meth c C h0 h1 h2 H locs ls hW hS hl)
theorem o_istore_n {k : Fin 4} {x : Int32} (hd : decode μ.2.1 pc = .ok (.istore_n k, 1)) (hn : (k : Nat) < μ.2.2.1) (hL : x_st1 k (.int x) L = L') (h : x_Wg d μ N0 Q N (pc + 1) L' st σ) : x_Wg d μ N0 Q N pc L (.int x :: st) σ := by
  intro l G p e s m args below meth c C h0 h1 h2 H locs ls hW hS hl
  exact lv_istore_n C.1 C.2.1 hd rfl hl hn (x_st1_map rfl hL) (fun ls' hl' => h l G p e s m args below meth c C h0 h1 h2 H locs ls' hW hS hl')
theorem o_istore {k : Nat} {x : Int32} (hd : decode μ.2.1 pc = .ok (.istore k, 2)) (hn : (k : Nat) < μ.2.2.1) (hL : x_st1 k (.int x) L = L') (h : x_Wg d μ N0 Q N (pc + 2) L' st σ) : x_Wg d μ N0 Q N pc L (.int x :: st) σ := by
  intro l G p e s m args below meth c C h0 h1 h2 H locs ls hW hS hl
  exact lv_istore C.1 C.2.1 hd hl hn (x_st1_map rfl hL) (fun ls' hl' => h l G p e s m args below meth c C h0 h1 h2 H locs ls' hW hS hl')
theorem o_lload_n {k : Fin 4} {x : Int64} (j : Nat) (hd : decode μ.2.1 pc = .ok (.lload_n k, 1)) (hL : L[j]? = some ((k : Nat), .long x)) (h : x_Wg d μ N0 Q N (pc + 1) L (.long x :: st) σ) : x_Wg d μ N0 Q N pc L st σ := by
  intro l G p e s m args below meth c C h0 h1 h2 H locs ls hW hS hl
  exact lv_lload_n C.1 C.2.1 hd rfl (x_lat hl hL) (h l G p e s m args below meth c C h0 h1 h2 H locs ls hW hS hl)
theorem o_lload {k : Nat} {x : Int64} (j : Nat) (hd : decode μ.2.1 pc = .ok (.lload k, 2)) (hL : L[j]? = some (k, .long x)) (h : x_Wg d μ N0 Q N (pc + 2) L (.long x :: st) σ) : x_Wg d μ N0 Q N pc L st σ := by
  intro l G p e s m args below meth c C h0 h1 h2 H locs ls hW hS hl
  exact lv_lload C.1 C.2.1 hd (x_lat hl hL) (h l G p e s m args below meth c C h0 h1 h2 H locs ls hW hS hl)
theorem o_lstore_n {k : Fin 4} {x : Int64} (hd : decode μ.2.1 pc = .ok (.lstore_n k, 1)) (hn : (k : Nat) + 1 < μ.2.2.1) (hL : x_st2 k (.long x) L = L') (h : x_Wg d μ N0 Q N (pc + 1) L' st σ) : x_Wg d μ N0 Q N pc L (.long x :: st) σ := by
  intro l G p e s m args below meth c C h0 h1 h2 H locs ls hW hS hl
  exact lv_lstore_n C.1 C.2.1 hd rfl hl hn (x_st2_map rfl hL) (fun ls' hl' => h l G p e s m args below meth c C h0 h1 h2 H locs ls' hW hS hl')
theorem o_lstore {k : Nat} {x : Int64} (hd : decode μ.2.1 pc = .ok (.lstore k, 2)) (hn : (k : Nat) + 1 < μ.2.2.1) (hL : x_st2 k (.long x) L = L') (h : x_Wg d μ N0 Q N (pc + 2) L' st σ) : x_Wg d μ N0 Q N pc L (.long x :: st) σ := by
  intro l G p e s m args below meth c C h0 h1 h2 H locs ls hW hS hl
  exact lv_lstore C.1 C.2.1 hd hl hn (x_st2_map rfl hL) (fun ls' hl' => h l G p e s m args below meth c C h0 h1 h2 H locs ls' hW hS hl')
theorem o_aload_n {k : Fin 4} {x : Nat} (j : Nat) (hd : decode μ.2.1 pc = .ok (.aload_n k, 1)) (hL : L[j]? = some ((k : Nat), .ref x)) (h : x_Wg d μ N0 Q N (pc + 1) L (.ref x :: st) σ) : x_Wg d μ N0 Q N pc L st σ := by
  intro l G p e s m args below meth c C h0 h1 h2 H locs ls hW hS hl
  exact lv_aload_n C.1 C.2.1 hd rfl (x_lat hl hL) (h l G p e s m args below meth c C h0 h1 h2 H locs ls hW hS hl)
theorem o_aload {k : Nat} {x : Nat} (j : Nat) (hd : decode μ.2.1 pc = .ok (.aload k, 2)) (hL : L[j]? = some (k, .ref x)) (h : x_Wg d μ N0 Q N (pc + 2) L (.ref x :: st) σ) : x_Wg d μ N0 Q N pc L st σ := by
  intro l G p e s m args below meth c C h0 h1 h2 H locs ls hW hS hl
  exact lv_aload C.1 C.2.1 hd (x_lat hl hL) (h l G p e s m args below meth c C h0 h1 h2 H locs ls hW hS hl)
theorem o_astore_n {k : Fin 4} {x : Nat} (hd : decode μ.2.1 pc = .ok (.astore_n k, 1)) (hn : (k : Nat) < μ.2.2.1) (hL : x_st1 k (.ref x) L = L') (h : x_Wg d μ N0 Q N (pc + 1) L' st σ) : x_Wg d μ N0 Q N pc L (.ref x :: st) σ := by
  intro l G p e s m args below meth c C h0 h1 h2 H locs ls hW hS hl
  exact lv_astore_n C.1 C.2.1 hd rfl hl hn (x_st1_map rfl hL) (fun ls' hl' => h l G p e s m args below meth c C h0 h1 h2 H locs ls' hW hS hl')
theorem o_astore {k : Nat} {x : Nat} (hd : decode μ.2.1 pc = .ok (.astore k, 2)) (hn : (k : Nat) < μ.2.2.1) (hL : x_st1 k (.ref x) L = L') (h : x_Wg d μ N0 Q N (pc + 2) L' st σ) : x_Wg d μ N0 Q N pc L (.ref x :: st) σ := by
  intro l G p e s m args below meth c C h0 h1 h2 H locs ls hW hS hl
  exact lv_astore C.1 C.2.1 hd hl hn (x_st1_map rfl hL) (fun ls' hl' => h l G p e s m args below meth c C h0 h1 h2 H locs ls' hW hS hl')
theorem o_aload_nN {k : Fin 4} (j : Nat) (hd : decode μ.2.1 pc = .ok (.aload_n k, 1)) (hL : L[j]? = some ((k : Nat), .null)) (h : x_Wg d μ N0 Q N (pc + 1) L (.null :: st) σ) : x_Wg d μ N0 Q N pc L st σ := by
  intro l G p e s m args below meth c C h0 h1 h2 H locs ls hW hS hl
  exact lv_aload_nN C.1 C.2.1 hd rfl (x_lat hl hL) (h l G p e s m args below meth c C h0 h1 h2 H locs ls hW hS hl)
theorem o_astore_nN {k : Fin 4} (hd : decode μ.2.1 pc = .ok (.astore_n k, 1)) (hn : (k : Nat) < μ.2.2.1) (hL : x_st1 k .null L = L') (h : x_Wg d μ N0 Q N (pc + 1) L' st σ) : x_Wg d μ N0 Q N pc L (.null :: st) σ := by
  intro l G p e s m args below meth c C h0 h1 h2 H locs ls hW hS hl
  exact lv_astore_nN C.1 C.2.1 hd rfl hl hn (x_st1_map rfl hL) (fun ls' hl' => h l G p e s m args below meth c C h0 h1 h2 H locs ls' hW hS hl')
theorem o_aload_nR {k : Fin 4} {r : Option Nat} (j : Nat) (hd : decode μ.2.1 pc = .ok (.aload_n k, 1)) (hL : L[j]? = some ((k : Nat), x_rf r)) (h : x_Wg d μ N0 Q N (pc + 1) L (x_rf r :: st) σ) : x_Wg d μ N0 Q N pc L st σ := by
  cases r with
  | none => exact o_aload_nN j hd hL h
  | some c => exact o_aload_n j hd hL h
theorem o_astore_nR {k : Fin 4} {r : Option Nat} (hd : decode μ.2.1 pc = .ok (.astore_n k, 1)) (hn : (k : Nat) < μ.2.2.1) (hL : x_st1 k (x_rf r) L = L') (h : x_Wg d μ N0 Q N (pc + 1) L' st σ) : x_Wg d μ N0 Q N pc L (x_rf r :: st) σ := by
  cases r with
  | none => exact o_astore_nN hd hn hL h
  | some c => exact o_astore_n hd hn hL h
theorem o_iconst {n : Int} {v : Int32} (hd : decode μ.2.1 pc = .ok (.iconst n, 1)) (hv : Int32.ofInt n = v) (h : x_Wg d μ N0 Q N (pc + 1) L (.int v :: st) σ) : x_Wg d μ N0 Q N pc L st σ := by
  intro l G p e s m args below meth c C h0 h1 h2 H locs ls hW hS hl
  exact lv_iconst C.1 C.2.1 hd hv (h l G p e s m args below meth c C h0 h1 h2 H locs ls hW hS hl)
theorem o_bipush {n : Int} {v : Int32} (hd : decode μ.2.1 pc = .ok (.bipush n, 2)) (hv : (Int8.ofInt n).toInt32 = v) (h : x_Wg d μ N0 Q N (pc + 2) L (.int v :: st) σ) : x_Wg d μ N0 Q N pc L st σ := by
  intro l G p e s m args below meth c C h0 h1 h2 H locs ls hW hS hl
  exact lv_bipush C.1 C.2.1 hd hv (h l G p e s m args below meth c C h0 h1 h2 H locs ls hW hS hl)
theorem o_sipush {n : Int} {v : Int32} (hd : decode μ.2.1 pc = .ok (.sipush n, 3)) (hv : (Int16.ofInt n).toInt32 = v) (h : x_Wg d μ N0 Q N (pc + 3) L (.int v :: st) σ) : x_Wg d μ N0 Q N pc L st σ := by
  intro l G p e s m args below meth c C h0 h1 h2 H locs ls hW hS hl
  exact lv_sipush C.1 C.2.1 hd hv (h l G p e s m args below meth c C h0 h1 h2 H locs ls hW hS hl)
theorem o_lconst {n : Fin 2} {v : Int64} (hd : decode μ.2.1 pc = .ok (.lconst n, 1)) (hv : Int64.ofNat (n : Nat) = v) (h : x_Wg d μ N0 Q N (pc + 1) L (.long v :: st) σ) : x_Wg d μ N0 Q N pc L st σ := by
  intro l G p e s m args below meth c C h0 h1 h2 H locs ls hW hS hl
  exact lv_lconst C.1 C.2.1 hd hv (h l G p e s m args below meth c C h0 h1 h2 H locs ls hW hS hl)
theorem o_null (hd : decode μ.2.1 pc = .ok (.aconst_null, 1)) (h : x_Wg d μ N0 Q N (pc + 1) L (.null :: st) σ) : x_Wg d μ N0 Q N pc L st σ := by
  intro l G p e s m args below meth c C h0 h1 h2 H locs ls hW hS hl
  exact lv_null C.1 C.2.1 hd (h l G p e s m args below meth c C h0 h1 h2 H locs ls hW hS hl)
theorem x_word {l : Launch} {G : x_G} {p : Program} {e : Env} {s : State} {m : MethodId} {args : Array Value} {meth : Method} {c : Code} (C : x_Cx l G p e s m args meth c μ N0) {w : Cond} (h : w ∈ x_tb) : w.before args s = true := C.2.2.2.2.2.2.2.1 w (List.mem_cons_of_mem _ h)
theorem o_ldc {i : Nat} {v : Int32} (hd : decode μ.2.1 pc = .ok (.ldc i, 2)) (hw : Cond.constant μ.1.cls i v ∈ x_tb) (h : x_Wg d μ N0 Q N (pc + 2) L (.int v :: st) σ) : x_Wg d μ N0 Q N pc L st σ := by
  intro l G p e s m args below meth c C h0 h1 h2 H locs ls hW hS hl
  exact lv_ldc C.1 C.2.1 C.2.2.2.2.1 (x_word C hw) hd (h l G p e s m args below meth c C h0 h1 h2 H locs ls hW hS hl)
theorem o_ldcw {i : Nat} {v : Int32} (hd : decode μ.2.1 pc = .ok (.ldc_w i, 3)) (hw : Cond.constant μ.1.cls i v ∈ x_tb) (h : x_Wg d μ N0 Q N (pc + 3) L (.int v :: st) σ) : x_Wg d μ N0 Q N pc L st σ := by
  intro l G p e s m args below meth c C h0 h1 h2 H locs ls hW hS hl
  exact lv_ldcw C.1 C.2.1 C.2.2.2.2.1 (x_word C hw) hd (h l G p e s m args below meth c C h0 h1 h2 H locs ls hW hS hl)
theorem o_ldc2 {i : Nat} {v : Int64} (hd : decode μ.2.1 pc = .ok (.ldc2_w i, 3)) (hw : Cond.constantLong μ.1.cls i v ∈ x_tb) (h : x_Wg d μ N0 Q N (pc + 3) L (.long v :: st) σ) : x_Wg d μ N0 Q N pc L st σ := by
  intro l G p e s m args below meth c C h0 h1 h2 H locs ls hW hS hl
  exact lv_ldc2 C.1 C.2.1 C.2.2.2.2.1 (x_word C hw) hd (h l G p e s m args below meth c C h0 h1 h2 H locs ls hW hS hl)
theorem o_iadd {x y : Int32} (hd : decode μ.2.1 pc = .ok (.iadd, 1)) (h : x_Wg d μ N0 Q N (pc + 1) L (.int (x + y) :: st) σ) : x_Wg d μ N0 Q N pc L (.int y :: .int x :: st) σ := by
  intro l G p e s m args below meth c C h0 h1 h2 H locs ls hW hS hl
  exact lv_iadd C.1 C.2.1 hd (h l G p e s m args below meth c C h0 h1 h2 H locs ls hW hS hl)
theorem o_isub {x y : Int32} (hd : decode μ.2.1 pc = .ok (.isub, 1)) (h : x_Wg d μ N0 Q N (pc + 1) L (.int (x - y) :: st) σ) : x_Wg d μ N0 Q N pc L (.int y :: .int x :: st) σ := by
  intro l G p e s m args below meth c C h0 h1 h2 H locs ls hW hS hl
  exact lv_isub C.1 C.2.1 hd (h l G p e s m args below meth c C h0 h1 h2 H locs ls hW hS hl)
theorem o_imul {x y : Int32} (hd : decode μ.2.1 pc = .ok (.imul, 1)) (h : x_Wg d μ N0 Q N (pc + 1) L (.int (x * y) :: st) σ) : x_Wg d μ N0 Q N pc L (.int y :: .int x :: st) σ := by
  intro l G p e s m args below meth c C h0 h1 h2 H locs ls hW hS hl
  exact lv_imul C.1 C.2.1 hd (h l G p e s m args below meth c C h0 h1 h2 H locs ls hW hS hl)
theorem o_iand {x y : Int32} (hd : decode μ.2.1 pc = .ok (.iand, 1)) (h : x_Wg d μ N0 Q N (pc + 1) L (.int (x &&& y) :: st) σ) : x_Wg d μ N0 Q N pc L (.int y :: .int x :: st) σ := by
  intro l G p e s m args below meth c C h0 h1 h2 H locs ls hW hS hl
  exact lv_iand C.1 C.2.1 hd (h l G p e s m args below meth c C h0 h1 h2 H locs ls hW hS hl)
theorem o_ior {x y : Int32} (hd : decode μ.2.1 pc = .ok (.ior, 1)) (h : x_Wg d μ N0 Q N (pc + 1) L (.int (x ||| y) :: st) σ) : x_Wg d μ N0 Q N pc L (.int y :: .int x :: st) σ := by
  intro l G p e s m args below meth c C h0 h1 h2 H locs ls hW hS hl
  exact lv_ior C.1 C.2.1 hd (h l G p e s m args below meth c C h0 h1 h2 H locs ls hW hS hl)
theorem o_ixor {x y : Int32} (hd : decode μ.2.1 pc = .ok (.ixor, 1)) (h : x_Wg d μ N0 Q N (pc + 1) L (.int (x ^^^ y) :: st) σ) : x_Wg d μ N0 Q N pc L (.int y :: .int x :: st) σ := by
  intro l G p e s m args below meth c C h0 h1 h2 H locs ls hW hS hl
  exact lv_ixor C.1 C.2.1 hd (h l G p e s m args below meth c C h0 h1 h2 H locs ls hW hS hl)
theorem o_ishl {x y : Int32} (hd : decode μ.2.1 pc = .ok (.ishl, 1)) (h : x_Wg d μ N0 Q N (pc + 1) L (.int (x <<< (y &&& 31)) :: st) σ) : x_Wg d μ N0 Q N pc L (.int y :: .int x :: st) σ := by
  intro l G p e s m args below meth c C h0 h1 h2 H locs ls hW hS hl
  exact lv_ishl C.1 C.2.1 hd (h l G p e s m args below meth c C h0 h1 h2 H locs ls hW hS hl)
theorem o_ishr {x y : Int32} (hd : decode μ.2.1 pc = .ok (.ishr, 1)) (h : x_Wg d μ N0 Q N (pc + 1) L (.int (x >>> (y &&& 31)) :: st) σ) : x_Wg d μ N0 Q N pc L (.int y :: .int x :: st) σ := by
  intro l G p e s m args below meth c C h0 h1 h2 H locs ls hW hS hl
  exact lv_ishr C.1 C.2.1 hd (h l G p e s m args below meth c C h0 h1 h2 H locs ls hW hS hl)
theorem o_idiv {x y : Int32} (hd : decode μ.2.1 pc = .ok (.idiv, 1)) (hne : ¬ y = 0) (h : x_Wg d μ N0 Q N (pc + 1) L (.int (x / y) :: st) σ) : x_Wg d μ N0 Q N pc L (.int y :: .int x :: st) σ := by
  intro l G p e s m args below meth c C h0 h1 h2 H locs ls hW hS hl
  exact lv_idiv C.1 C.2.1 hd hne (h l G p e s m args below meth c C h0 h1 h2 H locs ls hW hS hl)
theorem o_irem {x y : Int32} (hd : decode μ.2.1 pc = .ok (.irem, 1)) (hne : ¬ y = 0) (h : x_Wg d μ N0 Q N (pc + 1) L (.int (x - x / y * y) :: st) σ) : x_Wg d μ N0 Q N pc L (.int y :: .int x :: st) σ := by
  intro l G p e s m args below meth c C h0 h1 h2 H locs ls hW hS hl
  exact lv_irem C.1 C.2.1 hd hne (h l G p e s m args below meth c C h0 h1 h2 H locs ls hW hS hl)
theorem o_iushr {x y : Int32} (hd : decode μ.2.1 pc = .ok (.iushr, 1)) (h : x_Wg d μ N0 Q N (pc + 1) L (.int ((x.toUInt32 >>> (y.toUInt32 &&& Int32.toUInt32 31)).toInt32) :: st) σ) : x_Wg d μ N0 Q N pc L (.int y :: .int x :: st) σ := by
  intro l G p e s m args below meth c C h0 h1 h2 H locs ls hW hS hl
  exact lv_iushr C.1 C.2.1 hd rfl (h l G p e s m args below meth c C h0 h1 h2 H locs ls hW hS hl)
theorem o_ineg {x : Int32} (hd : decode μ.2.1 pc = .ok (.ineg, 1)) (h : x_Wg d μ N0 Q N (pc + 1) L (.int (-x) :: st) σ) : x_Wg d μ N0 Q N pc L (.int x :: st) σ := by
  intro l G p e s m args below meth c C h0 h1 h2 H locs ls hW hS hl
  exact lv_ineg C.1 C.2.1 hd (h l G p e s m args below meth c C h0 h1 h2 H locs ls hW hS hl)
theorem o_ladd {x y : Int64} (hd : decode μ.2.1 pc = .ok (.ladd, 1)) (h : x_Wg d μ N0 Q N (pc + 1) L (.long (x + y) :: st) σ) : x_Wg d μ N0 Q N pc L (.long y :: .long x :: st) σ := by
  intro l G p e s m args below meth c C h0 h1 h2 H locs ls hW hS hl
  exact lv_ladd C.1 C.2.1 hd (h l G p e s m args below meth c C h0 h1 h2 H locs ls hW hS hl)
theorem o_lsub {x y : Int64} (hd : decode μ.2.1 pc = .ok (.lsub, 1)) (h : x_Wg d μ N0 Q N (pc + 1) L (.long (x - y) :: st) σ) : x_Wg d μ N0 Q N pc L (.long y :: .long x :: st) σ := by
  intro l G p e s m args below meth c C h0 h1 h2 H locs ls hW hS hl
  exact lv_lsub C.1 C.2.1 hd (h l G p e s m args below meth c C h0 h1 h2 H locs ls hW hS hl)
theorem o_lmul {x y : Int64} (hd : decode μ.2.1 pc = .ok (.lmul, 1)) (h : x_Wg d μ N0 Q N (pc + 1) L (.long (x * y) :: st) σ) : x_Wg d μ N0 Q N pc L (.long y :: .long x :: st) σ := by
  intro l G p e s m args below meth c C h0 h1 h2 H locs ls hW hS hl
  exact lv_lmul C.1 C.2.1 hd (h l G p e s m args below meth c C h0 h1 h2 H locs ls hW hS hl)
theorem o_ldiv {x y : Int64} (hd : decode μ.2.1 pc = .ok (.ldiv, 1)) (hne : ¬ y = 0) (h : x_Wg d μ N0 Q N (pc + 1) L (.long (x / y) :: st) σ) : x_Wg d μ N0 Q N pc L (.long y :: .long x :: st) σ := by
  intro l G p e s m args below meth c C h0 h1 h2 H locs ls hW hS hl
  exact lv_ldiv C.1 C.2.1 hd hne (h l G p e s m args below meth c C h0 h1 h2 H locs ls hW hS hl)
theorem o_lneg {x : Int64} (hd : decode μ.2.1 pc = .ok (.lneg, 1)) (h : x_Wg d μ N0 Q N (pc + 1) L (.long (-x) :: st) σ) : x_Wg d μ N0 Q N pc L (.long x :: st) σ := by
  intro l G p e s m args below meth c C h0 h1 h2 H locs ls hW hS hl
  exact lv_lneg C.1 C.2.1 hd (h l G p e s m args below meth c C h0 h1 h2 H locs ls hW hS hl)
theorem o_lcmp {x y : Int64} (hd : decode μ.2.1 pc = .ok (.lcmp, 1)) (h : x_Wg d μ N0 Q N (pc + 1) L (.int (lg_cmp x y) :: st) σ) : x_Wg d μ N0 Q N pc L (.long y :: .long x :: st) σ := by
  intro l G p e s m args below meth c C h0 h1 h2 H locs ls hW hS hl
  exact W.lcmp C.1 C.2.1 hd (h l G p e s m args below meth c C h0 h1 h2 H locs ls hW hS hl)
theorem o_i2l {x : Int32} (hd : decode μ.2.1 pc = .ok (.i2l, 1)) (h : x_Wg d μ N0 Q N (pc + 1) L (.long (x.toInt64) :: st) σ) : x_Wg d μ N0 Q N pc L (.int x :: st) σ := by
  intro l G p e s m args below meth c C h0 h1 h2 H locs ls hW hS hl
  exact lv_i2l C.1 C.2.1 hd rfl (h l G p e s m args below meth c C h0 h1 h2 H locs ls hW hS hl)
theorem o_l2i {x : Int64} (hd : decode μ.2.1 pc = .ok (.l2i, 1)) (h : x_Wg d μ N0 Q N (pc + 1) L (.int (x.toInt32) :: st) σ) : x_Wg d μ N0 Q N pc L (.long x :: st) σ := by
  intro l G p e s m args below meth c C h0 h1 h2 H locs ls hW hS hl
  exact lv_l2i C.1 C.2.1 hd rfl (h l G p e s m args below meth c C h0 h1 h2 H locs ls hW hS hl)
theorem o_i2b {x : Int32} (hd : decode μ.2.1 pc = .ok (.i2b, 1)) (h : x_Wg d μ N0 Q N (pc + 1) L (.int (x.toInt8.toInt32) :: st) σ) : x_Wg d μ N0 Q N pc L (.int x :: st) σ := by
  intro l G p e s m args below meth c C h0 h1 h2 H locs ls hW hS hl
  exact lv_i2b C.1 C.2.1 hd rfl (h l G p e s m args below meth c C h0 h1 h2 H locs ls hW hS hl)
theorem o_i2c {x : Int32} (hd : decode μ.2.1 pc = .ok (.i2c, 1)) (h : x_Wg d μ N0 Q N (pc + 1) L (.int ((x.toUInt32 % 65536).toInt32) :: st) σ) : x_Wg d μ N0 Q N pc L (.int x :: st) σ := by
  intro l G p e s m args below meth c C h0 h1 h2 H locs ls hW hS hl
  exact lv_i2c C.1 C.2.1 hd rfl (h l G p e s m args below meth c C h0 h1 h2 H locs ls hW hS hl)
theorem o_dup {v : Value} (hd : decode μ.2.1 pc = .ok (.dup, 1)) (hv : v.category = 1) (h : x_Wg d μ N0 Q N (pc + 1) L (v :: v :: st) σ) : x_Wg d μ N0 Q N pc L (v :: st) σ := by
  intro l G p e s m args below meth c C h0 h1 h2 H locs ls hW hS hl
  exact lv_dup C.1 C.2.1 hd (by rw [x_ad_cat]; exact hv) (h l G p e s m args below meth c C h0 h1 h2 H locs ls hW hS hl)
theorem o_dup2 {v w : Value} (hd : decode μ.2.1 pc = .ok (.dup2, 1)) (hv : v.category = 1) (hw : w.category = 1) (h : x_Wg d μ N0 Q N (pc + 1) L (v :: w :: v :: w :: st) σ) : x_Wg d μ N0 Q N pc L (v :: w :: st) σ := by
  intro l G p e s m args below meth c C h0 h1 h2 H locs ls hW hS hl
  exact lv_dup2_11 C.1 C.2.1 hd (by rw [x_ad_cat]; exact hv) (by rw [x_ad_cat]; exact hw) (h l G p e s m args below meth c C h0 h1 h2 H locs ls hW hS hl)
theorem o_pop {v : Value} (hd : decode μ.2.1 pc = .ok (.pop, 1)) (hv : v.category = 1) (h : x_Wg d μ N0 Q N (pc + 1) L st σ) : x_Wg d μ N0 Q N pc L (v :: st) σ := by
  intro l G p e s m args below meth c C h0 h1 h2 H locs ls hW hS hl
  exact lv_pop C.1 C.2.1 hd (by rw [x_ad_cat]; exact hv) (h l G p e s m args below meth c C h0 h1 h2 H locs ls hW hS hl)
theorem o_iinc {i : Nat} {n : Int} {x v : Int32} (j : Nat) (hd : decode μ.2.1 pc = .ok (.iinc i n, 3)) (hj : L[j]? = some (i, .int x)) (hv : x + Int32.ofInt n = v) (hn : i < μ.2.2.1) (hL : x_st1 i (.int v) L = L') (h : x_Wg d μ N0 Q N (pc + 3) L' st σ) : x_Wg d μ N0 Q N pc L st σ := by
  intro l G p e s m args below meth c C h0 h1 h2 H locs ls hW hS hl
  exact lv_iinc C.1 C.2.1 hd hl (k := j) (by rw [List.getElem?_map, hj]; rfl) hv hn (x_st1_map rfl hL) (fun ls' hl' => h l G p e s m args below meth c C h0 h1 h2 H locs ls' hW hS hl')
theorem o_icmp_eq {x y : Int32} {off : Int} (tgt : Nat) (hd : decode μ.2.1 pc = .ok (.if_icmp .eq off, 3)) (ht : (pc : Int) + off = (tgt : Int)) (kt : x = y → x_Wg d μ N0 Q N tgt L st σ) (kf : ¬ x = y → x_Wg d μ N0 Q N (pc + 3) L st σ) : x_Wg d μ N0 Q N pc L (.int y :: .int x :: st) σ := by
  intro l G p e s m args below meth c C h0 h1 h2 H locs ls hW hS hl
  exact lv_icmp_eq C.1 C.2.1 hd ht (fun q => kt q l G p e s m args below meth c C h0 h1 h2 H locs ls hW hS hl) (fun q => kf q l G p e s m args below meth c C h0 h1 h2 H locs ls hW hS hl)
theorem o_if_eq {x : Int32} {off : Int} (tgt : Nat) (hd : decode μ.2.1 pc = .ok (.ifCond .eq off, 3)) (ht : (pc : Int) + off = (tgt : Int)) (kt : x = 0 → x_Wg d μ N0 Q N tgt L st σ) (kf : ¬ x = 0 → x_Wg d μ N0 Q N (pc + 3) L st σ) : x_Wg d μ N0 Q N pc L (.int x :: st) σ := by
  intro l G p e s m args below meth c C h0 h1 h2 H locs ls hW hS hl
  exact lv_if_eq C.1 C.2.1 hd ht (fun q => kt q l G p e s m args below meth c C h0 h1 h2 H locs ls hW hS hl) (fun q => kf q l G p e s m args below meth c C h0 h1 h2 H locs ls hW hS hl)
theorem o_icmp_ne {x y : Int32} {off : Int} (tgt : Nat) (hd : decode μ.2.1 pc = .ok (.if_icmp .ne off, 3)) (ht : (pc : Int) + off = (tgt : Int)) (kt : ¬ x = y → x_Wg d μ N0 Q N tgt L st σ) (kf : x = y → x_Wg d μ N0 Q N (pc + 3) L st σ) : x_Wg d μ N0 Q N pc L (.int y :: .int x :: st) σ := by
  intro l G p e s m args below meth c C h0 h1 h2 H locs ls hW hS hl
  exact lv_icmp_ne C.1 C.2.1 hd ht (fun q => kt q l G p e s m args below meth c C h0 h1 h2 H locs ls hW hS hl) (fun q => kf q l G p e s m args below meth c C h0 h1 h2 H locs ls hW hS hl)
theorem o_if_ne {x : Int32} {off : Int} (tgt : Nat) (hd : decode μ.2.1 pc = .ok (.ifCond .ne off, 3)) (ht : (pc : Int) + off = (tgt : Int)) (kt : ¬ x = 0 → x_Wg d μ N0 Q N tgt L st σ) (kf : x = 0 → x_Wg d μ N0 Q N (pc + 3) L st σ) : x_Wg d μ N0 Q N pc L (.int x :: st) σ := by
  intro l G p e s m args below meth c C h0 h1 h2 H locs ls hW hS hl
  exact lv_if_ne C.1 C.2.1 hd ht (fun q => kt q l G p e s m args below meth c C h0 h1 h2 H locs ls hW hS hl) (fun q => kf q l G p e s m args below meth c C h0 h1 h2 H locs ls hW hS hl)
theorem o_icmp_lt {x y : Int32} {off : Int} (tgt : Nat) (hd : decode μ.2.1 pc = .ok (.if_icmp .lt off, 3)) (ht : (pc : Int) + off = (tgt : Int)) (kt : x < y → x_Wg d μ N0 Q N tgt L st σ) (kf : ¬ x < y → x_Wg d μ N0 Q N (pc + 3) L st σ) : x_Wg d μ N0 Q N pc L (.int y :: .int x :: st) σ := by
  intro l G p e s m args below meth c C h0 h1 h2 H locs ls hW hS hl
  exact lv_icmp_lt C.1 C.2.1 hd ht (fun q => kt q l G p e s m args below meth c C h0 h1 h2 H locs ls hW hS hl) (fun q => kf q l G p e s m args below meth c C h0 h1 h2 H locs ls hW hS hl)
theorem o_if_lt {x : Int32} {off : Int} (tgt : Nat) (hd : decode μ.2.1 pc = .ok (.ifCond .lt off, 3)) (ht : (pc : Int) + off = (tgt : Int)) (kt : x < 0 → x_Wg d μ N0 Q N tgt L st σ) (kf : ¬ x < 0 → x_Wg d μ N0 Q N (pc + 3) L st σ) : x_Wg d μ N0 Q N pc L (.int x :: st) σ := by
  intro l G p e s m args below meth c C h0 h1 h2 H locs ls hW hS hl
  exact lv_if_lt C.1 C.2.1 hd ht (fun q => kt q l G p e s m args below meth c C h0 h1 h2 H locs ls hW hS hl) (fun q => kf q l G p e s m args below meth c C h0 h1 h2 H locs ls hW hS hl)
theorem o_icmp_ge {x y : Int32} {off : Int} (tgt : Nat) (hd : decode μ.2.1 pc = .ok (.if_icmp .ge off, 3)) (ht : (pc : Int) + off = (tgt : Int)) (kt : y ≤ x → x_Wg d μ N0 Q N tgt L st σ) (kf : ¬ y ≤ x → x_Wg d μ N0 Q N (pc + 3) L st σ) : x_Wg d μ N0 Q N pc L (.int y :: .int x :: st) σ := by
  intro l G p e s m args below meth c C h0 h1 h2 H locs ls hW hS hl
  exact lv_icmp_ge C.1 C.2.1 hd ht (fun q => kt q l G p e s m args below meth c C h0 h1 h2 H locs ls hW hS hl) (fun q => kf q l G p e s m args below meth c C h0 h1 h2 H locs ls hW hS hl)
theorem o_if_ge {x : Int32} {off : Int} (tgt : Nat) (hd : decode μ.2.1 pc = .ok (.ifCond .ge off, 3)) (ht : (pc : Int) + off = (tgt : Int)) (kt : 0 ≤ x → x_Wg d μ N0 Q N tgt L st σ) (kf : ¬ 0 ≤ x → x_Wg d μ N0 Q N (pc + 3) L st σ) : x_Wg d μ N0 Q N pc L (.int x :: st) σ := by
  intro l G p e s m args below meth c C h0 h1 h2 H locs ls hW hS hl
  exact lv_if_ge C.1 C.2.1 hd ht (fun q => kt q l G p e s m args below meth c C h0 h1 h2 H locs ls hW hS hl) (fun q => kf q l G p e s m args below meth c C h0 h1 h2 H locs ls hW hS hl)
theorem o_icmp_gt {x y : Int32} {off : Int} (tgt : Nat) (hd : decode μ.2.1 pc = .ok (.if_icmp .gt off, 3)) (ht : (pc : Int) + off = (tgt : Int)) (kt : y < x → x_Wg d μ N0 Q N tgt L st σ) (kf : ¬ y < x → x_Wg d μ N0 Q N (pc + 3) L st σ) : x_Wg d μ N0 Q N pc L (.int y :: .int x :: st) σ := by
  intro l G p e s m args below meth c C h0 h1 h2 H locs ls hW hS hl
  exact lv_icmp_gt C.1 C.2.1 hd ht (fun q => kt q l G p e s m args below meth c C h0 h1 h2 H locs ls hW hS hl) (fun q => kf q l G p e s m args below meth c C h0 h1 h2 H locs ls hW hS hl)
theorem o_if_gt {x : Int32} {off : Int} (tgt : Nat) (hd : decode μ.2.1 pc = .ok (.ifCond .gt off, 3)) (ht : (pc : Int) + off = (tgt : Int)) (kt : 0 < x → x_Wg d μ N0 Q N tgt L st σ) (kf : ¬ 0 < x → x_Wg d μ N0 Q N (pc + 3) L st σ) : x_Wg d μ N0 Q N pc L (.int x :: st) σ := by
  intro l G p e s m args below meth c C h0 h1 h2 H locs ls hW hS hl
  exact lv_if_gt C.1 C.2.1 hd ht (fun q => kt q l G p e s m args below meth c C h0 h1 h2 H locs ls hW hS hl) (fun q => kf q l G p e s m args below meth c C h0 h1 h2 H locs ls hW hS hl)
theorem o_icmp_le {x y : Int32} {off : Int} (tgt : Nat) (hd : decode μ.2.1 pc = .ok (.if_icmp .le off, 3)) (ht : (pc : Int) + off = (tgt : Int)) (kt : x ≤ y → x_Wg d μ N0 Q N tgt L st σ) (kf : ¬ x ≤ y → x_Wg d μ N0 Q N (pc + 3) L st σ) : x_Wg d μ N0 Q N pc L (.int y :: .int x :: st) σ := by
  intro l G p e s m args below meth c C h0 h1 h2 H locs ls hW hS hl
  exact lv_icmp_le C.1 C.2.1 hd ht (fun q => kt q l G p e s m args below meth c C h0 h1 h2 H locs ls hW hS hl) (fun q => kf q l G p e s m args below meth c C h0 h1 h2 H locs ls hW hS hl)
theorem o_if_le {x : Int32} {off : Int} (tgt : Nat) (hd : decode μ.2.1 pc = .ok (.ifCond .le off, 3)) (ht : (pc : Int) + off = (tgt : Int)) (kt : x ≤ 0 → x_Wg d μ N0 Q N tgt L st σ) (kf : ¬ x ≤ 0 → x_Wg d μ N0 Q N (pc + 3) L st σ) : x_Wg d μ N0 Q N pc L (.int x :: st) σ := by
  intro l G p e s m args below meth c C h0 h1 h2 H locs ls hW hS hl
  exact lv_if_le C.1 C.2.1 hd ht (fun q => kt q l G p e s m args below meth c C h0 h1 h2 H locs ls hW hS hl) (fun q => kf q l G p e s m args below meth c C h0 h1 h2 H locs ls hW hS hl)
theorem o_goto {off : Int} (tgt : Nat) (hd : decode μ.2.1 pc = .ok (.goto off, 3)) (ht : (pc : Int) + off = (tgt : Int)) (h : x_Wg d μ N0 Q N tgt L st σ) : x_Wg d μ N0 Q N pc L st σ := by
  intro l G p e s m args below meth c C h0 h1 h2 H locs ls hW hS hl
  exact lv_goto C.1 C.2.1 hd ht (h l G p e s m args below meth c C h0 h1 h2 H locs ls hW hS hl)
theorem o_ifnull {r : Option Nat} {off : Int} (tgt : Nat) (hd : decode μ.2.1 pc = .ok (.ifnull off, 3)) (ht : (pc : Int) + off = (tgt : Int)) (kt : r = none → x_Wg d μ N0 Q N tgt L st σ) (kf : ∀ c, r = some c → x_Wg d μ N0 Q N (pc + 3) L st σ) : x_Wg d μ N0 Q N pc L (x_rf r :: st) σ := by
  cases r with
  | none =>
    intro l G p e s m args below meth c C h0 h1 h2 H locs ls hW hS hl
    exact lv_ifnullN C.1 C.2.1 hd ht (kt rfl l G p e s m args below meth c C h0 h1 h2 H locs ls hW hS hl)
  | some a =>
    intro l G p e s m args below meth c C h0 h1 h2 H locs ls hW hS hl
    exact lv_ifnull C.1 C.2.1 hd (kf a rfl l G p e s m args below meth c C h0 h1 h2 H locs ls hW hS hl)
theorem o_ifnonnull {r : Option Nat} {off : Int} (tgt : Nat) (hd : decode μ.2.1 pc = .ok (.ifnonnull off, 3)) (ht : (pc : Int) + off = (tgt : Int)) (kt : ∀ c, r = some c → x_Wg d μ N0 Q N tgt L st σ) (kf : r = none → x_Wg d μ N0 Q N (pc + 3) L st σ) : x_Wg d μ N0 Q N pc L (x_rf r :: st) σ := by
  cases r with
  | none =>
    intro l G p e s m args below meth c C h0 h1 h2 H locs ls hW hS hl
    exact lv_ifnonnullN C.1 C.2.1 hd (kf rfl l G p e s m args below meth c C h0 h1 h2 H locs ls hW hS hl)
  | some a =>
    intro l G p e s m args below meth c C h0 h1 h2 H locs ls hW hS hl
    exact lv_ifnonnull C.1 C.2.1 hd ht (kt a rfl l G p e s m args below meth c C h0 h1 h2 H locs ls hW hS hl)
theorem o_tableIn {dflt lo hi : Int} {offs : Array Int} {len : Nat} {x : Int32} {off : Int} {tgt : Nat} (hd : decode μ.2.1 pc = .ok (.tableswitch dflt lo hi offs, len)) (h1 : ¬ x.toInt < lo) (h2 : ¬ hi < x.toInt) (ho : offs[(x.toInt - lo).toNat]? = some off) (ht : (pc : Int) + off = (tgt : Int)) (h : x_Wg d μ N0 Q N tgt L st σ) : x_Wg d μ N0 Q N pc L (.int x :: st) σ := by
  intro l G p e s m args below meth c C g0 g1 g2 H locs ls hW hS hl
  exact lv_tableIn C.1 C.2.1 hd h1 h2 ho ht (h l G p e s m args below meth c C g0 g1 g2 H locs ls hW hS hl)
theorem o_tableOut {dflt lo hi : Int} {offs : Array Int} {len : Nat} {x : Int32} {tgt : Nat} (hd : decode μ.2.1 pc = .ok (.tableswitch dflt lo hi offs, len)) (hx : x.toInt < lo ∨ hi < x.toInt) (ht : (pc : Int) + dflt = (tgt : Int)) (h : x_Wg d μ N0 Q N tgt L st σ) : x_Wg d μ N0 Q N pc L (.int x :: st) σ := by
  intro l G p e s m args below meth c C g0 g1 g2 H locs ls hW hS hl
  exact lv_tableOut C.1 C.2.1 hd hx ht (h l G p e s m args below meth c C g0 g1 g2 H locs ls hW hS hl)
theorem o_lookup {dflt : Int} {ps : Array (Int × Int)} {len : Nat} {x : Int32} {off : Int} {tgt : Nat} (hd : decode μ.2.1 pc = .ok (.lookupswitch dflt ps, len)) (hp : (ps.toList.zip (ps.toList.drop 1)).all (fun (a, next) => a.1 < next.1) = true) (ho : Op.lookupswitch.offset ps.toList dflt x.toInt = off) (ht : (pc : Int) + off = (tgt : Int)) (h : x_Wg d μ N0 Q N tgt L st σ) : x_Wg d μ N0 Q N pc L (.int x :: st) σ := by
  intro l G p e s m args below meth c C g0 g1 g2 H locs ls hW hS hl
  exact lv_lookup C.1 C.2.1 hd hp ho ht (h l G p e s m args below meth c C g0 g1 g2 H locs ls hW hS hl)
/-- fewer locals are kept in mind, by their places -/
theorem o_sub (ks : List Nat) (hL : ks.filterMap (fun k => L[k]?) = L') (h : x_Wg d μ N0 Q N pc L' st σ) : x_Wg d μ N0 Q N pc L st σ := by
  intro l G p e s m args below meth c C h0 h1 h2 H locs ls hW hS hl
  refine h l G p e s m args below meth c C h0 h1 h2 H locs ls hW hS ⟨hl.1, hl.2.1, fun q hq => ?_⟩
  subst hL
  obtain ⟨a, ha, rfl⟩ := List.mem_map.mp hq
  obtain ⟨k, -, hk⟩ := List.mem_filterMap.mp ha
  exact hl.2.2 _ (List.mem_map.mpr ⟨a, List.mem_of_getElem? hk, rfl⟩)
/-- a number gets a name -/
theorem o_name {x : Int32} (h : ∀ y, y = x → x_Wg d μ N0 Q N pc L (.int y :: st) σ) : x_Wg d μ N0 Q N pc L (.int x :: st) σ := h x rfl
theorem o_nameL {x : Int64} (h : ∀ y, y = x → x_Wg d μ N0 Q N pc L (.long y :: st) σ) : x_Wg d μ N0 Q N pc L (.long x :: st) σ := h x rfl
theorem x_end {l : Launch} {G : x_G} {p : Program} {e : Env} {s : State} {m : MethodId} {args : Array Value} {meth : Method} {c : Code} {H : Heap} {locs : List Loc} (C : x_Cx l G p e s m args meth c μ N0) (hN : N = N0 + μ.2.2.2.2.1) (hW : x_W G N σ H) (hS : va_S (x_A G) s.heap H locs) {v : Option Value} (hq : Q σ v) (t : State) (ht : t.heap = H) : x_Qc G N0 μ Q args s (.returned (v.map (x_ad G.2.2.1))) t :=
  ⟨⟨v, σ, rfl, hq, by rw [ht, ← hN]; exact hW⟩, hS.F ht⟩
theorem o_iret {v : Int32} {ty : FieldType} (hr : μ.2.2.2.1 = some ty) (hn : narrow ty (.int v) = .int v) (hd : decode μ.2.1 pc = .ok (.ireturn, 1)) (hN : N = N0 + μ.2.2.2.2.1) (h : Q σ (some (.int v))) : x_Wg d μ N0 Q N pc L [.int v] σ := by
  intro l G p e s m args below meth c C h0 h1 h2 H locs ls hW hS hl
  refine W.widen (k := μ.2.2.2.2.1) (n := μ.2.2.2.2.2) (by omega) (by omega) ?_
  exact W.zret C.1 C.2.1 (C.2.2.1.trans hr) hn (fun t ht _ => x_end C hN hW hS h t ht) hS.2.2 hd C.2.2.2.2.2.1
theorem o_lret {v : Int64} (hr : μ.2.2.2.1 = some .long) (hd : decode μ.2.1 pc = .ok (.lreturn, 1)) (hN : N = N0 + μ.2.2.2.2.1) (h : Q σ (some (.long v))) : x_Wg d μ N0 Q N pc L [.long v] σ := by
  intro l G p e s m args below meth c C h0 h1 h2 H locs ls hW hS hl
  refine W.widen (k := μ.2.2.2.2.1) (n := μ.2.2.2.2.2) (by omega) (by omega) ?_
  exact W.lret C.1 C.2.1 (C.2.2.1.trans hr) (fun t ht _ => x_end C hN hW hS h t ht) hS.2.2 hd C.2.2.2.2.2.1
theorem o_vret (hr : μ.2.2.2.1 = none) (hd : decode μ.2.1 pc = .ok (.return_, 1)) (hN : N = N0 + μ.2.2.2.2.1) (h : Q σ none) : x_Wg d μ N0 Q N pc L [] σ := by
  intro l G p e s m args below meth c C h0 h1 h2 H locs ls hW hS hl
  refine W.widen (k := μ.2.2.2.2.1) (n := μ.2.2.2.2.2) (by omega) (by omega) ?_
  exact W.vret C.1 C.2.1 (C.2.2.1.trans hr) (fun t ht _ => x_end (v := none) C hN hW hS h t ht) hS.2.2 hd C.2.2.2.2.2.1
theorem o_aret {r : Option Nat} {C0 : String} (hr : μ.2.2.2.1 = some (.object C0)) (hd : decode μ.2.1 pc = .ok (.areturn, 1)) (hN : N = N0 + μ.2.2.2.2.1) (h : Q σ (some (x_rf r))) : x_Wg d μ N0 Q N pc L [x_rf r] σ := by
  intro l G p e s m args below meth c C h0 h1 h2 H locs ls hW hS hl
  refine W.widen (k := μ.2.2.2.2.1) (n := μ.2.2.2.2.2) (by omega) (by omega) ?_
  refine W.aret C.1 C.2.1 (C.2.2.1.trans hr) (Or.inl ⟨_, rfl⟩) ?_ (fun t ht _ => x_end (v := some (x_rf r)) C hN hW hS h t ht) hS.2.2 hd C.2.2.2.2.2.1
  cases r with
  | none => exact Or.inl rfl
  | some a => exact Or.inr ⟨_, rfl⟩
end XO
end
section
theorem x_inX {t : Nat} {C : String} {T : u_T} {n : Nat} (hc : vwCl[t]? = some (C, T, n)) : ∀ w ∈ u_ws C T n, w ∈ x_tb := by
  have h : ∀ q ∈ vwCl, ∀ w ∈ u_ws q.1 q.2.1 q.2.2, w ∈ x_tb := by
    have k : vwCl.all (fun q => (u_ws q.1 q.2.1 q.2.2).all (fun w => goodWord w && lw_tbl.contains w)) = true := by decide +kernel
    intro q hq w hw
    have h1 := List.all_eq_true.mp (List.all_eq_true.mp k q hq) w hw
    rw [Bool.and_eq_true] at h1
    exact x_tb_in (List.contains_iff_mem.mp h1.2) h1.1
  exact h _ (List.mem_of_getElem? hc)
theorem x_tyX {t : Nat} {C : String} {T : u_T} {n : Nat} (hc : vwCl[t]? = some (C, T, n)) : ∀ k, k < n → parseFieldDescriptor (T k).2.2.1 = some (x_ty t k) := by
  match t, hc with
  | 0, hc => cases hc; exact tyX0_ok
  | 1, hc => cases hc; exact tyX1_ok
  | 2, hc => cases hc; exact tyX2_ok
  | 3, hc => cases hc; exact tyX3_ok
  | 4, hc => cases hc; exact tyX4_ok
  | 5, hc => cases hc; exact tyX5_ok
  | 6, hc => cases hc; exact tyX6_ok
  | 7, hc => cases hc; exact tyX7_ok
  | 8, hc => cases hc; exact tyX8_ok
  | 9, hc => cases hc; exact tyX9_ok
  | 10, hc => cases hc; exact tyX10_ok
  | 11, hc => cases hc; exact tyX11_ok
  | 12, hc => cases hc; exact tyX12_ok
  | t + 13, hc => simp [vwCl] at hc
theorem x_nmX {t : Nat} {C : String} {T : u_T} {n : Nat} (hc : vwCl[t]? = some (C, T, n)) : ∀ a, a < n → ∀ b, b < n → a ≠ b → (T a).2.1 ≠ (T b).2.1 := by
  match t, hc with
  | 0, hc => cases hc; exact nmX0
  | 1, hc => cases hc; exact nmX1
  | 2, hc => cases hc; exact nmX2
  | 3, hc => cases hc; exact nmX3
  | 4, hc => cases hc; exact nmX4
  | 5, hc => cases hc; exact nmX5
  | 6, hc => cases hc; exact nmX6
  | 7, hc => cases hc; exact nmX7
  | 8, hc => cases hc; exact nmX8
  | 9, hc => cases hc; exact nmX9
  | 10, hc => cases hc; exact nmX10
  | 11, hc => cases hc; exact nmX11
  | 12, hc => cases hc; exact nmX12
  | t + 13, hc => simp [vwCl] at hc
theorem x_t13 {t : Nat} {q : vw_C} (hc : vwCl[t]? = some q) : t < 13 := (List.getElem?_eq_some_iff.mp hc).1
end
section
section XMEM
variable {d : Nat} {μ : x_M} {N0 : Nat} {Q : x_S → Option Value → Prop} {N pc : Nat} {L L' : List (Nat × Value)} {st : List Value} {σ : x_S}
/-- a field is read -/
theorem o_get {o t n k i : Nat} {C : String} {T : u_T} {v : Value} (hd : decode μ.2.1 pc = .ok (.getfield i, 3)) (hs : x_sh o = (t, n)) (ho : o < N) (hc : vwCl[t]? = some (C, T, n)) (hk : k < n) (hw : Cond.fieldLink μ.1.cls i (T k).1 (T k).2.1 (T k).2.2.1 ∈ x_tb) (hv : x_av (x_ty t k) σ o k = v) (h : x_Wg d μ N0 Q N (pc + 3) L (v :: st) σ) : x_Wg d μ N0 Q N pc L (.ref o :: st) σ := by
  intro l G p e s m args below meth c X h0 h1 h2 H locs ls hW hS hl
  refine va_get (Ts := x_w μ) (v := x_ad G.2.2.1 v) X.1 X.2.1 X.2.2.2.2.2.2.2.1 (fun w h => List.mem_cons_of_mem _ (x_inX hc w h)) X.2.2.2.2.1 X.2.2.2.2.2.2.2.2.1.1 hW o (by rw [x_ws_at ho, x_el_o hs (x_t13 hc)]) hc k hk (x_word X hw) (fun _ h => h) ?_ hd (h l G p e s m args below meth c X h0 h1 h2 H locs ls hW hS hl)
  rw [List.getElem?_map, List.getElem?_range hk]
  show some (x_ad _ (x_av (x_ty t k) σ o k)) = _
  rw [hv]
theorem x_el_wi {G : x_G} {c k : Nat} {v : Int32} {a : Nat} (h : a ≠ c) : x_el G (x_wi σ c k v) a = x_el G σ a := by
  have h1 : (x_wi σ c k v).1 a = σ.1 a := by funext b; simp [x_wi, h]
  have h2 : ∀ ty b, x_av ty (x_wi σ c k v) a b = x_av ty σ a b := by
    intro ty b
    unfold x_av
    split
    · rw [h1]
    · rfl
    · rfl
  unfold x_el
  simp only [h1, h2]
  rfl
theorem x_el_wl {G : x_G} {c k : Nat} {v : Int64} {a : Nat} (h : a ≠ c) : x_el G (x_wl σ c k v) a = x_el G σ a := by
  have h1 : (x_wl σ c k v).2.1 a = σ.2.1 a := by funext b; simp [x_wl, h]
  have h2 : ∀ ty b, x_av ty (x_wl σ c k v) a b = x_av ty σ a b := by
    intro ty b
    unfold x_av
    split
    · rfl
    · rw [h1]
    · rfl
  unfold x_el
  simp only [h1, h2]
  rfl
theorem x_el_wr {G : x_G} {c k : Nat} {v : Option Nat} {a : Nat} (h : a ≠ c) : x_el G (x_wr σ c k v) a = x_el G σ a := by
  have h1 : (x_wr σ c k v).2.2 a = σ.2.2 a := by funext b; simp [x_wr, h]
  have h2 : ∀ ty b, x_av ty (x_wr σ c k v) a b = x_av ty σ a b := by
    intro ty b
    unfold x_av
    split
    · rfl
    · rfl
    · rw [h1]
  unfold x_el
  simp only [h1, h2]
  rfl
theorem x_fs_set {n k : Nat} {f g : Nat → Value} {v : Value} (hv : g k = v) (h : ∀ j, j ≠ k → g j = f j) : ((List.range n).map f).set k v = (List.range n).map g := by
  apply List.ext_getElem?
  intro j
  rw [List.getElem?_set, List.getElem?_map, List.getElem?_map]
  by_cases hj : k = j
  · subst hj
    rw [if_pos rfl]
    by_cases hn : k < n
    · rw [if_pos (by rw [List.length_map, List.length_range]; exact hn), List.getElem?_range hn, Option.map_some, hv]
    · rw [if_neg (by rw [List.length_map, List.length_range]; exact hn), List.getElem?_eq_none (by rw [List.length_range]; omega)]
      rfl
  · rw [if_neg hj]
    by_cases hn : j < n
    · rw [List.getElem?_range hn, Option.map_some, Option.map_some, h j (fun e => hj e.symm)]
    · rw [List.getElem?_eq_none (by rw [List.length_range]; omega)]
      rfl
/-- a field is written: an int, a reference -/
theorem o_putI {o t n k i : Nat} {C : String} {T : u_T} {v : Int32} (hd : decode μ.2.1 pc = .ok (.putfield i, 3)) (hs : x_sh o = (t, n)) (ho : o < N) (hc : vwCl[t]? = some (C, T, n)) (hk : k < n) (hf : (T k).2.2.2 = false) (ht : x_ty t k = .int) (hw : Cond.fieldLink μ.1.cls i (T k).1 (T k).2.1 (T k).2.2.1 ∈ x_tb) (h : x_Wg d μ N0 Q N (pc + 3) L st (x_wi σ o k v)) : x_Wg d μ N0 Q N pc L (.int v :: .ref o :: st) σ := by
  intro l G p e s m args below meth c X h0 h1 h2 H locs ls hW hS hl
  refine va_put (Ts := x_w μ) (v := .int v) (H0 := s.heap) X.1 X.2.1 X.2.2.2.2.2.2.2.1 (fun w h => List.mem_cons_of_mem _ (x_inX hc w h)) (x_ty t) (x_tyX hc) (x_nmX hc) X.2.2.2.2.1 X.2.2.2.2.2.2.2.2.1.1 hW x_D hS o (by rw [x_ws_at ho, x_el_o hs (x_t13 hc)]) hc k hk (x_word X hw) (fun _ h => h) hf (ty := .int) (by rw [x_tyX hc k hk, ht]) rfl rfl (by rw [List.length_map, List.length_range]; exact hk) hd (fun H1 locs1 hP1 hD1 hS1 => ?_)
  refine h l G p e s m args below meth c X h0 h1 h2 H1 locs1 ls ?_ hS1 hl
  · rw [x_ws_set (σ' := x_wi σ o k v) ho] at hP1
    · exact hP1
    · rw [x_el_o hs (x_t13 hc)]
      congr 2
      symm
      apply x_fs_set
      · rw [ht]; simp [x_av, x_wi, x_ad]
      · intro j hj
        unfold x_av
        split <;> simp [x_wi, hj]
    · intro a ha; exact x_el_wi ha
end XMEM
end
section
section XCALL
variable {d : Nat} {μ : x_M} {N0 : Nat} {Q : x_S → Option Value → Prop} {N pc : Nat} {L L' : List (Nat × Value)} {st st' : List Value} {σ : x_S}
theorem x_ad_rf (z : Nat) (r : Option Nat) : x_ad z (x_rf r) = va_rf (r.map (z + ·)) := by cases r <;> rfl
theorem o_iald {o n : Nat} {i : Int32} (hd : decode μ.2.1 pc = .ok (.iaload, 1)) (hs : x_sh o = (20, n)) (ho : o < N) (hi : vp_in i n) (h : x_Wg d μ N0 Q N (pc + 1) L (.int (σ.1 o i.toNatClampNeg) :: st) σ) : x_Wg d μ N0 Q N pc L (.int i :: .ref o :: st) σ := by
  intro l G p e s m args below meth c X h0 h1 h2 H locs ls hW hS hl
  exact va_iald X.1 X.2.1 X.2.2.2.2.2.2.2.2.1.1 hW o 0 (by rw [x_ws_at ho, x_el_i hs]) rfl hi hd (h l G p e s m args below meth c X h0 h1 h2 H locs ls hW hS hl)
theorem o_bald {o n : Nat} {i : Int32} (hd : decode μ.2.1 pc = .ok (.baload, 1)) (hs : x_sh o = (21, n)) (ho : o < N) (hi : vp_in i n) (h : x_Wg d μ N0 Q N (pc + 1) L (.int (σ.1 o i.toNatClampNeg) :: st) σ) : x_Wg d μ N0 Q N pc L (.int i :: .ref o :: st) σ := by
  intro l G p e s m args below meth c X h0 h1 h2 H locs ls hW hS hl
  exact va_bald X.1 X.2.1 X.2.2.2.2.2.2.2.2.1.1 hW o 1 (by rw [x_ws_at ho, x_el_b hs]) rfl hi hd (h l G p e s m args below meth c X h0 h1 h2 H locs ls hW hS hl)
theorem o_lald {o n : Nat} {i : Int32} (hd : decode μ.2.1 pc = .ok (.laload, 1)) (hs : x_sh o = (22, n)) (ho : o < N) (hi : vp_in i n) (h : x_Wg d μ N0 Q N (pc + 1) L (.long (σ.2.1 o i.toNatClampNeg) :: st) σ) : x_Wg d μ N0 Q N pc L (.int i :: .ref o :: st) σ := by
  intro l G p e s m args below meth c X h0 h1 h2 H locs ls hW hS hl
  exact va_lald X.1 X.2.1 X.2.2.2.2.2.2.2.2.1.1 hW o 2 (by rw [x_ws_at ho, x_el_l hs]) rfl hi hd (h l G p e s m args below meth c X h0 h1 h2 H locs ls hW hS hl)
theorem o_aaldT {o n : Nat} {i : Int32} (hd : decode μ.2.1 pc = .ok (.aaload, 1)) (hs : x_sh o = (23, n)) (ho : o < N) (hi : vp_in i n) (h : x_Wg d μ N0 Q N (pc + 1) L (x_rf (σ.2.2 o i.toNatClampNeg) :: st) σ) : x_Wg d μ N0 Q N pc L (.int i :: .ref o :: st) σ := by
  intro l G p e s m args below meth c X h0 h1 h2 H locs ls hW hS hl
  have k := h l G p e s m args below meth c X h0 h1 h2 H locs ls hW hS hl
  rw [List.map_cons, x_ad_rf] at k
  exact va_aldq X.1 X.2.1 X.2.2.2.2.2.2.2.2.1.1 hW o 3 (by rw [x_ws_at ho, x_el_t hs]) rfl hi hd k
theorem o_aaldD {o n : Nat} {i : Int32} (hd : decode μ.2.1 pc = .ok (.aaload, 1)) (hs : x_sh o = (24, n)) (ho : o < N) (hi : vp_in i n) (h : x_Wg d μ N0 Q N (pc + 1) L (x_rf (σ.2.2 o i.toNatClampNeg) :: st) σ) : x_Wg d μ N0 Q N pc L (.int i :: .ref o :: st) σ := by
  intro l G p e s m args below meth c X h0 h1 h2 H locs ls hW hS hl
  have k := h l G p e s m args below meth c X h0 h1 h2 H locs ls hW hS hl
  rw [List.map_cons, x_ad_rf] at k
  exact va_aldq X.1 X.2.1 X.2.2.2.2.2.2.2.2.1.1 hW o 4 (by rw [x_ws_at ho, x_el_d hs]) rfl hi hd k
theorem o_iast {o n : Nat} {i x : Int32} (hd : decode μ.2.1 pc = .ok (.iastore, 1)) (hs : x_sh o = (20, n)) (ho : o < N) (hi : vp_in i n) (h : x_Wg d μ N0 Q N (pc + 1) L st (x_wi σ o i.toNatClampNeg x)) : x_Wg d μ N0 Q N pc L (.int x :: .int i :: .ref o :: st) σ := by
  intro l G p e s m args below meth c X h0 h1 h2 H locs ls hW hS hl
  refine va_iast (H0 := s.heap) X.1 X.2.1 X.2.2.2.2.2.2.2.2.1.1 hW x_D hS o 0 (by rw [x_ws_at ho, x_el_i hs]) rfl hi hd (fun H1 locs1 hP1 hD1 hS1 => ?_)
  refine h l G p e s m args below meth c X h0 h1 h2 H1 locs1 ls ?_ hS1 hl
  rw [x_ws_set (σ' := x_wi σ o i.toNatClampNeg x) ho] at hP1
  · exact hP1
  · rw [x_el_i hs]
    congr 4
    funext b
    simp [x_wi, upd]
  · intro a ha; exact x_el_wi ha
theorem o_bast {o n : Nat} {i x : Int32} (hd : decode μ.2.1 pc = .ok (.bastore, 1)) (hs : x_sh o = (21, n)) (ho : o < N) (hi : vp_in i n) (h : x_Wg d μ N0 Q N (pc + 1) L st (x_wi σ o i.toNatClampNeg (vp_nar .byte x))) : x_Wg d μ N0 Q N pc L (.int x :: .int i :: .ref o :: st) σ := by
  intro l G p e s m args below meth c X h0 h1 h2 H locs ls hW hS hl
  refine va_bast (H0 := s.heap) X.1 X.2.1 X.2.2.2.2.2.2.2.2.1.1 hW x_D hS o 1 (by rw [x_ws_at ho, x_el_b hs]) rfl hi hd (fun H1 locs1 hP1 hD1 hS1 => ?_)
  refine h l G p e s m args below meth c X h0 h1 h2 H1 locs1 ls ?_ hS1 hl
  rw [x_ws_set (σ' := x_wi σ o i.toNatClampNeg (vp_nar .byte x)) ho] at hP1
  · exact hP1
  · rw [x_el_b hs]
    congr 4
    funext b
    simp [x_wi, upd]
  · intro a ha; exact x_el_wi ha
theorem o_last {o n : Nat} {i : Int32} {x : Int64} (hd : decode μ.2.1 pc = .ok (.lastore, 1)) (hs : x_sh o = (22, n)) (ho : o < N) (hi : vp_in i n) (h : x_Wg d μ N0 Q N (pc + 1) L st (x_wl σ o i.toNatClampNeg x)) : x_Wg d μ N0 Q N pc L (.long x :: .int i :: .ref o :: st) σ := by
  intro l G p e s m args below meth c X h0 h1 h2 H locs ls hW hS hl
  refine va_last (H0 := s.heap) X.1 X.2.1 X.2.2.2.2.2.2.2.2.1.1 hW x_D hS o 2 (by rw [x_ws_at ho, x_el_l hs]) rfl hi hd (fun H1 locs1 hP1 hD1 hS1 => ?_)
  refine h l G p e s m args below meth c X h0 h1 h2 H1 locs1 ls ?_ hS1 hl
  rw [x_ws_set (σ' := x_wl σ o i.toNatClampNeg x) ho] at hP1
  · exact hP1
  · rw [x_el_l hs]
    congr 5
    funext b
    simp [x_wl, vp_updL]
  · intro a ha; exact x_el_wl ha
theorem o_alen {o t n : Nat} {v : Int32} (hd : decode μ.2.1 pc = .ok (.arraylength, 1)) (hs : x_sh o = (t, n)) (ht : 20 ≤ t ∧ t ≤ 24) (ho : o < N) (hv : Int32.ofNat n = v) (h : x_Wg d μ N0 Q N (pc + 1) L (.int v :: st) σ) : x_Wg d μ N0 Q N pc L (.ref o :: st) σ := by
  intro l G p e s m args below meth c X h0 h1 h2 H locs ls hW hS hl
  have k := h l G p e s m args below meth c X h0 h1 h2 H locs ls hW hS hl
  rcases (show t = 20 ∨ t = 21 ∨ t = 22 ∨ t = 23 ∨ t = 24 by omega) with rfl | rfl | rfl | rfl | rfl
  · exact va_alen X.1 X.2.1 X.2.2.2.2.2.2.2.2.1.1 hW o 0 (by rw [x_ws_at ho, x_el_i hs]) rfl hv hd k
  · exact va_alen X.1 X.2.1 X.2.2.2.2.2.2.2.2.1.1 hW o 1 (by rw [x_ws_at ho, x_el_b hs]) rfl hv hd k
  · exact va_alen X.1 X.2.1 X.2.2.2.2.2.2.2.2.1.1 hW o 2 (by rw [x_ws_at ho, x_el_l hs]) rfl hv hd k
  · exact va_alen X.1 X.2.1 X.2.2.2.2.2.2.2.2.1.1 hW o 3 (by rw [x_ws_at ho, x_el_t hs]) rfl hv hd k
  · exact va_alen X.1 X.2.1 X.2.2.2.2.2.2.2.2.1.1 hW o 4 (by rw [x_ws_at ho, x_el_d hs]) rfl hv hd k
/-- a reference is written to a field that isn't final -/
theorem o_putR {o t n k i : Nat} {C C1 : String} {T : u_T} {r : Option Nat} (hd : decode μ.2.1 pc = .ok (.putfield i, 3)) (hs : x_sh o = (t, n)) (ho : o < N) (hc : vwCl[t]? = some (C, T, n)) (hk : k < n) (hf : (T k).2.2.2 = false) (ht : x_ty t k = .object C1) (hw : Cond.fieldLink μ.1.cls i (T k).1 (T k).2.1 (T k).2.2.1 ∈ x_tb) (h : x_Wg d μ N0 Q N (pc + 3) L st (x_wr σ o k r)) : x_Wg d μ N0 Q N pc L (x_rf r :: .ref o :: st) σ := by
  intro l G p e s m args below meth c X h0 h1 h2 H locs ls hW hS hl
  have hv : narrow (.object C1) (x_ad G.2.2.1 (x_rf r)) = x_ad G.2.2.1 (x_rf r) ∧ fits (.object C1) (x_ad G.2.2.1 (x_rf r)) = true := by cases r <;> exact ⟨rfl, rfl⟩
  refine va_put (Ts := x_w μ) (v := x_ad G.2.2.1 (x_rf r)) (H0 := s.heap) X.1 X.2.1 X.2.2.2.2.2.2.2.1 (fun w h => List.mem_cons_of_mem _ (x_inX hc w h)) (x_ty t) (x_tyX hc) (x_nmX hc) X.2.2.2.2.1 X.2.2.2.2.2.2.2.2.1.1 hW x_D hS o (by rw [x_ws_at ho, x_el_o hs (x_t13 hc)]) hc k hk (x_word X hw) (fun _ h => h) hf (ty := .object C1) (by rw [x_tyX hc k hk, ht]) hv.1 hv.2 (by rw [List.length_map, List.length_range]; exact hk) hd (fun H1 locs1 hP1 hD1 hS1 => ?_)
  refine h l G p e s m args below meth c X h0 h1 h2 H1 locs1 ls ?_ hS1 hl
  rw [x_ws_set (σ' := x_wr σ o k r) ho] at hP1
  · exact hP1
  · rw [x_el_o hs (x_t13 hc)]
    congr 2
    symm
    apply x_fs_set
    · rw [ht]; simp [x_av, x_wr]
    · intro j hj
      unfold x_av
      split <;> simp [x_wr, hj]
  · intro a ha; exact x_el_wr ha
/-- behind a call -/
theorem x_run {p : Program} {l : Launch} {e : Env} {R : Room} {s : State} {m : MethodId} {args : Array Value} {below : List Frame} {meth : Method} {c : Code} {H : Heap} {locs : List Loc} {cells slots mc ms : Nat} {Q0 : State → Prop} {G : x_G} {ls : Array Slot} {st0 rest : List Value} {K : x_S → Option Value → Prop} {μ' : x_M} {N : Nat} {a : Array Value}
    (hr : va_Run p l e R s m args below meth c H locs cells slots mc ms (F0 m pc ls st0) rest (x_Qc G N μ' K a) (x_A G)) (hS : va_S (x_A G) s.heap H locs)
    (kk : ∀ (v : Option Value) (σ' : x_S) (H1 : Heap) (locs1 : List Loc), K σ' v → x_W G (N + μ'.2.2.2.2.1) σ' H1 → va_S (x_A G) s.heap H1 locs1 → W p l e R s m args below meth c H1 locs1 (cells + mc) (slots + ms) Q0 (F0 m (pc + 3) ls ((v.map (x_ad G.2.2.1)).toList ++ rest))) : W p l e R s m args below meth c H locs cells slots Q0 (F0 m pc ls st0) := by
  intro T hT X
  obtain ⟨v, st₀, t, T', L, g0, X', hL, e1, e2, ⟨⟨v', σ', ho, hK, hw⟩, hF⟩, go⟩ := hr T hT X
  have hv : v = v'.map (x_ad G.2.2.1) := Outcome.returned.inj ho
  subst hv
  have hS' : va_S (x_A G) s.heap t.heap (locs ++ L) := by
    rw [va_F, g0] at hF
    refine ⟨Nat.le_trans hS.1 hF.1, fun q h1 h2 => ?_, fun q hq => ?_⟩
    · rw [hF.2 q (Nat.lt_of_lt_of_le h1 hS.1) h2]
      exact hS.2.1 q h1 h2
    · rcases List.mem_append.mp hq with h | h
      · exact hS.2.2 q h
      · exact hL q h
  obtain ⟨t2, a1, b1⟩ := kk v' σ' t.heap (locs ++ L) hK hw hS' T' e1 X'
  exact ⟨t2, go t2 a1, b1⟩
theorem x_good {μ' : x_M} (h : Cond.code μ'.1 μ'.2.1 μ'.2.2.1 μ'.2.2.2.1 ∈ x_tb) : GoodIn (x_w μ) (x_w μ') := by
  intro w hw
  have h1 : w ∈ x_tb := by
    rcases List.mem_cons.mp hw with q | q
    · rw [q]; exact h
    · exact q
  exact ⟨List.mem_cons_of_mem _ h1, good_of_word (List.mem_filter.mp h1).2⟩
theorem x_goodL {ws : List Cond} (h : ∀ w ∈ ws, w ∈ x_tb) : GoodIn (x_w μ) ws := fun w hw => ⟨List.mem_cons_of_mem _ (h w hw), good_of_word (List.mem_filter.mp (h w hw)).2⟩
def x_cok (μ' : x_M) (n : Nat) : Prop := Cond.initialized μ'.1.cls ∈ x_tb ∧ Cond.code μ'.1 μ'.2.1 μ'.2.2.1 μ'.2.2.2.1 ∈ x_tb ∧ (μ'.1.cls ≠ "java/lang/invoke/MethodHandle" ∧ μ'.1.cls ≠ "java/lang/invoke/VarHandle" ∧ (parseMethodDescriptor μ'.1.desc).map (fun d => d.parameters.length) = some n) ∧ μ'.2.2.1 ≤ 21
def x_vok (μ' : x_M) (n : Nat) : Prop := x_cok μ' n ∧ Cond.instanceMethod μ'.1 ∈ x_tb ∧ Cond.selects μ'.1.cls μ'.1 μ'.1 ∈ x_tb ∧ μ'.2.2.2.2 = (0, 0)
theorem x_blind {vs : List Value} {G : x_G} {N : Nat} {σ : x_S} : FrameBlind (va_Pc vs (fun U => U.heap.size = G.2.2.1 + N ∧ x_W G N σ U.heap ∧ x_K G U)) := by
  intro a U g mk q
  obtain ⟨q0, q1, q2, q3, q4⟩ := q
  exact ⟨q0, q1, q2, va_K.moved (u := U) (U := U.calling g mk a) (Vm.Alike.refl U.vm) q3, x_Z.same rfl rfl q4⟩
theorem x_enter {l : Launch} {G : x_G} {p : Program} {e : Env} {s : State} {m : MethodId} {args : Array Value} {meth : Method} {c : Code} {H : Heap} {locs : List Loc} (X : x_Cx l G p e s m args meth c μ N0) (hsz : H.size = G.2.2.1 + N) (hW : x_W G N σ H) (hS : va_S (x_A G) s.heap H locs) {U : State} (hU : U.heap = H) (hV : s.WarmedH U.vm) : U.heap.size = G.2.2.1 + N ∧ x_W G N σ U.heap ∧ x_K G U := by
  refine ⟨by rw [hU]; exact hsz, by rw [hU]; exact hW, va_K.moved hV.alike X.2.2.2.2.2.2.2.2.1.1, x_Z.warm hV (by rw [hU]; exact hS.1) (fun a h1 h2 => ?_) X.2.2.2.2.2.2.2.2.1.2⟩
  rw [hU]
  exact hS.2.1 a h1 h2
theorem x_cats {z : Nat} {st : List Value} : ((st.map (x_ad z)).map fun v => v.category) = st.map fun v => v.category := by
  rw [List.map_map]
  apply List.map_congr_left
  intro v _
  exact x_ad_cat z v
theorem x_toL {z : Nat} {v : Option Value} {st : List Value} : (v.map (x_ad z)).toList ++ st.map (x_ad z) = (v.toList ++ st).map (x_ad z) := by
  cases v <;> simp
set_option maxHeartbeats 4000000 in
theorem o_callV {μ' : x_M} {o t n' n i : Nat} {q : vw_C} {vs : List Value} (hd : decode μ.2.1 pc = .ok (.invokevirtual i, 3)) (hl' : Cond.methodLink μ.1.cls i μ'.1 ∈ x_tb) (hk : x_vok μ' n) (hs : x_sh o = (t, n')) (ho : o < N) (hc : vwCl[t]? = some q) (hC : μ'.1.cls = q.1) (hst : st' = vs.reverse ++ .ref o :: st) (hn : vs.length = n) (hcat : (st.map fun v => v.category).sum ≤ 8)
    (h : x_Mt d μ' N (.ref o :: vs) σ (fun σ' v => x_Wg (d + 1) μ N0 Q N (pc + 3) L (v.toList ++ st) σ')) : x_Wg (d + 1) μ N0 Q N pc L st' σ := by
  intro l G p e s m args below meth c X h0 h1 h2 H locs ls hW hS hl T hT Y
  have hsz := x_size X Y hT h0 hW hS
  obtain ⟨⟨ki, kc, kd, km⟩, kin, ksel, k0⟩ := hk
  have e1 : μ'.2.2.2.2.1 = 0 := by rw [k0]
  have e2 : μ'.2.2.2.2.2 = 0 := by rw [k0]
  have hrun := va_runV (H := H) (locs := locs) (cells := N - N0) (slots := x_sl N - x_sl N0) (R := x_rm (d + 1) μ) (below := below) (meth := meth) (b := G.2.2.1 + o) (As := vs.map (x_ad G.2.2.1)) (rest := st.map (x_ad G.2.2.1)) (g := F0 m pc ls (st'.map (x_ad G.2.2.1))) (C := q.1) (index := i) (n := n) (nL := μ.2.2.1) (e := e) (own := μ.1.cls) ⟨X.1, X.2.1, X.2.2.2.1, X.2.2.2.2.1, X.2.2.2.2.2.2.2.1⟩ (h l G)
    (cwV n X.2.2.2.2.2.2.2.1 (by
      intro w hw
      unfold wsV at hw
      rcases List.mem_append.mp hw with hw | hw
      · refine x_goodL (ws := [.methodLink μ.1.cls i μ'.1, .instanceMethod μ'.1, .selects q.1 μ'.1 μ'.1, .initialized q.1]) (fun w hw => ?_) w hw
        rw [← hC] at hw
        simp only [List.mem_cons, List.not_mem_nil, or_false] at hw
        rcases hw with rfl | rfl | rfl | rfl
        · exact hl'
        · exact kin
        · exact ksel
        · exact ki
      · exact x_good kc w hw) rfl rfl rfl ⟨hC, kd⟩ ⟨by show d + 1 ≤ d + 1; omega, by show 8 + (μ'.2.2.1 + 11) + 40 * d ≤ 40 * (d + 1); omega⟩)
    ⟨x_blind, va_recv X.2.2.2.2.2.2.2.2.1.1 hW hc (by rw [x_ws_at ho, x_el_o hs (x_t13 hc)]), fun U hU hV => ⟨rfl, x_enter X hsz hW hS hU hV⟩⟩
    rfl (by rw [List.length_map]; exact hn) hl.1 (by rw [hst]; simp [x_ad]) (lv_room (by rw [x_cats]; exact hcat)) hd ⟨by show N - N0 + _ ≤ μ.2.2.2.2.1; omega, by show x_sl N - x_sl N0 + _ ≤ μ.2.2.2.2.2; omega⟩
  refine x_run hrun hS (fun v σ' H1 locs1 hK hW1 hS1 => ?_) T hT Y
  rw [e1] at hW1
  rw [e1, e2, x_toL]
  exact hK l G p e s m args below meth c X h0 h1 h2 H1 locs1 ls hW1 hS1 hl
set_option maxHeartbeats 4000000 in
theorem o_callS {μ' : x_M} {n i : Nat} {vs : List Value} (hd : decode μ.2.1 pc = .ok (.invokestatic i, 3)) (hl' : Cond.methodLink μ.1.cls i μ'.1 ∈ x_tb) (hk : x_cok μ' n) (hk0 : μ'.2.2.2.2 = (0, 0)) (hst' : Cond.static μ'.1 ∈ x_tb) (hst : st' = vs.reverse ++ st) (hn : vs.length = n) (hcat : (st.map fun v => v.category).sum ≤ 8)
    (h : x_Mt d μ' N vs σ (fun σ' v => x_Wg (d + 1) μ N0 Q N (pc + 3) L (v.toList ++ st) σ')) : x_Wg (d + 1) μ N0 Q N pc L st' σ := by
  intro l G p e s m args below meth c X h0 h1 h2 H locs ls hW hS hl T hT Y
  have hsz := x_size X Y hT h0 hW hS
  obtain ⟨ki, kc, kd, km⟩ := hk
  have e1 : μ'.2.2.2.2.1 = 0 := by rw [hk0]
  have e2 : μ'.2.2.2.2.2 = 0 := by rw [hk0]
  have hrun := va_runS (H := H) (locs := locs) (cells := N - N0) (slots := x_sl N - x_sl N0) (R := x_rm (d + 1) μ) (below := below) (meth := meth) (As := vs.map (x_ad G.2.2.1)) (rest := st.map (x_ad G.2.2.1)) (g := F0 m pc ls (st'.map (x_ad G.2.2.1))) (index := i) (n := n) (nL := μ.2.2.1) (e := e) (own := μ.1.cls) ⟨X.1, X.2.1, X.2.2.2.1, X.2.2.2.2.1, X.2.2.2.2.2.2.2.1⟩ (h l G)
    ⟨callB_of n X.2.2.2.2.2.2.2.1 (x_good kc) rfl rfl rfl (x_word X ki) (x_word X hl') kd ⟨by show d + 1 ≤ d + 1; omega, by show 8 + (μ'.2.2.1 + 11) + 40 * d ≤ 40 * (d + 1); omega⟩, x_word X hst'⟩
    ⟨x_blind, fun U hU hV => ⟨rfl, x_enter X hsz hW hS hU hV⟩⟩
    rfl (by rw [List.length_map]; exact hn) hl.1 (by rw [hst]; simp [x_ad]) (lv_room (by rw [x_cats]; exact hcat)) hd ⟨by show N - N0 + _ ≤ μ.2.2.2.2.1; omega, by show x_sl N - x_sl N0 + _ ≤ μ.2.2.2.2.2; omega⟩
  refine x_run hrun hS (fun v σ' H1 locs1 hK hW1 hS1 => ?_) T hT Y
  rw [e1] at hW1
  rw [e1, e2, x_toL]
  exact hK l G p e s m args below meth c X h0 h1 h2 H1 locs1 ls hW1 hS1 hl
set_option maxHeartbeats 4000000 in
theorem o_callSN {μ' : x_M} {n i : Nat} {hn0 : String} {vs : List Value} (hd : decode μ.2.1 pc = .ok (.invokestatic i, 3)) (hl' : (μ.1.cls, i, μ'.1, hn0) ∈ x_nm) (hk : x_cok μ' n) (hk0 : μ'.2.2.2.2 = (0, 0)) (hst' : Cond.static μ'.1 ∈ x_tb) (hst : st' = vs.reverse ++ st) (hn : vs.length = n) (hcat : (st.map fun v => v.category).sum ≤ 8)
    (h : x_Mt d μ' N vs σ (fun σ' v => x_Wg (d + 1) μ N0 Q N (pc + 3) L (v.toList ++ st) σ')) : x_Wg (d + 1) μ N0 Q N pc L st' σ := by
  intro l G p e s m args below meth c X h0 h1 h2 H locs ls hW hS hl T hT Y
  have hsz := x_size X Y hT h0 hW hS
  obtain ⟨ki, kc, kd, km⟩ := hk
  have e1 : μ'.2.2.2.2.1 = 0 := by rw [hk0]
  have e2 : μ'.2.2.2.2.2 = 0 := by rw [hk0]
  have hrun := va_runSN (H := H) (locs := locs) (cells := N - N0) (slots := x_sl N - x_sl N0) (R := x_rm (d + 1) μ) (below := below) (meth := meth) (As := vs.map (x_ad G.2.2.1)) (rest := st.map (x_ad G.2.2.1)) (g := F0 m pc ls (st'.map (x_ad G.2.2.1))) (index := i) (n := n) (nL := μ.2.2.1) (e := e) (own := μ.1.cls) (host := hn0) ⟨X.1, X.2.1, X.2.2.2.1, X.2.2.2.2.1, X.2.2.2.2.2.2.2.1⟩ (h l G)
    ⟨va_cnB n X.2.2.2.2.2.2.2.1 (x_good kc) rfl rfl rfl (X.2.2.2.2.2.2.2.2.1.2.2.2.2.2.2.2.1 _ hl') (x_word X ki) kd ⟨by show d + 1 ≤ d + 1; omega, by show 8 + (μ'.2.2.1 + 11) + 40 * d ≤ 40 * (d + 1); omega⟩, x_word X hst', trivial⟩
    ⟨x_blind, fun U hU hV => ⟨rfl, x_enter X hsz hW hS hU hV⟩⟩
    rfl (by rw [List.length_map]; exact hn) hl.1 (by rw [hst]; simp [x_ad]) (lv_room (by rw [x_cats]; exact hcat)) hd ⟨by show N - N0 + _ ≤ μ.2.2.2.2.1; omega, by show x_sl N - x_sl N0 + _ ≤ μ.2.2.2.2.2; omega⟩
  refine x_run hrun hS (fun v σ' H1 locs1 hK hW1 hS1 => ?_) T hT Y
  rw [e1] at hW1
  rw [e1, e2, x_toL]
  exact hK l G p e s m args below meth c X h0 h1 h2 H1 locs1 ls hW1 hS1 hl
theorem x_argsm (z : Nat) (vs : List Value) : ∀ k, lv_args k (vs.map (x_ad z)) = (lv_args k vs).map fun q => (q.1, x_ad z q.2) := by
  induction vs with
  | nil => intro k; rfl
  | cons v vs ih =>
    intro k
    simp only [List.map_cons, lv_args, x_ad_cat, ih]
theorem x_slm (z : Nat) (vs : List Value) : (lg_sl (vs.map (x_ad z))).length = (lg_sl vs).length := by
  induction vs with
  | nil => rfl
  | cons v vs ih =>
    unfold lg_sl at ih ⊢
    simp only [List.map_cons, List.flatMap_cons, List.length_append, x_ad_cat, ih]
    split <;> rfl
/-- A METHOD'S CONTRACT out of its walk -/
theorem x_of {vs : List Value} (hy : plainName μ.1.cls = true) (hlen : (lg_sl vs).length ≤ μ.2.2.1) (h : x_Wg d μ N Q N 0 (lv_args 0 vs) [] σ) : x_Mt d μ N vs σ Q := by
  intro l G
  refine Met.ofW (cc := μ.2.1) (maxL := μ.2.2.1) (ret := μ.2.2.2.1) hy rfl ?_
  intro p e s m args below meth c s₁ B hml hv
  obtain ⟨rfl, hsz, hW, hK⟩ := hv
  have hts := atoms_spec (ws := x_w μ) B.pre
  have hown : s.vm.findClass μ.1.cls = some m.cls := findClass_of_methodNamed B.named
  have hl := lv_entry (vs.map (x_ad G.2.2.1)) (n := μ.2.2.1) (by rw [x_slm]; exact hlen)
  rw [lg_entry_eq]
  generalize (lg_sl (vs.map (x_ad G.2.2.1)) ++ List.replicate (μ.2.2.1 - (lg_sl (vs.map (x_ad G.2.2.1))).length) Slot.unset).toArray = ls at hl ⊢
  rw [x_argsm] at hl
  have k := h l G p e s m (vs.map (x_ad G.2.2.1)).toArray below meth c ⟨B.exec, B.bytes, B.returns, hml, hown, B.notSynchronized, (name_of_methodNamed B.named B.method).1, hts, hK, hsz⟩ (Nat.le_refl _) (Nat.le_add_right _ _) (Nat.le_add_right _ _) s.heap [] ls hW va_S.rf hl
  rw [Nat.sub_self, Nat.sub_self] at k
  exact k
end XCALL
end
section
section XLIB
variable {d : Nat} {μ : x_M} {N0 : Nat} {Q : x_S → Option Value → Prop} {N pc : Nat} {L L' : List (Nat × Value)} {st st' : List Value} {σ : x_S}
theorem o_mmax {i : Nat} {x y : Int32} (hd : decode μ.2.1 pc = .ok (.invokestatic i, 3)) (hl' : Cond.methodLink μ.1.cls i Lib.Math.max.name ∈ x_tb) (hq : Cond.static Lib.Math.max.name ∈ x_tb ∧ Cond.initialized "java/lang/Math" ∈ x_tb ∧ Cond.code Lib.Math.max.name Lib.Math.max.code 2 (some .int) ∈ x_tb) (hcat : (st.map fun v => v.category).sum ≤ 8) (h : x_Wg (d + 1) μ N0 Q N (pc + 3) L (.int (if x < y then y else x) :: st) σ) : x_Wg (d + 1) μ N0 Q N pc L (.int y :: .int x :: st) σ := by
  intro l G p e s m args below meth c X h0 h1 h2 H locs ls hW hS hl
  exact va_mmax X.1 X.2.1 (X.2.2.2.1.trans hl.1.symm) X.2.2.2.2.1 (x_word X hl') (x_word X hq.1) (x_word X hq.2.1) (x_word X hq.2.2) (by show 1 ≤ d + 1; omega) (by rw [x_cats]; show _ ≤ 40 * (d + 1); omega) (by show N - N0 ≤ μ.2.2.2.2.1; omega) (by show x_sl N - x_sl N0 ≤ μ.2.2.2.2.2; omega) hd (h l G p e s m args below meth c X h0 h1 h2 H locs ls hW hS hl)
theorem o_mmin {i : Nat} {x y : Int32} (hd : decode μ.2.1 pc = .ok (.invokestatic i, 3)) (hl' : Cond.methodLink μ.1.cls i Lib.Math.min.name ∈ x_tb) (hq : Cond.static Lib.Math.min.name ∈ x_tb ∧ Cond.initialized "java/lang/Math" ∈ x_tb ∧ Cond.code Lib.Math.min.name Lib.Math.min.code 2 (some .int) ∈ x_tb) (hcat : (st.map fun v => v.category).sum ≤ 8) (h : x_Wg (d + 1) μ N0 Q N (pc + 3) L (.int (if y < x then y else x) :: st) σ) : x_Wg (d + 1) μ N0 Q N pc L (.int y :: .int x :: st) σ := by
  intro l G p e s m args below meth c X h0 h1 h2 H locs ls hW hS hl
  exact va_mmin X.1 X.2.1 (X.2.2.2.1.trans hl.1.symm) X.2.2.2.2.1 (x_word X hl') (x_word X hq.1) (x_word X hq.2.1) (x_word X hq.2.2) (by show 1 ≤ d + 1; omega) (by rw [x_cats]; show _ ≤ 40 * (d + 1); omega) (by show N - N0 ≤ μ.2.2.2.2.1; omega) (by show x_sl N - x_sl N0 ≤ μ.2.2.2.2.2; omega) hd (h l G p e s m args below meth c X h0 h1 h2 H locs ls hW hS hl)
theorem o_mabs {i : Nat} {x : Int32} (hd : decode μ.2.1 pc = .ok (.invokestatic i, 3)) (hl' : Cond.methodLink μ.1.cls i Lib.Math.abs.name ∈ x_tb) (hq : Cond.static Lib.Math.abs.name ∈ x_tb ∧ Cond.initialized "java/lang/Math" ∈ x_tb ∧ Cond.code Lib.Math.abs.name Lib.Math.abs.code 1 (some .int) ∈ x_tb) (hcat : (st.map fun v => v.category).sum ≤ 8) (h : x_Wg (d + 1) μ N0 Q N (pc + 3) L (.int (if 0 ≤ x then x else 0 - x) :: st) σ) : x_Wg (d + 1) μ N0 Q N pc L (.int x :: st) σ := by
  intro l G p e s m args below meth c X h0 h1 h2 H locs ls hW hS hl
  exact va_mabs X.1 X.2.1 (X.2.2.2.1.trans hl.1.symm) X.2.2.2.2.1 (x_word X hl') (x_word X hq.1) (x_word X hq.2.1) (x_word X hq.2.2) (by show 1 ≤ d + 1; omega) (by rw [x_cats]; show _ ≤ 40 * (d + 1); omega) (by show N - N0 ≤ μ.2.2.2.2.1; omega) (by show x_sl N - x_sl N0 ≤ μ.2.2.2.2.2; omega) hd (h l G p e s m args below meth c X h0 h1 h2 H locs ls hW hS hl)
def x_cpy (σ : x_S) (o0 sp o1 dp n : Nat) : x_S := (fun a b => if a = o1 ∧ dp ≤ b ∧ b < dp + n then σ.1 o0 (sp + (b - dp)) else σ.1 a b, σ.2)
theorem x_el_cpy {G : x_G} {o0 sp o1 dp n a : Nat} (h : a ≠ o1) : x_el G (x_cpy σ o0 sp o1 dp n) a = x_el G σ a := by
  have h1 : (x_cpy σ o0 sp o1 dp n).1 a = σ.1 a := by funext b; simp [x_cpy, h]
  have h2 : ∀ ty b, x_av ty (x_cpy σ o0 sp o1 dp n) a b = x_av ty σ a b := by
    intro ty b
    unfold x_av
    split
    · rw [h1]
    · rfl
    · rfl
  unfold x_el
  simp only [h1, h2]
  rfl
theorem o_copy {i o0 o1 n0 n1 : Nat} {sp dp n : Int32} (hd : decode μ.2.1 pc = .ok (.invokestatic i, 3)) (hl' : Cond.methodLink μ.1.cls i arraycopyName ∈ x_tb) (hq : Cond.native arraycopyName ∈ x_tb ∧ Cond.static arraycopyName ∈ x_tb ∧ Cond.initialized "java/lang/System" ∈ x_tb) (hs0 : x_sh o0 = (20, n0)) (ho0 : o0 < N) (hs1 : x_sh o1 = (20, n1)) (ho1 : o1 < N) (a1 : ¬ sp < 0) (a2 : ¬ dp < 0) (a3 : ¬ n < 0) (a4 : sp.toNatClampNeg + n.toNatClampNeg ≤ n0) (a5 : dp.toNatClampNeg + n.toNatClampNeg ≤ n1) (hcat : (st.map fun v => v.category).sum ≤ 8)
    (h : x_Wg (d + 1) μ N0 Q N (pc + 3) L st (x_cpy σ o0 sp.toNatClampNeg o1 dp.toNatClampNeg n.toNatClampNeg)) : x_Wg (d + 1) μ N0 Q N pc L (.int n :: .int dp :: .ref o1 :: .int sp :: .ref o0 :: st) σ := by
  intro l G p e s m args below meth c X h0 h1 h2 H locs ls hW hS hl
  have hnf : nativeFrameWords "java/lang/System" "arraycopy" 5 + 11 ≤ 32 := by decide +kernel
  have hlo : ((st.map (x_ad G.2.2.1)).map fun v => v.category).sum + (nativeFrameWords "java/lang/System" "arraycopy" 5 + 11) ≤ (x_rm (d + 1) μ).locals := by
    rw [x_cats]
    show _ ≤ 40 * (d + 1)
    omega
  refine va_copyi (R := x_rm (d + 1) μ) (H0 := s.heap) (ty := .int) X.1 X.2.1 (X.2.2.2.1.trans hl.1.symm) X.2.2.2.2.1 (x_word X hl') (x_word X hq.1) (x_word X hq.2.1) (x_word X hq.2.2) X.2.2.2.2.2.2.2.2.1.1 hW x_D hS o0 o1 0 0 (by rw [x_ws_at ho0, x_el_i hs0]) (by rw [x_ws_at ho1, x_el_i hs1]) rfl rfl rfl a1 a2 a3 a4 a5 (fun _ _ => rfl) (by show 1 ≤ d + 1; omega) hlo hd (fun H1 locs1 hP1 hD1 hS1 => ?_)
  refine h l G p e s m args below meth c X h0 h1 h2 H1 locs1 ls ?_ hS1 hl
  rw [x_ws_set (σ' := x_cpy σ o0 sp.toNatClampNeg o1 dp.toNatClampNeg n.toNatClampNeg) ho1] at hP1
  · exact hP1
  · rw [x_el_i hs1]
    congr 4
    funext b
    simp [x_cpy, va_cpy]
  · intro a ha; exact x_el_cpy ha
end XLIB
/-! The state when all cells are there: numbers, long numbers, which text is read, which rules. -/
abbrev x_T : Type := (Nat → Nat → Int32) × (Nat → Nat → Int64) × Nat × Option Nat
/-- the references that stay -/
def x_gr (c k : Nat) : Option Nat := match (x_sh c).1 with
  | 0 => match k with | 0 => some 1 | 1 => some 329 | _ => some (c + 1)
  | 1 => match k with | 7 => some (c + 1) | 8 => some (c + 2) | _ => some (c + 3)
  | 2 => match k with | 0 => some 1 | _ => some 329
  | 3 => match k with | 2 => some (c + 1) | 3 => some (c + 2) | 4 => some (c + 3) | 5 => some (c + 4) | 6 => some (c + 5) | 7 => some (c + 6) | _ => some (c + 9)
  | 4 => match k with | 0 => some 1 | 1 => some (c + 1) | 2 => some (c + 2) | _ => none
  | 5 => match k with | 0 => some (c + 1) | _ => some (c + 2)
  | 6 => match k with | 0 => some 314 | _ => none
  | 7 => some (c + 1)
  | 8 => match k with | 0 => some (c + 1) | 2 => some (c + 2) | 3 => some (c + 3) | _ => some (c + 4)
  | 9 => match k with | 0 => some (c + 1) | 1 => some (c + 2) | 2 => some (c + 3) | 3 => some (c + 4) | 5 => some (c + 5) | 6 => some (c + 6) | 7 => some (c + 7) | _ => some (c + 8)
  | 10 => match k with | 0 => some 1 | 1 => some 329 | 2 => some (c + 1) | 3 => some (c + 2) | 6 => some (c + 3) | 7 => some (c + 4) | _ => some (c + 5)
  | 11 => match k with | 0 => some 1 | 1 => some 13 | 2 => some 17 | 3 => some 139 | 6 => some 176 | 7 => some 188 | 8 => some 192 | 11 => some 314 | 12 => some 319 | 13 => some 329 | 14 => some 332 | 15 => some 333 | 16 => some 339 | _ => some 341
  | 12 => match k with | 0 => some 346 | 1 => some 347 | 2 => some 348 | 6 => some 349 | 7 => some 350 | 8 => some 351 | 9 => some 352 | 10 => some 353 | 11 => some 354 | 12 => some 355 | 13 => some 356 | 23 => some 357 | 24 => some 358 | 26 => some 359 | 27 => some 360 | 29 => some 361 | 32 => some 362 | 33 => some 363 | 34 => some 364 | 35 => some 365 | 36 => some 366 | 38 => some 367 | 39 => some 368 | 40 => some 369 | 41 => some 370 | 42 => some 371 | 43 => some 372 | 44 => some 373 | 45 => some 374 | _ => some 375
  | 23 => some (c + 1 + 9 * k)
  | 24 => some (c + 1 + 4 * k)
  | _ => none
def x_fu (τ : x_T) : x_S := (τ.1, τ.2.1, fun c k => if c = 319 ∧ k = 1 then some τ.2.2.1 else if c = 329 ∧ k = 4 then τ.2.2.2 else x_gr c k)
/-- a number is written -/
def x_w1 (τ : x_T) (c k : Nat) (v : Int32) : x_T := (fun a b => if a = c ∧ b = k then v else τ.1 a b, τ.2)
def x_w2 (τ : x_T) (c k : Nat) (v : Int64) : x_T := (τ.1, fun a b => if a = c ∧ b = k then v else τ.2.1 a b, τ.2.2)
def x_cp (τ : x_T) (o0 sp o1 dp n : Nat) : x_T := (fun a b => if a = o1 ∧ dp ≤ b ∧ b < dp + n then τ.1 o0 (sp + (b - dp)) else τ.1 a b, τ.2)
theorem x_fu_wi (τ : x_T) (c k : Nat) (v : Int32) : x_wi (x_fu τ) c k v = x_fu (x_w1 τ c k v) := rfl
theorem x_fu_wl (τ : x_T) (c k : Nat) (v : Int64) : x_wl (x_fu τ) c k v = x_fu (x_w2 τ c k v) := rfl
theorem x_fu_cp (τ : x_T) (o0 sp o1 dp n : Nat) : x_cpy (x_fu τ) o0 sp o1 dp n = x_fu (x_cp τ o0 sp o1 dp n) := rfl
theorem x_fu_rt (τ : x_T) (r : Nat) : x_wr (x_fu τ) 319 1 (some r) = x_fu (τ.1, τ.2.1, r, τ.2.2.2) := by
  simp only [x_wr, x_fu, Prod.mk.injEq, true_and]
  funext a b
  by_cases h : a = 319 ∧ b = 1
  · simp [h]
  · simp [h]
theorem x_fu_ru (τ : x_T) (r : Option Nat) : x_wr (x_fu τ) 329 4 r = x_fu (τ.1, τ.2.1, τ.2.2.1, r) := by
  simp only [x_wr, x_fu, Prod.mk.injEq, true_and]
  funext a b
  by_cases h : a = 329 ∧ b = 4
  · simp [h]
  · by_cases h1 : a = 319 ∧ b = 1
    · simp [h1]
    · simp [h, h1]
/-- a reference that stays, by the class -/
theorem x_fu_r {τ : x_T} {c k r t n : Nat} (hs : x_sh c = (t, n)) (hg : x_gr c k = some r) (hx : ¬ (c = 319 ∧ k = 1) ∧ ¬ (c = 329 ∧ k = 4)) : (x_fu τ).2.2 c k = some r := by
  show (if c = 319 ∧ k = 1 then _ else _) = _
  rw [if_neg hx.1, if_neg hx.2, hg]
/-- THE JUDGEMENT, all cells there -/
abbrev x_Wf (d : Nat) (μ : x_M) (Q : x_T → Option Value → Prop) (pc : Nat) (L : List (Nat × Value)) (st : List Value) (τ : x_T) : Prop := x_Wg d μ 376 (fun σ v => ∃ τ', σ = x_fu τ' ∧ Q τ' v) 376 pc L st (x_fu τ)
/-- THE CONTRACT, all cells there -/
def x_Mf (d : Nat) (μ : x_M) (vs : List Value) (τ : x_T) (Q : x_T → Option Value → Prop) : Prop := x_Mt d μ 376 vs (x_fu τ) (fun σ v => ∃ τ', σ = x_fu τ' ∧ Q τ' v)
/-- .. of a method that answers a number, a long number, nothing, a reference -/
def x_CI (d : Nat) (μ : x_M) (vs : List Value) (τ : x_T) (K : x_T → Int32 → Prop) : Prop := x_Mf d μ vs τ (fun τ' r => ∃ v, r = some (.int v) ∧ K τ' v)
def x_CL (d : Nat) (μ : x_M) (vs : List Value) (τ : x_T) (K : x_T → Int64 → Prop) : Prop := x_Mf d μ vs τ (fun τ' r => ∃ v, r = some (.long v) ∧ K τ' v)
def x_CV (d : Nat) (μ : x_M) (vs : List Value) (τ : x_T) (K : x_T → Prop) : Prop := x_Mf d μ vs τ (fun τ' r => r = none ∧ K τ')
def x_CR (d : Nat) (μ : x_M) (vs : List Value) (τ : x_T) (K : x_T → Option Nat → Prop) : Prop := x_Mf d μ vs τ (fun τ' r => ∃ v, r = some (x_rf v) ∧ K τ' v)
end
section
theorem x_Mt.mono {d : Nat} {μ : x_M} {N : Nat} {vs : List Value} {σ : x_S} {Q Q' : x_S → Option Value → Prop} (h : x_Mt d μ N vs σ Q) (hq : ∀ σ' v, Q σ' v → Q' σ' v) : x_Mt d μ N vs σ Q' := by
  intro l G p e a1 a2 a3 s m args below b1 b2 b3 b4
  obtain ⟨n, oc, c1, c2, c3, ⟨⟨v, σ', e1, e2, e3⟩, hF⟩, hL⟩ := h l G p e a1 a2 a3 s m args below b1 b2 b3 b4
  exact ⟨n, oc, c1, c2, c3, ⟨⟨v, σ', e1, hq σ' v e2, e3⟩, hF⟩, hL⟩
/-- the judgement in a method that answers a number, a long number, nothing, a reference -/
abbrev x_WI (d : Nat) (μ : x_M) (K : x_T → Int32 → Prop) (pc : Nat) (L : List (Nat × Value)) (st : List Value) (τ : x_T) : Prop := x_Wf d μ (fun τ' r => ∃ v, r = some (.int v) ∧ K τ' v) pc L st τ
abbrev x_WL (d : Nat) (μ : x_M) (K : x_T → Int64 → Prop) (pc : Nat) (L : List (Nat × Value)) (st : List Value) (τ : x_T) : Prop := x_Wf d μ (fun τ' r => ∃ v, r = some (.long v) ∧ K τ' v) pc L st τ
abbrev x_WV (d : Nat) (μ : x_M) (K : x_T → Prop) (pc : Nat) (L : List (Nat × Value)) (st : List Value) (τ : x_T) : Prop := x_Wf d μ (fun τ' r => r = none ∧ K τ') pc L st τ
abbrev x_WR (d : Nat) (μ : x_M) (K : x_T → Option Nat → Prop) (pc : Nat) (L : List (Nat × Value)) (st : List Value) (τ : x_T) : Prop := x_Wf d μ (fun τ' r => ∃ v, r = some (x_rf v) ∧ K τ' v) pc L st τ
section XF
variable {d : Nat} {μ : x_M} {Q : x_T → Option Value → Prop} {pc : Nat} {L L' : List (Nat × Value)} {st st' : List Value} {τ : x_T}
theorem x_CI_of {vs : List Value} {K : x_T → Int32 → Prop} (hy : plainName μ.1.cls = true) (hlen : (lg_sl vs).length ≤ μ.2.2.1) (h : x_WI d μ K 0 (lv_args 0 vs) [] τ) : x_CI d μ vs τ K := x_of hy hlen h
theorem x_CL_of {vs : List Value} {K : x_T → Int64 → Prop} (hy : plainName μ.1.cls = true) (hlen : (lg_sl vs).length ≤ μ.2.2.1) (h : x_WL d μ K 0 (lv_args 0 vs) [] τ) : x_CL d μ vs τ K := x_of hy hlen h
theorem x_CV_of {vs : List Value} {K : x_T → Prop} (hy : plainName μ.1.cls = true) (hlen : (lg_sl vs).length ≤ μ.2.2.1) (h : x_WV d μ K 0 (lv_args 0 vs) [] τ) : x_CV d μ vs τ K := x_of hy hlen h
theorem x_CR_of {vs : List Value} {K : x_T → Option Nat → Prop} (hy : plainName μ.1.cls = true) (hlen : (lg_sl vs).length ≤ μ.2.2.1) (h : x_WR d μ K 0 (lv_args 0 vs) [] τ) : x_CR d μ vs τ K := x_of hy hlen h
theorem x_CI.mono {vs : List Value} {K K' : x_T → Int32 → Prop} (h : x_CI d μ vs τ K) (hk : ∀ τ' v, K τ' v → K' τ' v) : x_CI d μ vs τ K' := x_Mt.mono h (fun σ v ⟨τ', e, u, e1, e2⟩ => ⟨τ', e, u, e1, hk τ' u e2⟩)
theorem x_CL.mono {vs : List Value} {K K' : x_T → Int64 → Prop} (h : x_CL d μ vs τ K) (hk : ∀ τ' v, K τ' v → K' τ' v) : x_CL d μ vs τ K' := x_Mt.mono h (fun σ v ⟨τ', e, u, e1, e2⟩ => ⟨τ', e, u, e1, hk τ' u e2⟩)
theorem x_CV.mono {vs : List Value} {K K' : x_T → Prop} (h : x_CV d μ vs τ K) (hk : ∀ τ', K τ' → K' τ') : x_CV d μ vs τ K' := x_Mt.mono h (fun σ v ⟨τ', e, e1, e2⟩ => ⟨τ', e, e1, hk τ' e2⟩)
theorem x_CR.mono {vs : List Value} {K K' : x_T → Option Nat → Prop} (h : x_CR d μ vs τ K) (hk : ∀ τ' v, K τ' v → K' τ' v) : x_CR d μ vs τ K' := x_Mt.mono h (fun σ v ⟨τ', e, u, e1, e2⟩ => ⟨τ', e, u, e1, hk τ' u e2⟩)
theorem f_getI {o t n k i : Nat} {C : String} {T : u_T} (hd : decode μ.2.1 pc = .ok (.getfield i, 3)) (hs : x_sh o = (t, n)) (hc : vwCl[t]? = some (C, T, n)) (hk : k < n) (hw : Cond.fieldLink μ.1.cls i (T k).1 (T k).2.1 (T k).2.2.1 ∈ x_tb) (ht : x_ty t k = .int) (h : x_Wf d μ Q (pc + 3) L (.int (τ.1 o k) :: st) τ) : x_Wf d μ Q pc L (.ref o :: st) τ :=
  o_get hd hs (x_sh_lt hs (by have := x_t13 hc; omega)) hc hk hw (by rw [ht]; rfl) h
theorem f_getR {o t n k i r : Nat} {C : String} {T : u_T} (hd : decode μ.2.1 pc = .ok (.getfield i, 3)) (hs : x_sh o = (t, n)) (hc : vwCl[t]? = some (C, T, n)) (hk : k < n) (hw : Cond.fieldLink μ.1.cls i (T k).1 (T k).2.1 (T k).2.2.1 ∈ x_tb) (ht : (x_ty t k = .int ∨ x_ty t k = .long) = False) (hr : (x_fu τ).2.2 o k = some r) (h : x_Wf d μ Q (pc + 3) L (.ref r :: st) τ) : x_Wf d μ Q pc L (.ref o :: st) τ :=
  o_get hd hs (x_sh_lt hs (by have := x_t13 hc; omega)) hc hk hw (by unfold x_av; split <;> rename_i q <;> first | (rw [hr]; rfl) | (exfalso; rw [← ht]; first | exact Or.inl q | exact Or.inr q)) h
theorem f_getN {o t n k i : Nat} {C : String} {T : u_T} {r : Option Nat} (hd : decode μ.2.1 pc = .ok (.getfield i, 3)) (hs : x_sh o = (t, n)) (hc : vwCl[t]? = some (C, T, n)) (hk : k < n) (hw : Cond.fieldLink μ.1.cls i (T k).1 (T k).2.1 (T k).2.2.1 ∈ x_tb) (ht : (x_ty t k = .int ∨ x_ty t k = .long) = False) (hr : (x_fu τ).2.2 o k = r) (h : x_Wf d μ Q (pc + 3) L (x_rf r :: st) τ) : x_Wf d μ Q pc L (.ref o :: st) τ :=
  o_get hd hs (x_sh_lt hs (by have := x_t13 hc; omega)) hc hk hw (by unfold x_av; split <;> rename_i q <;> first | (rw [hr]) | (exfalso; rw [← ht]; first | exact Or.inl q | exact Or.inr q)) h
theorem f_putI {o t n k i : Nat} {C : String} {T : u_T} {v : Int32} (hd : decode μ.2.1 pc = .ok (.putfield i, 3)) (hs : x_sh o = (t, n)) (hc : vwCl[t]? = some (C, T, n)) (hk : k < n) (hw : Cond.fieldLink μ.1.cls i (T k).1 (T k).2.1 (T k).2.2.1 ∈ x_tb) (hf : (T k).2.2.2 = false) (ht : x_ty t k = .int) (h : x_Wf d μ Q (pc + 3) L st (x_w1 τ o k v)) : x_Wf d μ Q pc L (.int v :: .ref o :: st) τ :=
  o_putI hd hs (x_sh_lt hs (by have := x_t13 hc; omega)) hc hk hf ht hw h
theorem f_putRt {i r : Nat} (hd : decode μ.2.1 pc = .ok (.putfield i, 3)) (hw : Cond.fieldLink μ.1.cls i "NoonOnABarrow$Reader" "text" "LNoonOnABarrow$Text;" ∈ x_tb) (h : x_Wf d μ Q (pc + 3) L st (τ.1, τ.2.1, r, τ.2.2.2)) : x_Wf d μ Q pc L (.ref r :: .ref 319 :: st) τ :=
  o_putR (r := some r) (t := 6) (n := 6) (k := 1) hd (by decide +kernel) (by omega) rfl (by omega) rfl rfl hw (by rw [x_fu_rt]; exact h)
theorem f_putRu {i : Nat} {r : Option Nat} (hd : decode μ.2.1 pc = .ok (.putfield i, 3)) (hw : Cond.fieldLink μ.1.cls i "NoonOnABarrow$Laws" "ruler" "LNoonOnABarrow$Text;" ∈ x_tb) (h : x_Wf d μ Q (pc + 3) L st (τ.1, τ.2.1, τ.2.2.1, r)) : x_Wf d μ Q pc L (x_rf r :: .ref 329 :: st) τ :=
  o_putR (r := r) (t := 4) (n := 5) (k := 4) hd (by decide +kernel) (by omega) rfl (by omega) rfl rfl hw (by rw [x_fu_ru]; exact h)
theorem f_iald {o n k : Nat} {i : Int32} (hd : decode μ.2.1 pc = .ok (.iaload, 1)) (hs : x_sh o = (20, n)) (hi : vp_in i n) (hk : i.toNatClampNeg = k) (h : x_Wf d μ Q (pc + 1) L (.int (τ.1 o k) :: st) τ) : x_Wf d μ Q pc L (.int i :: .ref o :: st) τ := by subst hk; exact o_iald hd hs (x_sh_lt hs (by omega)) hi h
theorem f_bald {o n k : Nat} {i : Int32} (hd : decode μ.2.1 pc = .ok (.baload, 1)) (hs : x_sh o = (21, n)) (hi : vp_in i n) (hk : i.toNatClampNeg = k) (h : x_Wf d μ Q (pc + 1) L (.int (τ.1 o k) :: st) τ) : x_Wf d μ Q pc L (.int i :: .ref o :: st) τ := by subst hk; exact o_bald hd hs (x_sh_lt hs (by omega)) hi h
theorem f_lald {o n k : Nat} {i : Int32} (hd : decode μ.2.1 pc = .ok (.laload, 1)) (hs : x_sh o = (22, n)) (hi : vp_in i n) (hk : i.toNatClampNeg = k) (h : x_Wf d μ Q (pc + 1) L (.long (τ.2.1 o k) :: st) τ) : x_Wf d μ Q pc L (.int i :: .ref o :: st) τ := by subst hk; exact o_lald hd hs (x_sh_lt hs (by omega)) hi h
theorem f_aaldT {o n r : Nat} {i : Int32} (hd : decode μ.2.1 pc = .ok (.aaload, 1)) (hs : x_sh o = (23, n)) (hi : vp_in i n) (hr : (x_fu τ).2.2 o i.toNatClampNeg = some r) (h : x_Wf d μ Q (pc + 1) L (.ref r :: st) τ) : x_Wf d μ Q pc L (.int i :: .ref o :: st) τ := o_aaldT hd hs (x_sh_lt hs (by omega)) hi (by rw [hr]; exact h)
theorem f_aaldD {o n r : Nat} {i : Int32} (hd : decode μ.2.1 pc = .ok (.aaload, 1)) (hs : x_sh o = (24, n)) (hi : vp_in i n) (hr : (x_fu τ).2.2 o i.toNatClampNeg = some r) (h : x_Wf d μ Q (pc + 1) L (.ref r :: st) τ) : x_Wf d μ Q pc L (.int i :: .ref o :: st) τ := o_aaldD hd hs (x_sh_lt hs (by omega)) hi (by rw [hr]; exact h)
theorem f_iast {o n k : Nat} {i x : Int32} (hd : decode μ.2.1 pc = .ok (.iastore, 1)) (hs : x_sh o = (20, n)) (hi : vp_in i n) (hk : i.toNatClampNeg = k) (h : x_Wf d μ Q (pc + 1) L st (x_w1 τ o k x)) : x_Wf d μ Q pc L (.int x :: .int i :: .ref o :: st) τ := by subst hk; exact o_iast hd hs (x_sh_lt hs (by omega)) hi h
theorem f_bast {o n k : Nat} {i x : Int32} (hd : decode μ.2.1 pc = .ok (.bastore, 1)) (hs : x_sh o = (21, n)) (hi : vp_in i n) (hk : i.toNatClampNeg = k) (h : x_Wf d μ Q (pc + 1) L st (x_w1 τ o k (vp_nar .byte x))) : x_Wf d μ Q pc L (.int x :: .int i :: .ref o :: st) τ := by subst hk; exact o_bast hd hs (x_sh_lt hs (by omega)) hi h
theorem f_last {o n k : Nat} {i : Int32} {x : Int64} (hd : decode μ.2.1 pc = .ok (.lastore, 1)) (hs : x_sh o = (22, n)) (hi : vp_in i n) (hk : i.toNatClampNeg = k) (h : x_Wf d μ Q (pc + 1) L st (x_w2 τ o k x)) : x_Wf d μ Q pc L (.long x :: .int i :: .ref o :: st) τ := by subst hk; exact o_last hd hs (x_sh_lt hs (by omega)) hi h
theorem f_alen {o t n : Nat} {v : Int32} (hd : decode μ.2.1 pc = .ok (.arraylength, 1)) (hs : x_sh o = (t, n)) (ht : 20 ≤ t ∧ t ≤ 24) (hv : Int32.ofNat n = v) (h : x_Wf d μ Q (pc + 1) L (.int v :: st) τ) : x_Wf d μ Q pc L (.ref o :: st) τ := o_alen hd hs ht (x_sh_lt hs (by omega)) hv h
theorem f_copy {i o0 o1 n0 n1 : Nat} {sp dp n : Int32} {sp' dp' n' : Nat} (hd : decode μ.2.1 pc = .ok (.invokestatic i, 3)) (hl' : Cond.methodLink μ.1.cls i arraycopyName ∈ x_tb) (hq : Cond.native arraycopyName ∈ x_tb ∧ Cond.static arraycopyName ∈ x_tb ∧ Cond.initialized "java/lang/System" ∈ x_tb) (hs0 : x_sh o0 = (20, n0)) (hs1 : x_sh o1 = (20, n1)) (a1 : ¬ sp < 0) (a2 : ¬ dp < 0) (a3 : ¬ n < 0) (b1 : sp.toNatClampNeg = sp') (b2 : dp.toNatClampNeg = dp') (b3 : n.toNatClampNeg = n') (a4 : sp' + n' ≤ n0) (a5 : dp' + n' ≤ n1) (hcat : (st.map fun v => v.category).sum ≤ 8)
    (h : x_Wf (d + 1) μ Q (pc + 3) L st (x_cp τ o0 sp' o1 dp' n')) : x_Wf (d + 1) μ Q pc L (.int n :: .int dp :: .ref o1 :: .int sp :: .ref o0 :: st) τ := by subst b1; subst b2; subst b3; exact o_copy hd hl' hq hs0 (x_sh_lt hs0 (by omega)) hs1 (x_sh_lt hs1 (by omega)) a1 a2 a3 a4 a5 hcat h
theorem f_iret {v : Int32} {ty : FieldType} {K : x_T → Int32 → Prop} (hr : μ.2.2.2.1 = some ty) (hn : narrow ty (.int v) = .int v) (hd : decode μ.2.1 pc = .ok (.ireturn, 1)) (hN : μ.2.2.2.2.1 = 0) (h : K τ v) : x_WI d μ K pc L [.int v] τ := o_iret hr hn hd (by rw [hN]) ⟨τ, rfl, v, rfl, h⟩
theorem f_lret {v : Int64} {K : x_T → Int64 → Prop} (hr : μ.2.2.2.1 = some .long) (hd : decode μ.2.1 pc = .ok (.lreturn, 1)) (hN : μ.2.2.2.2.1 = 0) (h : K τ v) : x_WL d μ K pc L [.long v] τ := o_lret hr hd (by rw [hN]) ⟨τ, rfl, v, rfl, h⟩
theorem f_vret {K : x_T → Prop} (hr : μ.2.2.2.1 = none) (hd : decode μ.2.1 pc = .ok (.return_, 1)) (hN : μ.2.2.2.2.1 = 0) (h : K τ) : x_WV d μ K pc L [] τ := o_vret hr hd (by rw [hN]) ⟨τ, rfl, rfl, h⟩
theorem f_aret {r : Option Nat} {C0 : String} {K : x_T → Option Nat → Prop} (hr : μ.2.2.2.1 = some (.object C0)) (hd : decode μ.2.1 pc = .ok (.areturn, 1)) (hN : μ.2.2.2.2.1 = 0) (h : K τ r) : x_WR d μ K pc L [x_rf r] τ := o_aret hr hd (by rw [hN]) ⟨τ, rfl, r, rfl, h⟩
theorem f_callVI {μ' : x_M} {o t n' n i : Nat} {q : vw_C} {vs : List Value} (hd : decode μ.2.1 pc = .ok (.invokevirtual i, 3)) (hl' : Cond.methodLink μ.1.cls i μ'.1 ∈ x_tb) (hk : x_vok μ' n) (hs : x_sh o = (t, n')) (hc : vwCl[t]? = some q) (hC : μ'.1.cls = q.1) (hst : st' = vs.reverse ++ .ref o :: st) (hn : vs.length = n) (hcat : (st.map fun v => v.category).sum ≤ 8)
    (h : x_CI d μ' (.ref o :: vs) τ (fun τ' v => x_Wf (d + 1) μ Q (pc + 3) L (.int v :: st) τ')) : x_Wf (d + 1) μ Q pc L st' τ :=
  o_callV hd hl' hk hs (x_sh_lt hs (by have := x_t13 hc; omega)) hc hC hst hn hcat (x_Mt.mono h (fun σ v ⟨τ', e, u, e1, e2⟩ => by subst e; subst e1; exact e2))
theorem f_callSI {μ' : x_M} {n i : Nat} {vs : List Value} (hd : decode μ.2.1 pc = .ok (.invokestatic i, 3)) (hl' : Cond.methodLink μ.1.cls i μ'.1 ∈ x_tb) (hk : x_cok μ' n) (hk0 : μ'.2.2.2.2 = (0, 0)) (hst' : Cond.static μ'.1 ∈ x_tb) (hst : st' = vs.reverse ++ st) (hn : vs.length = n) (hcat : (st.map fun v => v.category).sum ≤ 8)
    (h : x_CI d μ' vs τ (fun τ' v => x_Wf (d + 1) μ Q (pc + 3) L (.int v :: st) τ')) : x_Wf (d + 1) μ Q pc L st' τ :=
  o_callS hd hl' hk hk0 hst' hst hn hcat (x_Mt.mono h (fun σ v ⟨τ', e, u, e1, e2⟩ => by subst e; subst e1; exact e2))
theorem f_callSNI {μ' : x_M} {n i : Nat} {hn0 : String} {vs : List Value} (hd : decode μ.2.1 pc = .ok (.invokestatic i, 3)) (hl' : (μ.1.cls, i, μ'.1, hn0) ∈ x_nm) (hk : x_cok μ' n) (hk0 : μ'.2.2.2.2 = (0, 0)) (hst' : Cond.static μ'.1 ∈ x_tb) (hst : st' = vs.reverse ++ st) (hn : vs.length = n) (hcat : (st.map fun v => v.category).sum ≤ 8)
    (h : x_CI d μ' vs τ (fun τ' v => x_Wf (d + 1) μ Q (pc + 3) L (.int v :: st) τ')) : x_Wf (d + 1) μ Q pc L st' τ :=
  o_callSN hd hl' hk hk0 hst' hst hn hcat (x_Mt.mono h (fun σ v ⟨τ', e, u, e1, e2⟩ => by subst e; subst e1; exact e2))
theorem f_callVL {μ' : x_M} {o t n' n i : Nat} {q : vw_C} {vs : List Value} (hd : decode μ.2.1 pc = .ok (.invokevirtual i, 3)) (hl' : Cond.methodLink μ.1.cls i μ'.1 ∈ x_tb) (hk : x_vok μ' n) (hs : x_sh o = (t, n')) (hc : vwCl[t]? = some q) (hC : μ'.1.cls = q.1) (hst : st' = vs.reverse ++ .ref o :: st) (hn : vs.length = n) (hcat : (st.map fun v => v.category).sum ≤ 8)
    (h : x_CL d μ' (.ref o :: vs) τ (fun τ' v => x_Wf (d + 1) μ Q (pc + 3) L (.long v :: st) τ')) : x_Wf (d + 1) μ Q pc L st' τ :=
  o_callV hd hl' hk hs (x_sh_lt hs (by have := x_t13 hc; omega)) hc hC hst hn hcat (x_Mt.mono h (fun σ v ⟨τ', e, u, e1, e2⟩ => by subst e; subst e1; exact e2))
theorem f_callSL {μ' : x_M} {n i : Nat} {vs : List Value} (hd : decode μ.2.1 pc = .ok (.invokestatic i, 3)) (hl' : Cond.methodLink μ.1.cls i μ'.1 ∈ x_tb) (hk : x_cok μ' n) (hk0 : μ'.2.2.2.2 = (0, 0)) (hst' : Cond.static μ'.1 ∈ x_tb) (hst : st' = vs.reverse ++ st) (hn : vs.length = n) (hcat : (st.map fun v => v.category).sum ≤ 8)
    (h : x_CL d μ' vs τ (fun τ' v => x_Wf (d + 1) μ Q (pc + 3) L (.long v :: st) τ')) : x_Wf (d + 1) μ Q pc L st' τ :=
  o_callS hd hl' hk hk0 hst' hst hn hcat (x_Mt.mono h (fun σ v ⟨τ', e, u, e1, e2⟩ => by subst e; subst e1; exact e2))
theorem f_callVV {μ' : x_M} {o t n' n i : Nat} {q : vw_C} {vs : List Value} (hd : decode μ.2.1 pc = .ok (.invokevirtual i, 3)) (hl' : Cond.methodLink μ.1.cls i μ'.1 ∈ x_tb) (hk : x_vok μ' n) (hs : x_sh o = (t, n')) (hc : vwCl[t]? = some q) (hC : μ'.1.cls = q.1) (hst : st' = vs.reverse ++ .ref o :: st) (hn : vs.length = n) (hcat : (st.map fun v => v.category).sum ≤ 8)
    (h : x_CV d μ' (.ref o :: vs) τ (fun τ' => x_Wf (d + 1) μ Q (pc + 3) L st τ')) : x_Wf (d + 1) μ Q pc L st' τ :=
  o_callV hd hl' hk hs (x_sh_lt hs (by have := x_t13 hc; omega)) hc hC hst hn hcat (x_Mt.mono h (fun σ v ⟨τ', e, e1, e2⟩ => by subst e; subst e1; exact e2))
theorem f_callSV {μ' : x_M} {n i : Nat} {vs : List Value} (hd : decode μ.2.1 pc = .ok (.invokestatic i, 3)) (hl' : Cond.methodLink μ.1.cls i μ'.1 ∈ x_tb) (hk : x_cok μ' n) (hk0 : μ'.2.2.2.2 = (0, 0)) (hst' : Cond.static μ'.1 ∈ x_tb) (hst : st' = vs.reverse ++ st) (hn : vs.length = n) (hcat : (st.map fun v => v.category).sum ≤ 8)
    (h : x_CV d μ' vs τ (fun τ' => x_Wf (d + 1) μ Q (pc + 3) L st τ')) : x_Wf (d + 1) μ Q pc L st' τ :=
  o_callS hd hl' hk hk0 hst' hst hn hcat (x_Mt.mono h (fun σ v ⟨τ', e, e1, e2⟩ => by subst e; subst e1; exact e2))
theorem f_callVR {μ' : x_M} {o t n' n i : Nat} {q : vw_C} {vs : List Value} (hd : decode μ.2.1 pc = .ok (.invokevirtual i, 3)) (hl' : Cond.methodLink μ.1.cls i μ'.1 ∈ x_tb) (hk : x_vok μ' n) (hs : x_sh o = (t, n')) (hc : vwCl[t]? = some q) (hC : μ'.1.cls = q.1) (hst : st' = vs.reverse ++ .ref o :: st) (hn : vs.length = n) (hcat : (st.map fun v => v.category).sum ≤ 8)
    (h : x_CR d μ' (.ref o :: vs) τ (fun τ' v => x_Wf (d + 1) μ Q (pc + 3) L (x_rf v :: st) τ')) : x_Wf (d + 1) μ Q pc L st' τ :=
  o_callV hd hl' hk hs (x_sh_lt hs (by have := x_t13 hc; omega)) hc hC hst hn hcat (x_Mt.mono h (fun σ v ⟨τ', e, u, e1, e2⟩ => by subst e; subst e1; exact e2))
theorem f_name {τ' : x_T} (h : ∀ τ1, τ1 = τ' → x_Wf d μ Q pc L st τ1) : x_Wf d μ Q pc L st τ' := h τ' rfl
theorem x_ne {x : Int32} {n : Int32} {z : Int} (hz : n.toInt = z) (h : ¬ x = n) : ¬ x.toInt = z := fun q => h (Int32.toInt_inj.mp (q.trans hz.symm))
end XF
end
section
def mJ6_bitCount_0f7a4 : x_M := (yJ6_bitCount_0f7a4, cJ6_bitCount_0f7a4, 1, some .int, 0, 0)
def mX0_answersAt : x_M := (yX0_answersAt, cX0_answersAt, 6, some .int, 0, 0)
def mX0_beats : x_M := (yX0_beats, cX0_beats, 8, some .boolean, 0, 0)
def mX0_beatsAll : x_M := (yX0_beatsAll, cX0_beatsAll, 3, some .boolean, 0, 0)
def mX0_bestWatch : x_M := (yX0_bestWatch, cX0_bestWatch, 7, some .int, 0, 0)
def mX0_fairTurn : x_M := (yX0_fairTurn, cX0_fairTurn, 4, some .int, 0, 0)
def mX0_farthestFromNoon : x_M := (yX0_farthestFromNoon, cX0_farthestFromNoon, 6, some .int, 0, 0)
def mX0_fits : x_M := (yX0_fits, cX0_fits, 4, some .boolean, 0, 0)
def mX0_isRow : x_M := (yX0_isRow, cX0_isRow, 7, some .boolean, 0, 0)
def mX0_isServedLess : x_M := (yX0_isServedLess, cX0_isServedLess, 5, some .boolean, 0, 0)
def mX0_leastServed : x_M := (yX0_leastServed, cX0_leastServed, 3, some .int, 0, 0)
def mX0_leftOfRow : x_M := (yX0_leftOfRow, cX0_leftOfRow, 5, some .int, 0, 0)
def mX0_mayBeAt : x_M := (yX0_mayBeAt, cX0_mayBeAt, 5, some .boolean, 0, 0)
def mX0_nearBits : x_M := (yX0_nearBits, cX0_nearBits, 5, some .int, 0, 0)
def mX0_placesFitting : x_M := (yX0_placesFitting, cX0_placesFitting, 3, some .int, 0, 0)
def mX0_placesInFog : x_M := (yX0_placesInFog, cX0_placesInFog, 4, some .int, 0, 0)
def mX0_voted : x_M := (yX0_voted, cX0_voted, 2, some .int, 0, 0)
def mX0_watchedBy : x_M := (yX0_watchedBy, cX0_watchedBy, 4, some .int, 0, 0)
def mX0_withAnswer : x_M := (yX0_withAnswer, cX0_withAnswer, 4, some .int, 0, 0)
def mX0_yardToFeel : x_M := (yX0_yardToFeel, cX0_yardToFeel, 7, some .int, 0, 0)
def mX10_askCosts : x_M := (yX10_askCosts, cX10_askCosts, 6, none, 0, 0)
def mX10_comeTo : x_M := (yX10_comeTo, cX10_comeTo, 7, none, 0, 0)
def mX10_goOnFrom : x_M := (yX10_goOnFrom, cX10_goOnFrom, 4, none, 0, 0)
def mX10_lanesBehind : x_M := (yX10_lanesBehind, cX10_lanesBehind, 4, some .int, 0, 0)
def mX10_leastHouse : x_M := (yX10_leastHouse, cX10_leastHouse, 2, some .int, 0, 0)
def mX10_lowerRest : x_M := (yX10_lowerRest, cX10_lowerRest, 3, none, 0, 0)
def mX10_lowestNext : x_M := (yX10_lowestNext, cX10_lowestNext, 3, some .int, 0, 0)
def mX10_placeAhead : x_M := (yX10_placeAhead, cX10_placeAhead, 2, some .int, 0, 0)
def mX10_routeHouse : x_M := (yX10_routeHouse, cX10_routeHouse, 4, some .int, 0, 0)
def mX10_seekLeast : x_M := (yX10_seekLeast, cX10_seekLeast, 6, some .int, 0, 0)
def mX10_seekRoute : x_M := (yX10_seekRoute, cX10_seekRoute, 4, some .int, 0, 0)
def mX11_about : x_M := (yX11_about, cX11_about, 2, some .int, 0, 0)
def mX11_agenda : x_M := (yX11_agenda, cX11_agenda, 3, some .int, 0, 0)
def mX11_arrives : x_M := (yX11_arrives, cX11_arrives, 2, some .int, 0, 0)
def mX11_back : x_M := (yX11_back, cX11_back, 1, some .int, 0, 0)
def mX11_barrow : x_M := (yX11_barrow, cX11_barrow, 2, some .int, 0, 0)
def mX11_book : x_M := (yX11_book, cX11_book, 3, some .int, 0, 0)
def mX11_by : x_M := (yX11_by, cX11_by, 2, some .boolean, 0, 0)
def mX11_end : x_M := (yX11_end, cX11_end, 2, some .int, 0, 0)
def mX11_fair : x_M := (yX11_fair, cX11_fair, 2, some .int, 0, 0)
def mX11_fault : x_M := (yX11_fault, cX11_fault, 2, some .int, 0, 0)
def mX11_feed : x_M := (yX11_feed, cX11_feed, 6, some .int, 0, 0)
def mX11_feel : x_M := (yX11_feel, cX11_feel, 3, some .int, 0, 0)
def mX11_fitting : x_M := (yX11_fitting, cX11_fitting, 1, some .int, 0, 0)
def mX11_foretold : x_M := (yX11_foretold, cX11_foretold, 5, some .int, 0, 0)
def mX11_hard : x_M := (yX11_hard, cX11_hard, 4, some .int, 0, 0)
def mX11_held : x_M := (yX11_held, cX11_held, 3, some .int, 0, 0)
def mX11_house : x_M := (yX11_house, cX11_house, 2, some .int, 0, 0)
def mX11_image : x_M := (yX11_image, cX11_image, 1, some .int, 0, 0)
def mX11_isDone : x_M := (yX11_isDone, cX11_isDone, 6, some .boolean, 0, 0)
def mX11_lane : x_M := (yX11_lane, cX11_lane, 4, some .boolean, 0, 0)
def mX11_least : x_M := (yX11_least, cX11_least, 5, some .int, 0, 0)
def mX11_letRule : x_M := (yX11_letRule, cX11_letRule, 2, none, 0, 0)
def mX11_lost : x_M := (yX11_lost, cX11_lost, 1, some .int, 0, 0)
def mX11_mend : x_M := (yX11_mend, cX11_mend, 1, some .boolean, 0, 0)
def mX11_minute : x_M := (yX11_minute, cX11_minute, 4, some .int, 0, 0)
def mX11_of : x_M := (yX11_of, cX11_of, 3, some .int, 0, 0)
def mX11_played : x_M := (yX11_played, cX11_played, 4, some .int, 0, 0)
def mX11_push : x_M := (yX11_push, cX11_push, 3, some .int, 0, 0)
def mX11_pusher : x_M := (yX11_pusher, cX11_pusher, 2, some .int, 0, 0)
def mX11_route : x_M := (yX11_route, cX11_route, 3, some .int, 0, 0)
def mX11_text : x_M := (yX11_text, cX11_text, 2, some .int, 0, 0)
def mX11_textTold : x_M := (yX11_textTold, cX11_textTold, 2, some (.object "NoonOnABarrow$Text"), 0, 0)
def mX11_thieves : x_M := (yX11_thieves, cX11_thieves, 1, some .int, 0, 0)
def mX11_tip : x_M := (yX11_tip, cX11_tip, 1, some .boolean, 0, 0)
def mX11_two : x_M := (yX11_two, cX11_two, 4, some .int, 0, 0)
def mX11_undo : x_M := (yX11_undo, cX11_undo, 1, some .int, 0, 0)
def mX11_want : x_M := (yX11_want, cX11_want, 3, some .int, 0, 0)
def mX11_watch : x_M := (yX11_watch, cX11_watch, 3, some .int, 0, 0)
def mX11_weight : x_M := (yX11_weight, cX11_weight, 3, some .boolean, 0, 0)
def mX11_winner : x_M := (yX11_winner, cX11_winner, 1, some .int, 0, 0)
def mX11_yard : x_M := (yX11_yard, cX11_yard, 1, some .int, 0, 0)
def mX11_years : x_M := (yX11_years, cX11_years, 4, some .int, 0, 0)
def mX12_about : x_M := (yX12_about, cX12_about, 2, some .int, 0, 0)
def mX12_agenda : x_M := (yX12_agenda, cX12_agenda, 8, some .int, 0, 0)
def mX12_answersAt : x_M := (yX12_answersAt, cX12_answersAt, 7, some .int, 0, 0)
def mX12_arrives : x_M := (yX12_arrives, cX12_arrives, 3, some .int, 0, 0)
def mX12_askIsOver : x_M := (yX12_askIsOver, cX12_askIsOver, 1, none, 0, 0)
def mX12_asks : x_M := (yX12_asks, cX12_asks, 2, none, 0, 0)
def mX12_asksOn : x_M := (yX12_asksOn, cX12_asksOn, 1, none, 0, 0)
def mX12_away : x_M := (yX12_away, cX12_away, 2, some .int, 0, 0)
def mX12_back : x_M := (yX12_back, cX12_back, 1, some .int, 0, 0)
def mX12_barrow : x_M := (yX12_barrow, cX12_barrow, 2, some .int, 0, 0)
def mX12_begins : x_M := (yX12_begins, cX12_begins, 3, none, 0, 0)
def mX12_book : x_M := (yX12_book, cX12_book, 3, some .int, 0, 0)
def mX12_bound : x_M := (yX12_bound, cX12_bound, 2, some .long, 0, 0)
def mX12_by : x_M := (yX12_by, cX12_by, 2, some .boolean, 0, 0)
def mX12_bySecond : x_M := (yX12_bySecond, cX12_bySecond, 1, none, 0, 0)
def mX12_canPass : x_M := (yX12_canPass, cX12_canPass, 1, some .boolean, 0, 0)
def mX12_canPush : x_M := (yX12_canPush, cX12_canPush, 3, some .boolean, 0, 0)
def mX12_clause : x_M := (yX12_clause, cX12_clause, 1, none, 0, 0)
def mX12_clauseIsOver : x_M := (yX12_clauseIsOver, cX12_clauseIsOver, 1, none, 0, 0)
def mX12_copies : x_M := (yX12_copies, cX12_copies, 3, none, 0, 0)
def mX12_doesBeat : x_M := (yX12_doesBeat, cX12_doesBeat, 6, some .boolean, 0, 0)
def mX12_doing : x_M := (yX12_doing, cX12_doing, 4, none, 0, 0)
def mX12_doneAt : x_M := (yX12_doneAt, cX12_doneAt, 4, some .int, 0, 0)
def mX12_draw : x_M := (yX12_draw, cX12_draw, 3, some .int, 0, 0)
def mX12_earnsOf : x_M := (yX12_earnsOf, cX12_earnsOf, 3, some .int, 0, 0)
def mX12_emits : x_M := (yX12_emits, cX12_emits, 3, none, 0, 0)
def mX12_end : x_M := (yX12_end, cX12_end, 2, some .int, 0, 0)
def mX12_errs : x_M := (yX12_errs, cX12_errs, 2, none, 0, 0)
def mX12_fair : x_M := (yX12_fair, cX12_fair, 5, some .int, 0, 0)
def mX12_farBy : x_M := (yX12_farBy, cX12_farBy, 6, some .long, 0, 0)
def mX12_fault : x_M := (yX12_fault, cX12_fault, 2, some .int, 0, 0)
def mX12_feed : x_M := (yX12_feed, cX12_feed, 6, some .int, 0, 0)
def mX12_feel : x_M := (yX12_feel, cX12_feel, 3, some .int, 0, 0)
def mX12_fitting : x_M := (yX12_fitting, cX12_fitting, 5, some .int, 0, 0)
def mX12_foretold : x_M := (yX12_foretold, cX12_foretold, 6, some .int, 0, 0)
def mX12_goesOn : x_M := (yX12_goesOn, cX12_goesOn, 3, none, 0, 0)
def mX12_happens : x_M := (yX12_happens, cX12_happens, 3, none, 0, 0)
def mX12_hard : x_M := (yX12_hard, cX12_hard, 4, some .int, 0, 0)
def mX12_hardOf : x_M := (yX12_hardOf, cX12_hardOf, 5, some .int, 0, 0)
def mX12_has : x_M := (yX12_has, cX12_has, 2, some .boolean, 0, 0)
def mX12_held : x_M := (yX12_held, cX12_held, 4, some .int, 0, 0)
def mX12_hourAt : x_M := (yX12_hourAt, cX12_hourAt, 3, some .int, 0, 0)
def mX12_hourBy : x_M := (yX12_hourBy, cX12_hourBy, 3, some .int, 0, 0)
def mX12_house : x_M := (yX12_house, cX12_house, 3, some .int, 0, 0)
def mX12_image : x_M := (yX12_image, cX12_image, 1, some .int, 0, 0)
def mX12_in : x_M := (yX12_in, cX12_in, 3, some .boolean, 0, 0)
def mX12_isAhead : x_M := (yX12_isAhead, cX12_isAhead, 4, some .boolean, 0, 0)
def mX12_isAsking : x_M := (yX12_isAsking, cX12_isAsking, 1, some .boolean, 0, 0)
def mX12_isHouse : x_M := (yX12_isHouse, cX12_isHouse, 2, some .boolean, 0, 0)
def mX12_isLetter : x_M := (yX12_isLetter, cX12_isLetter, 1, some .boolean, 0, 0)
def mX12_isSign : x_M := (yX12_isSign, cX12_isSign, 2, some .boolean, 0, 0)
def mX12_isWanted : x_M := (yX12_isWanted, cX12_isWanted, 3, some .boolean, 0, 0)
def mX12_isWord : x_M := (yX12_isWord, cX12_isWord, 2, some .boolean, 0, 0)
def mX12_keepsNow : x_M := (yX12_keepsNow, cX12_keepsNow, 2, none, 0, 0)
def mX12_keepsStep : x_M := (yX12_keepsStep, cX12_keepsStep, 2, none, 0, 0)
def mX12_lane : x_M := (yX12_lane, cX12_lane, 4, some .boolean, 0, 0)
def mX12_laysFar : x_M := (yX12_laysFar, cX12_laysFar, 4, none, 0, 0)
def mX12_laysNow : x_M := (yX12_laysNow, cX12_laysNow, 2, none, 0, 0)
def mX12_laysPushing : x_M := (yX12_laysPushing, cX12_laysPushing, 7, none, 0, 0)
def mX12_laysYet : x_M := (yX12_laysYet, cX12_laysYet, 5, none, 0, 0)
def mX12_least : x_M := (yX12_least, cX12_least, 7, some .int, 0, 0)
def mX12_lies : x_M := (yX12_lies, cX12_lies, 2, none, 0, 0)
def mX12_lost : x_M := (yX12_lost, cX12_lost, 5, some .int, 0, 0)
def mX12_many : x_M := (yX12_many, cX12_many, 3, some .int, 0, 0)
def mX12_mayName : x_M := (yX12_mayName, cX12_mayName, 2, some .boolean, 0, 0)
def mX12_mend : x_M := (yX12_mend, cX12_mend, 1, some .boolean, 0, 0)
def mX12_minute : x_M := (yX12_minute, cX12_minute, 4, some .int, 0, 0)
def mX12_minutePasses : x_M := (yX12_minutePasses, cX12_minutePasses, 4, some .int, 0, 0)
def mX12_minutes : x_M := (yX12_minutes, cX12_minutes, 3, some .boolean, 0, 0)
def mX12_nameNow : x_M := (yX12_nameNow, cX12_nameNow, 1, some .int, 0, 0)
def mX12_names : x_M := (yX12_names, cX12_names, 2, none, 0, 0)
def mX12_next : x_M := (yX12_next, cX12_next, 5, none, 0, 0)
def mX12_number : x_M := (yX12_number, cX12_number, 4, some .int, 0, 0)
def mX12_numberBehind : x_M := (yX12_numberBehind, cX12_numberBehind, 4, some .int, 0, 0)
def mX12_of : x_M := (yX12_of, cX12_of, 3, some .int, 0, 0)
def mX12_oneIsOver : x_M := (yX12_oneIsOver, cX12_oneIsOver, 1, none, 0, 0)
def mX12_opensFrame : x_M := (yX12_opensFrame, cX12_opensFrame, 2, none, 0, 0)
def mX12_opensSign : x_M := (yX12_opensSign, cX12_opensSign, 2, some .boolean, 0, 0)
def mX12_ordersOf : x_M := (yX12_ordersOf, cX12_ordersOf, 5, some .int, 0, 0)
def mX12_played : x_M := (yX12_played, cX12_played, 7, some .int, 0, 0)
def mX12_push : x_M := (yX12_push, cX12_push, 3, some .int, 0, 0)
def mX12_pusher : x_M := (yX12_pusher, cX12_pusher, 3, some .int, 0, 0)
def mX12_pushes : x_M := (yX12_pushes, cX12_pushes, 3, none, 0, 0)
def mX12_put : x_M := (yX12_put, cX12_put, 3, none, 0, 0)
def mX12_rank : x_M := (yX12_rank, cX12_rank, 1, some .int, 0, 0)
def mX12_rolls : x_M := (yX12_rolls, cX12_rolls, 3, none, 0, 0)
def mX12_route : x_M := (yX12_route, cX12_route, 5, some .int, 0, 0)
def mX12_saysOf : x_M := (yX12_saysOf, cX12_saysOf, 5, some .long, 0, 0)
def mX12_text : x_M := (yX12_text, cX12_text, 4, some .int, 0, 0)
def mX12_thieves : x_M := (yX12_thieves, cX12_thieves, 3, some .int, 0, 0)
def mX12_tip : x_M := (yX12_tip, cX12_tip, 1, some .boolean, 0, 0)
def mX12_tips : x_M := (yX12_tips, cX12_tips, 1, none, 0, 0)
def mX12_top : x_M := (yX12_top, cX12_top, 1, some .int, 0, 0)
def mX12_turnsTo : x_M := (yX12_turnsTo, cX12_turnsTo, 4, none, 0, 0)
def mX12_two : x_M := (yX12_two, cX12_two, 4, some .int, 0, 0)
def mX12_undo : x_M := (yX12_undo, cX12_undo, 2, some .int, 0, 0)
def mX12_waitsFor : x_M := (yX12_waitsFor, cX12_waitsFor, 2, none, 0, 0)
def mX12_want : x_M := (yX12_want, cX12_want, 3, some .int, 0, 0)
def mX12_warmOf : x_M := (yX12_warmOf, cX12_warmOf, 4, some .int, 0, 0)
def mX12_wasTold : x_M := (yX12_wasTold, cX12_wasTold, 4, some .boolean, 0, 0)
def mX12_watch : x_M := (yX12_watch, cX12_watch, 5, some .int, 0, 0)
def mX12_watchedBy : x_M := (yX12_watchedBy, cX12_watchedBy, 7, some .int, 0, 0)
def mX12_wearsNow : x_M := (yX12_wearsNow, cX12_wearsNow, 2, some .int, 0, 0)
def mX12_weight : x_M := (yX12_weight, cX12_weight, 3, some .boolean, 0, 0)
def mX12_winner : x_M := (yX12_winner, cX12_winner, 4, some .int, 0, 0)
def mX12_wordOf : x_M := (yX12_wordOf, cX12_wordOf, 2, some .int, 0, 0)
def mX12_worked : x_M := (yX12_worked, cX12_worked, 6, some .long, 0, 0)
def mX12_works : x_M := (yX12_works, cX12_works, 2, none, 0, 0)
def mX12_writes : x_M := (yX12_writes, cX12_writes, 3, none, 0, 0)
def mX12_yard : x_M := (yX12_yard, cX12_yard, 4, some .int, 0, 0)
def mX12_years : x_M := (yX12_years, cX12_years, 4, some .int, 0, 0)
def mX1_copyFrom : x_M := (yX1_copyFrom, cX1_copyFrom, 2, none, 0, 0)
def mX1_debtWritten : x_M := (yX1_debtWritten, cX1_debtWritten, 3, some .int, 0, 0)
def mX1_draw : x_M := (yX1_draw, cX1_draw, 3, some .int, 0, 0)
def mX1_lieAt : x_M := (yX1_lieAt, cX1_lieAt, 2, none, 0, 0)
def mX1_paleOf : x_M := (yX1_paleOf, cX1_paleOf, 2, some .int, 0, 0)
def mX1_purseOf : x_M := (yX1_purseOf, cX1_purseOf, 2, some .int, 0, 0)
def mX1_writeDebt : x_M := (yX1_writeDebt, cX1_writeDebt, 4, none, 0, 0)
def mX2_canSetOff : x_M := (yX2_canSetOff, cX2_canSetOff, 4, some .boolean, 0, 0)
def mX2_doAsDrawn : x_M := (yX2_doAsDrawn, cX2_doAsDrawn, 2, none, 0, 0)
def mX2_fallsInDebt : x_M := (yX2_fallsInDebt, cX2_fallsInDebt, 7, some .boolean, 0, 0)
def mX2_passMinute : x_M := (yX2_passMinute, cX2_passMinute, 4, some .int, 0, 0)
def mX2_roll : x_M := (yX2_roll, cX2_roll, 2, none, 0, 0)
def mX2_setOff : x_M := (yX2_setOff, cX2_setOff, 4, none, 0, 0)
def mX2_setOffAsDrawn : x_M := (yX2_setOffAsDrawn, cX2_setOffAsDrawn, 4, none, 0, 0)
def mX2_tipOver : x_M := (yX2_tipOver, cX2_tipOver, 2, none, 0, 0)
def mX3_addHouse : x_M := (yX3_addHouse, cX3_addHouse, 2, some .int, 0, 0)
def mX3_addPusher : x_M := (yX3_addPusher, cX3_addPusher, 2, some .int, 0, 0)
def mX3_copyFrom : x_M := (yX3_copyFrom, cX3_copyFrom, 2, none, 0, 0)
def mX3_hillOf : x_M := (yX3_hillOf, cX3_hillOf, 2, some .int, 0, 0)
def mX3_hourBy : x_M := (yX3_hourBy, cX3_hourBy, 4, some .int, 0, 0)
def mX3_isHouse : x_M := (yX3_isHouse, cX3_isHouse, 2, some .boolean, 0, 0)
def mX3_isPusher : x_M := (yX3_isPusher, cX3_isPusher, 2, some .boolean, 0, 0)
def mX3_laneBetween : x_M := (yX3_laneBetween, cX3_laneBetween, 3, some .int, 0, 0)
def mX3_measure : x_M := (yX3_measure, cX3_measure, 4, none, 0, 0)
def mX3_noteDown : x_M := (yX3_noteDown, cX3_noteDown, 6, some .int, 0, 0)
def mX3_setLane : x_M := (yX3_setLane, cX3_setLane, 4, none, 0, 0)
def mX3_shorten : x_M := (yX3_shorten, cX3_shorten, 6, none, 0, 0)
def mX3_strengthOf : x_M := (yX3_strengthOf, cX3_strengthOf, 2, some .int, 0, 0)
def mX3_wayBetween : x_M := (yX3_wayBetween, cX3_wayBetween, 3, some .int, 0, 0)
def mX4_earning : x_M := (yX4_earning, cX4_earning, 4, some .int, 0, 0)
def mX4_hardness : x_M := (yX4_hardness, cX4_hardness, 6, some .int, 0, 0)
def mX4_joined : x_M := (yX4_joined, cX4_joined, 5, some .int, 0, 0)
def mX4_lay : x_M := (yX4_lay, cX4_lay, 2, none, 0, 0)
def mX4_lift : x_M := (yX4_lift, cX4_lift, 1, some .int, 0, 0)
def mX4_nameHere : x_M := (yX4_nameHere, cX4_nameHere, 3, none, 0, 0)
def mX4_rules : x_M := (yX4_rules, cX4_rules, 2, some .boolean, 0, 0)
def mX4_said : x_M := (yX4_said, cX4_said, 9, some .int, 0, 0)
def mX4_warmth : x_M := (yX4_warmth, cX4_warmth, 4, some .int, 0, 0)
def mX4_wearing : x_M := (yX4_wearing, cX4_wearing, 2, some .int, 0, 0)
def mX5_copyFrom : x_M := (yX5_copyFrom, cX5_copyFrom, 2, none, 0, 0)
def mX6_compares : x_M := (yX6_compares, cX6_compares, 1, some .boolean, 0, 0)
def mX6_expect : x_M := (yX6_expect, cX6_expect, 2, none, 0, 0)
def mX6_expectNumber : x_M := (yX6_expectNumber, cX6_expectNumber, 4, some .int, 0, 0)
def mX6_isNext : x_M := (yX6_isNext, cX6_isNext, 2, some .boolean, 0, 0)
def mX6_opens : x_M := (yX6_opens, cX6_opens, 2, some .boolean, 0, 0)
def mX6_read : x_M := (yX6_read, cX6_read, 3, none, 0, 0)
def mX6_readAsk : x_M := (yX6_readAsk, cX6_readAsk, 3, none, 0, 0)
def mX6_readBoth : x_M := (yX6_readBoth, cX6_readBoth, 3, none, 0, 0)
def mX6_readClause : x_M := (yX6_readClause, cX6_readClause, 3, none, 0, 0)
def mX6_readDeed : x_M := (yX6_readDeed, cX6_readDeed, 5, none, 0, 0)
def mX6_readEither : x_M := (yX6_readEither, cX6_readEither, 3, none, 0, 0)
def mX6_readFar : x_M := (yX6_readFar, cX6_readFar, 2, none, 0, 0)
def mX6_readIf : x_M := (yX6_readIf, cX6_readIf, 4, none, 0, 0)
def mX6_readName : x_M := (yX6_readName, cX6_readName, 3, none, 0, 0)
def mX6_readOne : x_M := (yX6_readOne, cX6_readOne, 2, none, 0, 0)
def mX6_readProduct : x_M := (yX6_readProduct, cX6_readProduct, 4, none, 0, 0)
def mX6_readSum : x_M := (yX6_readSum, cX6_readSum, 4, none, 0, 0)
def mX6_refuse : x_M := (yX6_refuse, cX6_refuse, 2, none, 0, 0)
def mX7_copyFrom : x_M := (yX7_copyFrom, cX7_copyFrom, 5, none, 0, 0)
def mX7_dayAt : x_M := (yX7_dayAt, cX7_dayAt, 3, some (.object "NoonOnABarrow$Day"), 0, 0)
def mX7_keep : x_M := (yX7_keep, cX7_keep, 3, none, 0, 0)
def mX7_takeBack : x_M := (yX7_takeBack, cX7_takeBack, 3, some .int, 0, 0)
def mX8_addFour : x_M := (yX8_addFour, cX8_addFour, 3, none, 0, 0)
def mX8_byteAt : x_M := (yX8_byteAt, cX8_byteAt, 2, some .int, 0, 0)
def mX8_cut : x_M := (yX8_cut, cX8_cut, 4, none, 0, 0)
def mX8_cutNumber : x_M := (yX8_cutNumber, cX8_cutNumber, 4, some .int, 0, 0)
def mX8_cutSign : x_M := (yX8_cutSign, cX8_cutSign, 4, some .int, 0, 0)
def mX8_cutWord : x_M := (yX8_cutWord, cX8_cutWord, 3, some .int, 0, 0)
def mX8_isDigit : x_M := (yX8_isDigit, cX8_isDigit, 1, some .boolean, 0, 0)
def mX8_isLetter : x_M := (yX8_isLetter, cX8_isLetter, 1, some .boolean, 0, 0)
def mX8_kindAt : x_M := (yX8_kindAt, cX8_kindAt, 2, some .int, 0, 0)
def mX8_note : x_M := (yX8_note, cX8_note, 4, none, 0, 0)
def mX8_placeAt : x_M := (yX8_placeAt, cX8_placeAt, 2, some .int, 0, 0)
def mX8_valueAt : x_M := (yX8_valueAt, cX8_valueAt, 2, some .int, 0, 0)
def mX8_wordOf : x_M := (yX8_wordOf, cX8_wordOf, 7, some .int, 0, 0)
def mX9_addClause : x_M := (yX9_addClause, cX9_addClause, 5, none, 0, 0)
def mX9_ask : x_M := (yX9_ask, cX9_ask, 3, some .int, 0, 0)
def mX9_empty : x_M := (yX9_empty, cX9_empty, 2, none, 0, 0)
def mX9_givenAt : x_M := (yX9_givenAt, cX9_givenAt, 2, some .int, 0, 0)
def mX9_goOnHere : x_M := (yX9_goOnHere, cX9_goOnHere, 2, none, 0, 0)
def mX9_hasLaw : x_M := (yX9_hasLaw, cX9_hasLaw, 2, some .boolean, 0, 0)
def mX9_lawEnd : x_M := (yX9_lawEnd, cX9_lawEnd, 2, some .int, 0, 0)
def mX9_lawStart : x_M := (yX9_lawStart, cX9_lawStart, 2, some .int, 0, 0)
def mX9_setLaw : x_M := (yX9_setLaw, cX9_setLaw, 3, none, 0, 0)
def mX9_stepAt : x_M := (yX9_stepAt, cX9_stepAt, 2, some .int, 0, 0)
theorem sh_0 : x_sh 0 = (11, 18) := by decide +kernel
theorem sh_1 : x_sh 1 = (3, 9) := by decide +kernel
theorem sh_2 : x_sh 2 = (20, 8) := by decide +kernel
theorem sh_3 : x_sh 3 = (20, 8) := by decide +kernel
theorem sh_4 : x_sh 4 = (20, 4) := by decide +kernel
theorem sh_5 : x_sh 5 = (20, 64) := by decide +kernel
theorem sh_6 : x_sh 6 = (20, 64) := by decide +kernel
theorem sh_7 : x_sh 7 = (5, 3) := by decide +kernel
theorem sh_8 : x_sh 8 = (20, 8) := by decide +kernel
theorem sh_9 : x_sh 9 = (20, 8) := by decide +kernel
theorem sh_10 : x_sh 10 = (5, 3) := by decide +kernel
theorem sh_11 : x_sh 11 = (20, 8) := by decide +kernel
theorem sh_12 : x_sh 12 = (20, 8) := by decide +kernel
theorem sh_13 : x_sh 13 = (1, 11) := by decide +kernel
theorem sh_17 : x_sh 17 = (7, 3) := by decide +kernel
theorem sh_139 : x_sh 139 = (23, 4) := by decide +kernel
theorem sh_176 : x_sh 176 = (3, 9) := by decide +kernel
theorem sh_188 : x_sh 188 = (1, 11) := by decide +kernel
theorem sh_192 : x_sh 192 = (7, 3) := by decide +kernel
theorem sh_314 : x_sh 314 = (8, 6) := by decide +kernel
theorem sh_315 : x_sh 315 = (20, 300) := by decide +kernel
theorem sh_316 : x_sh 316 = (20, 301) := by decide +kernel
theorem sh_317 : x_sh 317 = (20, 301) := by decide +kernel
theorem sh_318 : x_sh 318 = (20, 301) := by decide +kernel
theorem sh_319 : x_sh 319 = (6, 6) := by decide +kernel
theorem sh_329 : x_sh 329 = (4, 5) := by decide +kernel
theorem sh_330 : x_sh 330 = (20, 32) := by decide +kernel
theorem sh_331 : x_sh 331 = (20, 64) := by decide +kernel
theorem sh_332 : x_sh 332 = (2, 2) := by decide +kernel
theorem sh_333 : x_sh 333 = (10, 10) := by decide +kernel
theorem sh_334 : x_sh 334 = (20, 72) := by decide +kernel
theorem sh_335 : x_sh 335 = (20, 72) := by decide +kernel
theorem sh_336 : x_sh 336 = (20, 64) := by decide +kernel
theorem sh_337 : x_sh 337 = (20, 8) := by decide +kernel
theorem sh_338 : x_sh 338 = (20, 8) := by decide +kernel
theorem sh_339 : x_sh 339 = (0, 3) := by decide +kernel
theorem sh_340 : x_sh 340 = (20, 8) := by decide +kernel
theorem sh_341 : x_sh 341 = (1, 11) := by decide +kernel
theorem sh_345 : x_sh 345 = (12, 47) := by decide +kernel
theorem sh_346 : x_sh 346 = (20, 3670) := by decide +kernel
theorem sh_347 : x_sh 347 = (20, 3670) := by decide +kernel
theorem sh_348 : x_sh 348 = (21, 300) := by decide +kernel
theorem sh_349 : x_sh 349 = (20, 4) := by decide +kernel
theorem sh_350 : x_sh 350 = (20, 96) := by decide +kernel
theorem sh_351 : x_sh 351 = (20, 96) := by decide +kernel
theorem sh_352 : x_sh 352 = (20, 96) := by decide +kernel
theorem sh_353 : x_sh 353 = (20, 96) := by decide +kernel
theorem sh_354 : x_sh 354 = (20, 96) := by decide +kernel
theorem sh_355 : x_sh 355 = (20, 1600) := by decide +kernel
theorem sh_356 : x_sh 356 = (20, 1600) := by decide +kernel
theorem sh_357 : x_sh 357 = (20, 40) := by decide +kernel
theorem sh_358 : x_sh 358 = (20, 41) := by decide +kernel
theorem sh_359 : x_sh 359 = (20, 80) := by decide +kernel
theorem sh_360 : x_sh 360 = (20, 80) := by decide +kernel
theorem sh_361 : x_sh 361 = (20, 41) := by decide +kernel
theorem sh_362 : x_sh 362 = (20, 24) := by decide +kernel
theorem sh_363 : x_sh 363 = (20, 24) := by decide +kernel
theorem sh_364 : x_sh 364 = (20, 24) := by decide +kernel
theorem sh_365 : x_sh 365 = (20, 24) := by decide +kernel
theorem sh_366 : x_sh 366 = (20, 24) := by decide +kernel
theorem sh_367 : x_sh 367 = (20, 400) := by decide +kernel
theorem sh_368 : x_sh 368 = (20, 400) := by decide +kernel
theorem sh_369 : x_sh 369 = (20, 64) := by decide +kernel
theorem sh_370 : x_sh 370 = (20, 114) := by decide +kernel
theorem sh_371 : x_sh 371 = (20, 12) := by decide +kernel
theorem sh_372 : x_sh 372 = (22, 200) := by decide +kernel
theorem sh_373 : x_sh 373 = (20, 72) := by decide +kernel
theorem sh_374 : x_sh 374 = (20, 8) := by decide +kernel
theorem sh_375 : x_sh 375 = (20, 8) := by decide +kernel
theorem shd_1_1 {o : Nat} (h : x_sh o = (1, 11)) : x_sh (o + 1) = (20, 8) := (by decide +kernel : ∀ o, o < 376 → x_sh o = (1, 11) → x_sh (o + 1) = (20, 8)) o (x_sh_lt h (by decide)) h
theorem shd_1_2 {o : Nat} (h : x_sh o = (1, 11)) : x_sh (o + 2) = (20, 8) := (by decide +kernel : ∀ o, o < 376 → x_sh o = (1, 11) → x_sh (o + 2) = (20, 8)) o (x_sh_lt h (by decide)) h
theorem shd_1_3 {o : Nat} (h : x_sh o = (1, 11)) : x_sh (o + 3) = (20, 90) := (by decide +kernel : ∀ o, o < 376 → x_sh o = (1, 11) → x_sh (o + 3) = (20, 90)) o (x_sh_lt h (by decide)) h
theorem shd_3_1 {o : Nat} (h : x_sh o = (3, 9)) : x_sh (o + 1) = (20, 8) := (by decide +kernel : ∀ o, o < 376 → x_sh o = (3, 9) → x_sh (o + 1) = (20, 8)) o (x_sh_lt h (by decide)) h
theorem shd_3_2 {o : Nat} (h : x_sh o = (3, 9)) : x_sh (o + 2) = (20, 8) := (by decide +kernel : ∀ o, o < 376 → x_sh o = (3, 9) → x_sh (o + 2) = (20, 8)) o (x_sh_lt h (by decide)) h
theorem shd_3_3 {o : Nat} (h : x_sh o = (3, 9)) : x_sh (o + 3) = (20, 4) := (by decide +kernel : ∀ o, o < 376 → x_sh o = (3, 9) → x_sh (o + 3) = (20, 4)) o (x_sh_lt h (by decide)) h
theorem shd_3_4 {o : Nat} (h : x_sh o = (3, 9)) : x_sh (o + 4) = (20, 64) := (by decide +kernel : ∀ o, o < 376 → x_sh o = (3, 9) → x_sh (o + 4) = (20, 64)) o (x_sh_lt h (by decide)) h
theorem shd_3_5 {o : Nat} (h : x_sh o = (3, 9)) : x_sh (o + 5) = (20, 64) := (by decide +kernel : ∀ o, o < 376 → x_sh o = (3, 9) → x_sh (o + 5) = (20, 64)) o (x_sh_lt h (by decide)) h
theorem shd_3_6 {o : Nat} (h : x_sh o = (3, 9)) : x_sh (o + 6) = (5, 3) := (by decide +kernel : ∀ o, o < 376 → x_sh o = (3, 9) → x_sh (o + 6) = (5, 3)) o (x_sh_lt h (by decide)) h
theorem shd_3_9 {o : Nat} (h : x_sh o = (3, 9)) : x_sh (o + 9) = (5, 3) := (by decide +kernel : ∀ o, o < 376 → x_sh o = (3, 9) → x_sh (o + 9) = (5, 3)) o (x_sh_lt h (by decide)) h
theorem shd_5_1 {o : Nat} (h : x_sh o = (5, 3)) : x_sh (o + 1) = (20, 8) := (by decide +kernel : ∀ o, o < 376 → x_sh o = (5, 3) → x_sh (o + 1) = (20, 8)) o (x_sh_lt h (by decide)) h
theorem shd_5_2 {o : Nat} (h : x_sh o = (5, 3)) : x_sh (o + 2) = (20, 8) := (by decide +kernel : ∀ o, o < 376 → x_sh o = (5, 3) → x_sh (o + 2) = (20, 8)) o (x_sh_lt h (by decide)) h
theorem shd_7_1 {o : Nat} (h : x_sh o = (7, 3)) : x_sh (o + 1) = (24, 30) := (by decide +kernel : ∀ o, o < 376 → x_sh o = (7, 3) → x_sh (o + 1) = (24, 30)) o (x_sh_lt h (by decide)) h
theorem shd_9_1 {o : Nat} (h : x_sh o = (9, 10)) : x_sh (o + 1) = (20, 24) := (by decide +kernel : ∀ o, o < 376 → x_sh o = (9, 10) → x_sh (o + 1) = (20, 24)) o (x_sh_lt h (by decide)) h
theorem shd_9_2 {o : Nat} (h : x_sh o = (9, 10)) : x_sh (o + 2) = (20, 24) := (by decide +kernel : ∀ o, o < 376 → x_sh o = (9, 10) → x_sh (o + 2) = (20, 24)) o (x_sh_lt h (by decide)) h
theorem shd_9_3 {o : Nat} (h : x_sh o = (9, 10)) : x_sh (o + 3) = (20, 24) := (by decide +kernel : ∀ o, o < 376 → x_sh o = (9, 10) → x_sh (o + 3) = (20, 24)) o (x_sh_lt h (by decide)) h
theorem shd_9_4 {o : Nat} (h : x_sh o = (9, 10)) : x_sh (o + 4) = (20, 24) := (by decide +kernel : ∀ o, o < 376 → x_sh o = (9, 10) → x_sh (o + 4) = (20, 24)) o (x_sh_lt h (by decide)) h
theorem shd_9_5 {o : Nat} (h : x_sh o = (9, 10)) : x_sh (o + 5) = (20, 4) := (by decide +kernel : ∀ o, o < 376 → x_sh o = (9, 10) → x_sh (o + 5) = (20, 4)) o (x_sh_lt h (by decide)) h
theorem shd_9_6 {o : Nat} (h : x_sh o = (9, 10)) : x_sh (o + 6) = (20, 4) := (by decide +kernel : ∀ o, o < 376 → x_sh o = (9, 10) → x_sh (o + 6) = (20, 4)) o (x_sh_lt h (by decide)) h
theorem shd_9_7 {o : Nat} (h : x_sh o = (9, 10)) : x_sh (o + 7) = (20, 300) := (by decide +kernel : ∀ o, o < 376 → x_sh o = (9, 10) → x_sh (o + 7) = (20, 300)) o (x_sh_lt h (by decide)) h
theorem shd_9_8 {o : Nat} (h : x_sh o = (9, 10)) : x_sh (o + 8) = (20, 300) := (by decide +kernel : ∀ o, o < 376 → x_sh o = (9, 10) → x_sh (o + 8) = (20, 300)) o (x_sh_lt h (by decide)) h
theorem gr_0_0 {o : Nat} {τ : x_T} (h : x_sh o = (0, 3)) : (x_fu τ).2.2 o 0 = some (1) := x_fu_r h (by unfold x_gr; rw [h]; rfl) ⟨fun g => by first | exact absurd g.2 (by decide) | (rw [g.1] at h; exact absurd h (by decide +kernel)), fun g => by first | exact absurd g.2 (by decide) | (rw [g.1] at h; exact absurd h (by decide +kernel))⟩
theorem gr_0_1 {o : Nat} {τ : x_T} (h : x_sh o = (0, 3)) : (x_fu τ).2.2 o 1 = some (329) := x_fu_r h (by unfold x_gr; rw [h]; rfl) ⟨fun g => by first | exact absurd g.2 (by decide) | (rw [g.1] at h; exact absurd h (by decide +kernel)), fun g => by first | exact absurd g.2 (by decide) | (rw [g.1] at h; exact absurd h (by decide +kernel))⟩
theorem gr_0_2 {o : Nat} {τ : x_T} (h : x_sh o = (0, 3)) : (x_fu τ).2.2 o 2 = some (o + 1) := x_fu_r h (by unfold x_gr; rw [h]; rfl) ⟨fun g => by first | exact absurd g.2 (by decide) | (rw [g.1] at h; exact absurd h (by decide +kernel)), fun g => by first | exact absurd g.2 (by decide) | (rw [g.1] at h; exact absurd h (by decide +kernel))⟩
theorem gr_1_7 {o : Nat} {τ : x_T} (h : x_sh o = (1, 11)) : (x_fu τ).2.2 o 7 = some (o + 1) := x_fu_r h (by unfold x_gr; rw [h]; rfl) ⟨fun g => by first | exact absurd g.2 (by decide) | (rw [g.1] at h; exact absurd h (by decide +kernel)), fun g => by first | exact absurd g.2 (by decide) | (rw [g.1] at h; exact absurd h (by decide +kernel))⟩
theorem gr_1_8 {o : Nat} {τ : x_T} (h : x_sh o = (1, 11)) : (x_fu τ).2.2 o 8 = some (o + 2) := x_fu_r h (by unfold x_gr; rw [h]; rfl) ⟨fun g => by first | exact absurd g.2 (by decide) | (rw [g.1] at h; exact absurd h (by decide +kernel)), fun g => by first | exact absurd g.2 (by decide) | (rw [g.1] at h; exact absurd h (by decide +kernel))⟩
theorem gr_1_10 {o : Nat} {τ : x_T} (h : x_sh o = (1, 11)) : (x_fu τ).2.2 o 10 = some (o + 3) := x_fu_r h (by unfold x_gr; rw [h]; rfl) ⟨fun g => by first | exact absurd g.2 (by decide) | (rw [g.1] at h; exact absurd h (by decide +kernel)), fun g => by first | exact absurd g.2 (by decide) | (rw [g.1] at h; exact absurd h (by decide +kernel))⟩
theorem gr_2_0 {o : Nat} {τ : x_T} (h : x_sh o = (2, 2)) : (x_fu τ).2.2 o 0 = some (1) := x_fu_r h (by unfold x_gr; rw [h]; rfl) ⟨fun g => by first | exact absurd g.2 (by decide) | (rw [g.1] at h; exact absurd h (by decide +kernel)), fun g => by first | exact absurd g.2 (by decide) | (rw [g.1] at h; exact absurd h (by decide +kernel))⟩
theorem gr_2_1 {o : Nat} {τ : x_T} (h : x_sh o = (2, 2)) : (x_fu τ).2.2 o 1 = some (329) := x_fu_r h (by unfold x_gr; rw [h]; rfl) ⟨fun g => by first | exact absurd g.2 (by decide) | (rw [g.1] at h; exact absurd h (by decide +kernel)), fun g => by first | exact absurd g.2 (by decide) | (rw [g.1] at h; exact absurd h (by decide +kernel))⟩
theorem gr_3_2 {o : Nat} {τ : x_T} (h : x_sh o = (3, 9)) : (x_fu τ).2.2 o 2 = some (o + 1) := x_fu_r h (by unfold x_gr; rw [h]; rfl) ⟨fun g => by first | exact absurd g.2 (by decide) | (rw [g.1] at h; exact absurd h (by decide +kernel)), fun g => by first | exact absurd g.2 (by decide) | (rw [g.1] at h; exact absurd h (by decide +kernel))⟩
theorem gr_3_3 {o : Nat} {τ : x_T} (h : x_sh o = (3, 9)) : (x_fu τ).2.2 o 3 = some (o + 2) := x_fu_r h (by unfold x_gr; rw [h]; rfl) ⟨fun g => by first | exact absurd g.2 (by decide) | (rw [g.1] at h; exact absurd h (by decide +kernel)), fun g => by first | exact absurd g.2 (by decide) | (rw [g.1] at h; exact absurd h (by decide +kernel))⟩
theorem gr_3_4 {o : Nat} {τ : x_T} (h : x_sh o = (3, 9)) : (x_fu τ).2.2 o 4 = some (o + 3) := x_fu_r h (by unfold x_gr; rw [h]; rfl) ⟨fun g => by first | exact absurd g.2 (by decide) | (rw [g.1] at h; exact absurd h (by decide +kernel)), fun g => by first | exact absurd g.2 (by decide) | (rw [g.1] at h; exact absurd h (by decide +kernel))⟩
theorem gr_3_5 {o : Nat} {τ : x_T} (h : x_sh o = (3, 9)) : (x_fu τ).2.2 o 5 = some (o + 4) := x_fu_r h (by unfold x_gr; rw [h]; rfl) ⟨fun g => by first | exact absurd g.2 (by decide) | (rw [g.1] at h; exact absurd h (by decide +kernel)), fun g => by first | exact absurd g.2 (by decide) | (rw [g.1] at h; exact absurd h (by decide +kernel))⟩
theorem gr_3_6 {o : Nat} {τ : x_T} (h : x_sh o = (3, 9)) : (x_fu τ).2.2 o 6 = some (o + 5) := x_fu_r h (by unfold x_gr; rw [h]; rfl) ⟨fun g => by first | exact absurd g.2 (by decide) | (rw [g.1] at h; exact absurd h (by decide +kernel)), fun g => by first | exact absurd g.2 (by decide) | (rw [g.1] at h; exact absurd h (by decide +kernel))⟩
theorem gr_3_7 {o : Nat} {τ : x_T} (h : x_sh o = (3, 9)) : (x_fu τ).2.2 o 7 = some (o + 6) := x_fu_r h (by unfold x_gr; rw [h]; rfl) ⟨fun g => by first | exact absurd g.2 (by decide) | (rw [g.1] at h; exact absurd h (by decide +kernel)), fun g => by first | exact absurd g.2 (by decide) | (rw [g.1] at h; exact absurd h (by decide +kernel))⟩
theorem gr_3_8 {o : Nat} {τ : x_T} (h : x_sh o = (3, 9)) : (x_fu τ).2.2 o 8 = some (o + 9) := x_fu_r h (by unfold x_gr; rw [h]; rfl) ⟨fun g => by first | exact absurd g.2 (by decide) | (rw [g.1] at h; exact absurd h (by decide +kernel)), fun g => by first | exact absurd g.2 (by decide) | (rw [g.1] at h; exact absurd h (by decide +kernel))⟩
theorem gr_4_0 {o : Nat} {τ : x_T} (h : x_sh o = (4, 5)) : (x_fu τ).2.2 o 0 = some (1) := x_fu_r h (by unfold x_gr; rw [h]; rfl) ⟨fun g => by first | exact absurd g.2 (by decide) | (rw [g.1] at h; exact absurd h (by decide +kernel)), fun g => by first | exact absurd g.2 (by decide) | (rw [g.1] at h; exact absurd h (by decide +kernel))⟩
theorem gr_4_1 {o : Nat} {τ : x_T} (h : x_sh o = (4, 5)) : (x_fu τ).2.2 o 1 = some (o + 1) := x_fu_r h (by unfold x_gr; rw [h]; rfl) ⟨fun g => by first | exact absurd g.2 (by decide) | (rw [g.1] at h; exact absurd h (by decide +kernel)), fun g => by first | exact absurd g.2 (by decide) | (rw [g.1] at h; exact absurd h (by decide +kernel))⟩
theorem gr_4_2 {o : Nat} {τ : x_T} (h : x_sh o = (4, 5)) : (x_fu τ).2.2 o 2 = some (o + 2) := x_fu_r h (by unfold x_gr; rw [h]; rfl) ⟨fun g => by first | exact absurd g.2 (by decide) | (rw [g.1] at h; exact absurd h (by decide +kernel)), fun g => by first | exact absurd g.2 (by decide) | (rw [g.1] at h; exact absurd h (by decide +kernel))⟩
theorem gr_5_0 {o : Nat} {τ : x_T} (h : x_sh o = (5, 3)) : (x_fu τ).2.2 o 0 = some (o + 1) := x_fu_r h (by unfold x_gr; rw [h]; rfl) ⟨fun g => by first | exact absurd g.2 (by decide) | (rw [g.1] at h; exact absurd h (by decide +kernel)), fun g => by first | exact absurd g.2 (by decide) | (rw [g.1] at h; exact absurd h (by decide +kernel))⟩
theorem gr_5_1 {o : Nat} {τ : x_T} (h : x_sh o = (5, 3)) : (x_fu τ).2.2 o 1 = some (o + 2) := x_fu_r h (by unfold x_gr; rw [h]; rfl) ⟨fun g => by first | exact absurd g.2 (by decide) | (rw [g.1] at h; exact absurd h (by decide +kernel)), fun g => by first | exact absurd g.2 (by decide) | (rw [g.1] at h; exact absurd h (by decide +kernel))⟩
theorem gr_6_0 {o : Nat} {τ : x_T} (h : x_sh o = (6, 6)) : (x_fu τ).2.2 o 0 = some (314) := x_fu_r h (by unfold x_gr; rw [h]; rfl) ⟨fun g => by first | exact absurd g.2 (by decide) | (rw [g.1] at h; exact absurd h (by decide +kernel)), fun g => by first | exact absurd g.2 (by decide) | (rw [g.1] at h; exact absurd h (by decide +kernel))⟩
theorem gr_7_0 {o : Nat} {τ : x_T} (h : x_sh o = (7, 3)) : (x_fu τ).2.2 o 0 = some (o + 1) := x_fu_r h (by unfold x_gr; rw [h]; rfl) ⟨fun g => by first | exact absurd g.2 (by decide) | (rw [g.1] at h; exact absurd h (by decide +kernel)), fun g => by first | exact absurd g.2 (by decide) | (rw [g.1] at h; exact absurd h (by decide +kernel))⟩
theorem gr_8_0 {o : Nat} {τ : x_T} (h : x_sh o = (8, 6)) : (x_fu τ).2.2 o 0 = some (o + 1) := x_fu_r h (by unfold x_gr; rw [h]; rfl) ⟨fun g => by first | exact absurd g.2 (by decide) | (rw [g.1] at h; exact absurd h (by decide +kernel)), fun g => by first | exact absurd g.2 (by decide) | (rw [g.1] at h; exact absurd h (by decide +kernel))⟩
theorem gr_8_2 {o : Nat} {τ : x_T} (h : x_sh o = (8, 6)) : (x_fu τ).2.2 o 2 = some (o + 2) := x_fu_r h (by unfold x_gr; rw [h]; rfl) ⟨fun g => by first | exact absurd g.2 (by decide) | (rw [g.1] at h; exact absurd h (by decide +kernel)), fun g => by first | exact absurd g.2 (by decide) | (rw [g.1] at h; exact absurd h (by decide +kernel))⟩
theorem gr_8_3 {o : Nat} {τ : x_T} (h : x_sh o = (8, 6)) : (x_fu τ).2.2 o 3 = some (o + 3) := x_fu_r h (by unfold x_gr; rw [h]; rfl) ⟨fun g => by first | exact absurd g.2 (by decide) | (rw [g.1] at h; exact absurd h (by decide +kernel)), fun g => by first | exact absurd g.2 (by decide) | (rw [g.1] at h; exact absurd h (by decide +kernel))⟩
theorem gr_8_4 {o : Nat} {τ : x_T} (h : x_sh o = (8, 6)) : (x_fu τ).2.2 o 4 = some (o + 4) := x_fu_r h (by unfold x_gr; rw [h]; rfl) ⟨fun g => by first | exact absurd g.2 (by decide) | (rw [g.1] at h; exact absurd h (by decide +kernel)), fun g => by first | exact absurd g.2 (by decide) | (rw [g.1] at h; exact absurd h (by decide +kernel))⟩
theorem gr_9_0 {o : Nat} {τ : x_T} (h : x_sh o = (9, 10)) : (x_fu τ).2.2 o 0 = some (o + 1) := x_fu_r h (by unfold x_gr; rw [h]; rfl) ⟨fun g => by first | exact absurd g.2 (by decide) | (rw [g.1] at h; exact absurd h (by decide +kernel)), fun g => by first | exact absurd g.2 (by decide) | (rw [g.1] at h; exact absurd h (by decide +kernel))⟩
theorem gr_9_1 {o : Nat} {τ : x_T} (h : x_sh o = (9, 10)) : (x_fu τ).2.2 o 1 = some (o + 2) := x_fu_r h (by unfold x_gr; rw [h]; rfl) ⟨fun g => by first | exact absurd g.2 (by decide) | (rw [g.1] at h; exact absurd h (by decide +kernel)), fun g => by first | exact absurd g.2 (by decide) | (rw [g.1] at h; exact absurd h (by decide +kernel))⟩
theorem gr_9_2 {o : Nat} {τ : x_T} (h : x_sh o = (9, 10)) : (x_fu τ).2.2 o 2 = some (o + 3) := x_fu_r h (by unfold x_gr; rw [h]; rfl) ⟨fun g => by first | exact absurd g.2 (by decide) | (rw [g.1] at h; exact absurd h (by decide +kernel)), fun g => by first | exact absurd g.2 (by decide) | (rw [g.1] at h; exact absurd h (by decide +kernel))⟩
theorem gr_9_3 {o : Nat} {τ : x_T} (h : x_sh o = (9, 10)) : (x_fu τ).2.2 o 3 = some (o + 4) := x_fu_r h (by unfold x_gr; rw [h]; rfl) ⟨fun g => by first | exact absurd g.2 (by decide) | (rw [g.1] at h; exact absurd h (by decide +kernel)), fun g => by first | exact absurd g.2 (by decide) | (rw [g.1] at h; exact absurd h (by decide +kernel))⟩
theorem gr_9_5 {o : Nat} {τ : x_T} (h : x_sh o = (9, 10)) : (x_fu τ).2.2 o 5 = some (o + 5) := x_fu_r h (by unfold x_gr; rw [h]; rfl) ⟨fun g => by first | exact absurd g.2 (by decide) | (rw [g.1] at h; exact absurd h (by decide +kernel)), fun g => by first | exact absurd g.2 (by decide) | (rw [g.1] at h; exact absurd h (by decide +kernel))⟩
theorem gr_9_6 {o : Nat} {τ : x_T} (h : x_sh o = (9, 10)) : (x_fu τ).2.2 o 6 = some (o + 6) := x_fu_r h (by unfold x_gr; rw [h]; rfl) ⟨fun g => by first | exact absurd g.2 (by decide) | (rw [g.1] at h; exact absurd h (by decide +kernel)), fun g => by first | exact absurd g.2 (by decide) | (rw [g.1] at h; exact absurd h (by decide +kernel))⟩
theorem gr_9_7 {o : Nat} {τ : x_T} (h : x_sh o = (9, 10)) : (x_fu τ).2.2 o 7 = some (o + 7) := x_fu_r h (by unfold x_gr; rw [h]; rfl) ⟨fun g => by first | exact absurd g.2 (by decide) | (rw [g.1] at h; exact absurd h (by decide +kernel)), fun g => by first | exact absurd g.2 (by decide) | (rw [g.1] at h; exact absurd h (by decide +kernel))⟩
theorem gr_9_8 {o : Nat} {τ : x_T} (h : x_sh o = (9, 10)) : (x_fu τ).2.2 o 8 = some (o + 8) := x_fu_r h (by unfold x_gr; rw [h]; rfl) ⟨fun g => by first | exact absurd g.2 (by decide) | (rw [g.1] at h; exact absurd h (by decide +kernel)), fun g => by first | exact absurd g.2 (by decide) | (rw [g.1] at h; exact absurd h (by decide +kernel))⟩
theorem gr_10_0 {o : Nat} {τ : x_T} (h : x_sh o = (10, 10)) : (x_fu τ).2.2 o 0 = some (1) := x_fu_r h (by unfold x_gr; rw [h]; rfl) ⟨fun g => by first | exact absurd g.2 (by decide) | (rw [g.1] at h; exact absurd h (by decide +kernel)), fun g => by first | exact absurd g.2 (by decide) | (rw [g.1] at h; exact absurd h (by decide +kernel))⟩
theorem gr_10_1 {o : Nat} {τ : x_T} (h : x_sh o = (10, 10)) : (x_fu τ).2.2 o 1 = some (329) := x_fu_r h (by unfold x_gr; rw [h]; rfl) ⟨fun g => by first | exact absurd g.2 (by decide) | (rw [g.1] at h; exact absurd h (by decide +kernel)), fun g => by first | exact absurd g.2 (by decide) | (rw [g.1] at h; exact absurd h (by decide +kernel))⟩
theorem gr_10_2 {o : Nat} {τ : x_T} (h : x_sh o = (10, 10)) : (x_fu τ).2.2 o 2 = some (o + 1) := x_fu_r h (by unfold x_gr; rw [h]; rfl) ⟨fun g => by first | exact absurd g.2 (by decide) | (rw [g.1] at h; exact absurd h (by decide +kernel)), fun g => by first | exact absurd g.2 (by decide) | (rw [g.1] at h; exact absurd h (by decide +kernel))⟩
theorem gr_10_3 {o : Nat} {τ : x_T} (h : x_sh o = (10, 10)) : (x_fu τ).2.2 o 3 = some (o + 2) := x_fu_r h (by unfold x_gr; rw [h]; rfl) ⟨fun g => by first | exact absurd g.2 (by decide) | (rw [g.1] at h; exact absurd h (by decide +kernel)), fun g => by first | exact absurd g.2 (by decide) | (rw [g.1] at h; exact absurd h (by decide +kernel))⟩
theorem gr_10_6 {o : Nat} {τ : x_T} (h : x_sh o = (10, 10)) : (x_fu τ).2.2 o 6 = some (o + 3) := x_fu_r h (by unfold x_gr; rw [h]; rfl) ⟨fun g => by first | exact absurd g.2 (by decide) | (rw [g.1] at h; exact absurd h (by decide +kernel)), fun g => by first | exact absurd g.2 (by decide) | (rw [g.1] at h; exact absurd h (by decide +kernel))⟩
theorem gr_10_7 {o : Nat} {τ : x_T} (h : x_sh o = (10, 10)) : (x_fu τ).2.2 o 7 = some (o + 4) := x_fu_r h (by unfold x_gr; rw [h]; rfl) ⟨fun g => by first | exact absurd g.2 (by decide) | (rw [g.1] at h; exact absurd h (by decide +kernel)), fun g => by first | exact absurd g.2 (by decide) | (rw [g.1] at h; exact absurd h (by decide +kernel))⟩
theorem gr_10_8 {o : Nat} {τ : x_T} (h : x_sh o = (10, 10)) : (x_fu τ).2.2 o 8 = some (o + 5) := x_fu_r h (by unfold x_gr; rw [h]; rfl) ⟨fun g => by first | exact absurd g.2 (by decide) | (rw [g.1] at h; exact absurd h (by decide +kernel)), fun g => by first | exact absurd g.2 (by decide) | (rw [g.1] at h; exact absurd h (by decide +kernel))⟩
theorem gr_11_0 {o : Nat} {τ : x_T} (h : x_sh o = (11, 18)) : (x_fu τ).2.2 o 0 = some (1) := x_fu_r h (by unfold x_gr; rw [h]; rfl) ⟨fun g => by first | exact absurd g.2 (by decide) | (rw [g.1] at h; exact absurd h (by decide +kernel)), fun g => by first | exact absurd g.2 (by decide) | (rw [g.1] at h; exact absurd h (by decide +kernel))⟩
theorem gr_11_1 {o : Nat} {τ : x_T} (h : x_sh o = (11, 18)) : (x_fu τ).2.2 o 1 = some (13) := x_fu_r h (by unfold x_gr; rw [h]; rfl) ⟨fun g => by first | exact absurd g.2 (by decide) | (rw [g.1] at h; exact absurd h (by decide +kernel)), fun g => by first | exact absurd g.2 (by decide) | (rw [g.1] at h; exact absurd h (by decide +kernel))⟩
theorem gr_11_2 {o : Nat} {τ : x_T} (h : x_sh o = (11, 18)) : (x_fu τ).2.2 o 2 = some (17) := x_fu_r h (by unfold x_gr; rw [h]; rfl) ⟨fun g => by first | exact absurd g.2 (by decide) | (rw [g.1] at h; exact absurd h (by decide +kernel)), fun g => by first | exact absurd g.2 (by decide) | (rw [g.1] at h; exact absurd h (by decide +kernel))⟩
theorem gr_11_3 {o : Nat} {τ : x_T} (h : x_sh o = (11, 18)) : (x_fu τ).2.2 o 3 = some (139) := x_fu_r h (by unfold x_gr; rw [h]; rfl) ⟨fun g => by first | exact absurd g.2 (by decide) | (rw [g.1] at h; exact absurd h (by decide +kernel)), fun g => by first | exact absurd g.2 (by decide) | (rw [g.1] at h; exact absurd h (by decide +kernel))⟩
theorem gr_11_6 {o : Nat} {τ : x_T} (h : x_sh o = (11, 18)) : (x_fu τ).2.2 o 6 = some (176) := x_fu_r h (by unfold x_gr; rw [h]; rfl) ⟨fun g => by first | exact absurd g.2 (by decide) | (rw [g.1] at h; exact absurd h (by decide +kernel)), fun g => by first | exact absurd g.2 (by decide) | (rw [g.1] at h; exact absurd h (by decide +kernel))⟩
theorem gr_11_7 {o : Nat} {τ : x_T} (h : x_sh o = (11, 18)) : (x_fu τ).2.2 o 7 = some (188) := x_fu_r h (by unfold x_gr; rw [h]; rfl) ⟨fun g => by first | exact absurd g.2 (by decide) | (rw [g.1] at h; exact absurd h (by decide +kernel)), fun g => by first | exact absurd g.2 (by decide) | (rw [g.1] at h; exact absurd h (by decide +kernel))⟩
theorem gr_11_8 {o : Nat} {τ : x_T} (h : x_sh o = (11, 18)) : (x_fu τ).2.2 o 8 = some (192) := x_fu_r h (by unfold x_gr; rw [h]; rfl) ⟨fun g => by first | exact absurd g.2 (by decide) | (rw [g.1] at h; exact absurd h (by decide +kernel)), fun g => by first | exact absurd g.2 (by decide) | (rw [g.1] at h; exact absurd h (by decide +kernel))⟩
theorem gr_11_11 {o : Nat} {τ : x_T} (h : x_sh o = (11, 18)) : (x_fu τ).2.2 o 11 = some (314) := x_fu_r h (by unfold x_gr; rw [h]; rfl) ⟨fun g => by first | exact absurd g.2 (by decide) | (rw [g.1] at h; exact absurd h (by decide +kernel)), fun g => by first | exact absurd g.2 (by decide) | (rw [g.1] at h; exact absurd h (by decide +kernel))⟩
theorem gr_11_12 {o : Nat} {τ : x_T} (h : x_sh o = (11, 18)) : (x_fu τ).2.2 o 12 = some (319) := x_fu_r h (by unfold x_gr; rw [h]; rfl) ⟨fun g => by first | exact absurd g.2 (by decide) | (rw [g.1] at h; exact absurd h (by decide +kernel)), fun g => by first | exact absurd g.2 (by decide) | (rw [g.1] at h; exact absurd h (by decide +kernel))⟩
theorem gr_11_13 {o : Nat} {τ : x_T} (h : x_sh o = (11, 18)) : (x_fu τ).2.2 o 13 = some (329) := x_fu_r h (by unfold x_gr; rw [h]; rfl) ⟨fun g => by first | exact absurd g.2 (by decide) | (rw [g.1] at h; exact absurd h (by decide +kernel)), fun g => by first | exact absurd g.2 (by decide) | (rw [g.1] at h; exact absurd h (by decide +kernel))⟩
theorem gr_11_14 {o : Nat} {τ : x_T} (h : x_sh o = (11, 18)) : (x_fu τ).2.2 o 14 = some (332) := x_fu_r h (by unfold x_gr; rw [h]; rfl) ⟨fun g => by first | exact absurd g.2 (by decide) | (rw [g.1] at h; exact absurd h (by decide +kernel)), fun g => by first | exact absurd g.2 (by decide) | (rw [g.1] at h; exact absurd h (by decide +kernel))⟩
theorem gr_11_15 {o : Nat} {τ : x_T} (h : x_sh o = (11, 18)) : (x_fu τ).2.2 o 15 = some (333) := x_fu_r h (by unfold x_gr; rw [h]; rfl) ⟨fun g => by first | exact absurd g.2 (by decide) | (rw [g.1] at h; exact absurd h (by decide +kernel)), fun g => by first | exact absurd g.2 (by decide) | (rw [g.1] at h; exact absurd h (by decide +kernel))⟩
theorem gr_11_16 {o : Nat} {τ : x_T} (h : x_sh o = (11, 18)) : (x_fu τ).2.2 o 16 = some (339) := x_fu_r h (by unfold x_gr; rw [h]; rfl) ⟨fun g => by first | exact absurd g.2 (by decide) | (rw [g.1] at h; exact absurd h (by decide +kernel)), fun g => by first | exact absurd g.2 (by decide) | (rw [g.1] at h; exact absurd h (by decide +kernel))⟩
theorem gr_11_17 {o : Nat} {τ : x_T} (h : x_sh o = (11, 18)) : (x_fu τ).2.2 o 17 = some (341) := x_fu_r h (by unfold x_gr; rw [h]; rfl) ⟨fun g => by first | exact absurd g.2 (by decide) | (rw [g.1] at h; exact absurd h (by decide +kernel)), fun g => by first | exact absurd g.2 (by decide) | (rw [g.1] at h; exact absurd h (by decide +kernel))⟩
theorem gr_12_0 {o : Nat} {τ : x_T} (h : x_sh o = (12, 47)) : (x_fu τ).2.2 o 0 = some (346) := x_fu_r h (by unfold x_gr; rw [h]; rfl) ⟨fun g => by first | exact absurd g.2 (by decide) | (rw [g.1] at h; exact absurd h (by decide +kernel)), fun g => by first | exact absurd g.2 (by decide) | (rw [g.1] at h; exact absurd h (by decide +kernel))⟩
theorem gr_12_1 {o : Nat} {τ : x_T} (h : x_sh o = (12, 47)) : (x_fu τ).2.2 o 1 = some (347) := x_fu_r h (by unfold x_gr; rw [h]; rfl) ⟨fun g => by first | exact absurd g.2 (by decide) | (rw [g.1] at h; exact absurd h (by decide +kernel)), fun g => by first | exact absurd g.2 (by decide) | (rw [g.1] at h; exact absurd h (by decide +kernel))⟩
theorem gr_12_2 {o : Nat} {τ : x_T} (h : x_sh o = (12, 47)) : (x_fu τ).2.2 o 2 = some (348) := x_fu_r h (by unfold x_gr; rw [h]; rfl) ⟨fun g => by first | exact absurd g.2 (by decide) | (rw [g.1] at h; exact absurd h (by decide +kernel)), fun g => by first | exact absurd g.2 (by decide) | (rw [g.1] at h; exact absurd h (by decide +kernel))⟩
theorem gr_12_6 {o : Nat} {τ : x_T} (h : x_sh o = (12, 47)) : (x_fu τ).2.2 o 6 = some (349) := x_fu_r h (by unfold x_gr; rw [h]; rfl) ⟨fun g => by first | exact absurd g.2 (by decide) | (rw [g.1] at h; exact absurd h (by decide +kernel)), fun g => by first | exact absurd g.2 (by decide) | (rw [g.1] at h; exact absurd h (by decide +kernel))⟩
theorem gr_12_7 {o : Nat} {τ : x_T} (h : x_sh o = (12, 47)) : (x_fu τ).2.2 o 7 = some (350) := x_fu_r h (by unfold x_gr; rw [h]; rfl) ⟨fun g => by first | exact absurd g.2 (by decide) | (rw [g.1] at h; exact absurd h (by decide +kernel)), fun g => by first | exact absurd g.2 (by decide) | (rw [g.1] at h; exact absurd h (by decide +kernel))⟩
theorem gr_12_8 {o : Nat} {τ : x_T} (h : x_sh o = (12, 47)) : (x_fu τ).2.2 o 8 = some (351) := x_fu_r h (by unfold x_gr; rw [h]; rfl) ⟨fun g => by first | exact absurd g.2 (by decide) | (rw [g.1] at h; exact absurd h (by decide +kernel)), fun g => by first | exact absurd g.2 (by decide) | (rw [g.1] at h; exact absurd h (by decide +kernel))⟩
theorem gr_12_9 {o : Nat} {τ : x_T} (h : x_sh o = (12, 47)) : (x_fu τ).2.2 o 9 = some (352) := x_fu_r h (by unfold x_gr; rw [h]; rfl) ⟨fun g => by first | exact absurd g.2 (by decide) | (rw [g.1] at h; exact absurd h (by decide +kernel)), fun g => by first | exact absurd g.2 (by decide) | (rw [g.1] at h; exact absurd h (by decide +kernel))⟩
theorem gr_12_10 {o : Nat} {τ : x_T} (h : x_sh o = (12, 47)) : (x_fu τ).2.2 o 10 = some (353) := x_fu_r h (by unfold x_gr; rw [h]; rfl) ⟨fun g => by first | exact absurd g.2 (by decide) | (rw [g.1] at h; exact absurd h (by decide +kernel)), fun g => by first | exact absurd g.2 (by decide) | (rw [g.1] at h; exact absurd h (by decide +kernel))⟩
theorem gr_12_11 {o : Nat} {τ : x_T} (h : x_sh o = (12, 47)) : (x_fu τ).2.2 o 11 = some (354) := x_fu_r h (by unfold x_gr; rw [h]; rfl) ⟨fun g => by first | exact absurd g.2 (by decide) | (rw [g.1] at h; exact absurd h (by decide +kernel)), fun g => by first | exact absurd g.2 (by decide) | (rw [g.1] at h; exact absurd h (by decide +kernel))⟩
theorem gr_12_12 {o : Nat} {τ : x_T} (h : x_sh o = (12, 47)) : (x_fu τ).2.2 o 12 = some (355) := x_fu_r h (by unfold x_gr; rw [h]; rfl) ⟨fun g => by first | exact absurd g.2 (by decide) | (rw [g.1] at h; exact absurd h (by decide +kernel)), fun g => by first | exact absurd g.2 (by decide) | (rw [g.1] at h; exact absurd h (by decide +kernel))⟩
theorem gr_12_13 {o : Nat} {τ : x_T} (h : x_sh o = (12, 47)) : (x_fu τ).2.2 o 13 = some (356) := x_fu_r h (by unfold x_gr; rw [h]; rfl) ⟨fun g => by first | exact absurd g.2 (by decide) | (rw [g.1] at h; exact absurd h (by decide +kernel)), fun g => by first | exact absurd g.2 (by decide) | (rw [g.1] at h; exact absurd h (by decide +kernel))⟩
theorem gr_12_23 {o : Nat} {τ : x_T} (h : x_sh o = (12, 47)) : (x_fu τ).2.2 o 23 = some (357) := x_fu_r h (by unfold x_gr; rw [h]; rfl) ⟨fun g => by first | exact absurd g.2 (by decide) | (rw [g.1] at h; exact absurd h (by decide +kernel)), fun g => by first | exact absurd g.2 (by decide) | (rw [g.1] at h; exact absurd h (by decide +kernel))⟩
theorem gr_12_24 {o : Nat} {τ : x_T} (h : x_sh o = (12, 47)) : (x_fu τ).2.2 o 24 = some (358) := x_fu_r h (by unfold x_gr; rw [h]; rfl) ⟨fun g => by first | exact absurd g.2 (by decide) | (rw [g.1] at h; exact absurd h (by decide +kernel)), fun g => by first | exact absurd g.2 (by decide) | (rw [g.1] at h; exact absurd h (by decide +kernel))⟩
theorem gr_12_26 {o : Nat} {τ : x_T} (h : x_sh o = (12, 47)) : (x_fu τ).2.2 o 26 = some (359) := x_fu_r h (by unfold x_gr; rw [h]; rfl) ⟨fun g => by first | exact absurd g.2 (by decide) | (rw [g.1] at h; exact absurd h (by decide +kernel)), fun g => by first | exact absurd g.2 (by decide) | (rw [g.1] at h; exact absurd h (by decide +kernel))⟩
theorem gr_12_27 {o : Nat} {τ : x_T} (h : x_sh o = (12, 47)) : (x_fu τ).2.2 o 27 = some (360) := x_fu_r h (by unfold x_gr; rw [h]; rfl) ⟨fun g => by first | exact absurd g.2 (by decide) | (rw [g.1] at h; exact absurd h (by decide +kernel)), fun g => by first | exact absurd g.2 (by decide) | (rw [g.1] at h; exact absurd h (by decide +kernel))⟩
theorem gr_12_29 {o : Nat} {τ : x_T} (h : x_sh o = (12, 47)) : (x_fu τ).2.2 o 29 = some (361) := x_fu_r h (by unfold x_gr; rw [h]; rfl) ⟨fun g => by first | exact absurd g.2 (by decide) | (rw [g.1] at h; exact absurd h (by decide +kernel)), fun g => by first | exact absurd g.2 (by decide) | (rw [g.1] at h; exact absurd h (by decide +kernel))⟩
theorem gr_12_32 {o : Nat} {τ : x_T} (h : x_sh o = (12, 47)) : (x_fu τ).2.2 o 32 = some (362) := x_fu_r h (by unfold x_gr; rw [h]; rfl) ⟨fun g => by first | exact absurd g.2 (by decide) | (rw [g.1] at h; exact absurd h (by decide +kernel)), fun g => by first | exact absurd g.2 (by decide) | (rw [g.1] at h; exact absurd h (by decide +kernel))⟩
theorem gr_12_33 {o : Nat} {τ : x_T} (h : x_sh o = (12, 47)) : (x_fu τ).2.2 o 33 = some (363) := x_fu_r h (by unfold x_gr; rw [h]; rfl) ⟨fun g => by first | exact absurd g.2 (by decide) | (rw [g.1] at h; exact absurd h (by decide +kernel)), fun g => by first | exact absurd g.2 (by decide) | (rw [g.1] at h; exact absurd h (by decide +kernel))⟩
theorem gr_12_34 {o : Nat} {τ : x_T} (h : x_sh o = (12, 47)) : (x_fu τ).2.2 o 34 = some (364) := x_fu_r h (by unfold x_gr; rw [h]; rfl) ⟨fun g => by first | exact absurd g.2 (by decide) | (rw [g.1] at h; exact absurd h (by decide +kernel)), fun g => by first | exact absurd g.2 (by decide) | (rw [g.1] at h; exact absurd h (by decide +kernel))⟩
theorem gr_12_35 {o : Nat} {τ : x_T} (h : x_sh o = (12, 47)) : (x_fu τ).2.2 o 35 = some (365) := x_fu_r h (by unfold x_gr; rw [h]; rfl) ⟨fun g => by first | exact absurd g.2 (by decide) | (rw [g.1] at h; exact absurd h (by decide +kernel)), fun g => by first | exact absurd g.2 (by decide) | (rw [g.1] at h; exact absurd h (by decide +kernel))⟩
theorem gr_12_36 {o : Nat} {τ : x_T} (h : x_sh o = (12, 47)) : (x_fu τ).2.2 o 36 = some (366) := x_fu_r h (by unfold x_gr; rw [h]; rfl) ⟨fun g => by first | exact absurd g.2 (by decide) | (rw [g.1] at h; exact absurd h (by decide +kernel)), fun g => by first | exact absurd g.2 (by decide) | (rw [g.1] at h; exact absurd h (by decide +kernel))⟩
theorem gr_12_38 {o : Nat} {τ : x_T} (h : x_sh o = (12, 47)) : (x_fu τ).2.2 o 38 = some (367) := x_fu_r h (by unfold x_gr; rw [h]; rfl) ⟨fun g => by first | exact absurd g.2 (by decide) | (rw [g.1] at h; exact absurd h (by decide +kernel)), fun g => by first | exact absurd g.2 (by decide) | (rw [g.1] at h; exact absurd h (by decide +kernel))⟩
theorem gr_12_39 {o : Nat} {τ : x_T} (h : x_sh o = (12, 47)) : (x_fu τ).2.2 o 39 = some (368) := x_fu_r h (by unfold x_gr; rw [h]; rfl) ⟨fun g => by first | exact absurd g.2 (by decide) | (rw [g.1] at h; exact absurd h (by decide +kernel)), fun g => by first | exact absurd g.2 (by decide) | (rw [g.1] at h; exact absurd h (by decide +kernel))⟩
theorem gr_12_40 {o : Nat} {τ : x_T} (h : x_sh o = (12, 47)) : (x_fu τ).2.2 o 40 = some (369) := x_fu_r h (by unfold x_gr; rw [h]; rfl) ⟨fun g => by first | exact absurd g.2 (by decide) | (rw [g.1] at h; exact absurd h (by decide +kernel)), fun g => by first | exact absurd g.2 (by decide) | (rw [g.1] at h; exact absurd h (by decide +kernel))⟩
theorem gr_12_41 {o : Nat} {τ : x_T} (h : x_sh o = (12, 47)) : (x_fu τ).2.2 o 41 = some (370) := x_fu_r h (by unfold x_gr; rw [h]; rfl) ⟨fun g => by first | exact absurd g.2 (by decide) | (rw [g.1] at h; exact absurd h (by decide +kernel)), fun g => by first | exact absurd g.2 (by decide) | (rw [g.1] at h; exact absurd h (by decide +kernel))⟩
theorem gr_12_42 {o : Nat} {τ : x_T} (h : x_sh o = (12, 47)) : (x_fu τ).2.2 o 42 = some (371) := x_fu_r h (by unfold x_gr; rw [h]; rfl) ⟨fun g => by first | exact absurd g.2 (by decide) | (rw [g.1] at h; exact absurd h (by decide +kernel)), fun g => by first | exact absurd g.2 (by decide) | (rw [g.1] at h; exact absurd h (by decide +kernel))⟩
theorem gr_12_43 {o : Nat} {τ : x_T} (h : x_sh o = (12, 47)) : (x_fu τ).2.2 o 43 = some (372) := x_fu_r h (by unfold x_gr; rw [h]; rfl) ⟨fun g => by first | exact absurd g.2 (by decide) | (rw [g.1] at h; exact absurd h (by decide +kernel)), fun g => by first | exact absurd g.2 (by decide) | (rw [g.1] at h; exact absurd h (by decide +kernel))⟩
theorem gr_12_44 {o : Nat} {τ : x_T} (h : x_sh o = (12, 47)) : (x_fu τ).2.2 o 44 = some (373) := x_fu_r h (by unfold x_gr; rw [h]; rfl) ⟨fun g => by first | exact absurd g.2 (by decide) | (rw [g.1] at h; exact absurd h (by decide +kernel)), fun g => by first | exact absurd g.2 (by decide) | (rw [g.1] at h; exact absurd h (by decide +kernel))⟩
theorem gr_12_45 {o : Nat} {τ : x_T} (h : x_sh o = (12, 47)) : (x_fu τ).2.2 o 45 = some (374) := x_fu_r h (by unfold x_gr; rw [h]; rfl) ⟨fun g => by first | exact absurd g.2 (by decide) | (rw [g.1] at h; exact absurd h (by decide +kernel)), fun g => by first | exact absurd g.2 (by decide) | (rw [g.1] at h; exact absurd h (by decide +kernel))⟩
theorem gr_12_46 {o : Nat} {τ : x_T} (h : x_sh o = (12, 47)) : (x_fu τ).2.2 o 46 = some (375) := x_fu_r h (by unfold x_gr; rw [h]; rfl) ⟨fun g => by first | exact absurd g.2 (by decide) | (rw [g.1] at h; exact absurd h (by decide +kernel)), fun g => by first | exact absurd g.2 (by decide) | (rw [g.1] at h; exact absurd h (by decide +kernel))⟩
theorem gr_23 {o n k : Nat} {τ : x_T} (h : x_sh o = (23, n)) : (x_fu τ).2.2 o k = some (o + 1 + 9 * k) := by
  refine x_fu_r h (by unfold x_gr; rw [h]; rfl) ⟨fun g => ?_, fun g => ?_⟩
  · rw [g.1] at h; rw [show x_sh 319 = (6, 6) by decide +kernel] at h; cases h
  · rw [g.1] at h; rw [show x_sh 329 = (4, 5) by decide +kernel] at h; cases h
theorem gr_24 {o n k : Nat} {τ : x_T} (h : x_sh o = (24, n)) : (x_fu τ).2.2 o k = some (o + 1 + 4 * k) := by
  refine x_fu_r h (by unfold x_gr; rw [h]; rfl) ⟨fun g => ?_, fun g => ?_⟩
  · rw [g.1] at h; rw [show x_sh 319 = (6, 6) by decide +kernel] at h; cases h
  · rw [g.1] at h; rw [show x_sh 329 = (4, 5) by decide +kernel] at h; cases h
theorem lk_156 : Cond.fieldLink "NoonOnABarrow$Pairs" 9 "NoonOnABarrow$Pairs" "house" "[I" ∈ x_tb := x_tb_in (List.mem_of_getElem? (i := 156) (by decide +kernel)) (by decide +kernel)
theorem lk_157 : Cond.fieldLink "NoonOnABarrow$Counsel" 42 "NoonOnABarrow$Pairs" "house" "[I" ∈ x_tb := x_tb_in (List.mem_of_getElem? (i := 157) (by decide +kernel)) (by decide +kernel)
theorem lk_158 : Cond.fieldLink "NoonOnABarrow$Ways" 79 "NoonOnABarrow$Pairs" "house" "[I" ∈ x_tb := x_tb_in (List.mem_of_getElem? (i := 158) (by decide +kernel)) (by decide +kernel)
theorem lk_159 : Cond.fieldLink "NoonOnABarrow$Land" 83 "NoonOnABarrow$Pairs" "house" "[I" ∈ x_tb := x_tb_in (List.mem_of_getElem? (i := 159) (by decide +kernel)) (by decide +kernel)
theorem lk_160 : Cond.fieldLink "NoonOnABarrow$Pairs" 15 "NoonOnABarrow$Pairs" "number" "[I" ∈ x_tb := x_tb_in (List.mem_of_getElem? (i := 160) (by decide +kernel)) (by decide +kernel)
theorem lk_161 : Cond.fieldLink "NoonOnABarrow$Counsel" 49 "NoonOnABarrow$Pairs" "number" "[I" ∈ x_tb := x_tb_in (List.mem_of_getElem? (i := 161) (by decide +kernel)) (by decide +kernel)
theorem lk_162 : Cond.fieldLink "NoonOnABarrow$Ways" 85 "NoonOnABarrow$Pairs" "number" "[I" ∈ x_tb := x_tb_in (List.mem_of_getElem? (i := 162) (by decide +kernel)) (by decide +kernel)
theorem lk_163 : Cond.fieldLink "NoonOnABarrow$Land" 86 "NoonOnABarrow$Pairs" "number" "[I" ∈ x_tb := x_tb_in (List.mem_of_getElem? (i := 163) (by decide +kernel)) (by decide +kernel)
theorem lk_164 : Cond.fieldLink "NoonOnABarrow$Pairs" 24 "NoonOnABarrow$Pairs" "count" "I" ∈ x_tb := x_tb_in (List.mem_of_getElem? (i := 164) (by decide +kernel)) (by decide +kernel)
theorem lk_165 : Cond.fieldLink "NoonOnABarrow$Ways" 59 "NoonOnABarrow$Pairs" "count" "I" ∈ x_tb := x_tb_in (List.mem_of_getElem? (i := 165) (by decide +kernel)) (by decide +kernel)
theorem lk_166 : Cond.fieldLink "NoonOnABarrow$Counsel" 37 "NoonOnABarrow$Pairs" "count" "I" ∈ x_tb := x_tb_in (List.mem_of_getElem? (i := 166) (by decide +kernel)) (by decide +kernel)
theorem lk_167 : Cond.fieldLink "NoonOnABarrow$Land" 80 "NoonOnABarrow$Pairs" "count" "I" ∈ x_tb := x_tb_in (List.mem_of_getElem? (i := 167) (by decide +kernel)) (by decide +kernel)
theorem lk_168 : Cond.fieldLink "NoonOnABarrow" 320 "NoonOnABarrow$Pairs" "count" "I" ∈ x_tb := x_tb_in (List.mem_of_getElem? (i := 168) (by decide +kernel)) (by decide +kernel)
theorem lk_177 : Cond.fieldLink "NoonOnABarrow$Land" 37 "NoonOnABarrow$Land" "houses" "I" ∈ x_tb := x_tb_in (List.mem_of_getElem? (i := 177) (by decide +kernel)) (by decide +kernel)
theorem lk_178 : Cond.fieldLink "NoonOnABarrow$Counsel" 23 "NoonOnABarrow$Land" "houses" "I" ∈ x_tb := x_tb_in (List.mem_of_getElem? (i := 178) (by decide +kernel)) (by decide +kernel)
theorem lk_179 : Cond.fieldLink "NoonOnABarrow$Ways" 72 "NoonOnABarrow$Land" "houses" "I" ∈ x_tb := x_tb_in (List.mem_of_getElem? (i := 179) (by decide +kernel)) (by decide +kernel)
theorem lk_180 : Cond.fieldLink "NoonOnABarrow$Doings" 66 "NoonOnABarrow$Land" "houses" "I" ∈ x_tb := x_tb_in (List.mem_of_getElem? (i := 180) (by decide +kernel)) (by decide +kernel)
theorem lk_181 : Cond.fieldLink "NoonOnABarrow" 153 "NoonOnABarrow$Land" "houses" "I" ∈ x_tb := x_tb_in (List.mem_of_getElem? (i := 181) (by decide +kernel)) (by decide +kernel)
theorem lk_182 : Cond.fieldLink "NoonOnABarrow$Land" 41 "NoonOnABarrow$Land" "pushers" "I" ∈ x_tb := x_tb_in (List.mem_of_getElem? (i := 182) (by decide +kernel)) (by decide +kernel)
theorem lk_183 : Cond.fieldLink "NoonOnABarrow$Doings" 121 "NoonOnABarrow$Land" "pushers" "I" ∈ x_tb := x_tb_in (List.mem_of_getElem? (i := 183) (by decide +kernel)) (by decide +kernel)
theorem lk_184 : Cond.fieldLink "NoonOnABarrow" 314 "NoonOnABarrow$Land" "pushers" "I" ∈ x_tb := x_tb_in (List.mem_of_getElem? (i := 184) (by decide +kernel)) (by decide +kernel)
theorem lk_185 : Cond.fieldLink "NoonOnABarrow$Land" 9 "NoonOnABarrow$Land" "hill" "[I" ∈ x_tb := x_tb_in (List.mem_of_getElem? (i := 185) (by decide +kernel)) (by decide +kernel)
theorem lk_186 : Cond.fieldLink "NoonOnABarrow$Laws" 43 "NoonOnABarrow$Land" "hill" "[I" ∈ x_tb := x_tb_in (List.mem_of_getElem? (i := 186) (by decide +kernel)) (by decide +kernel)
theorem lk_187 : Cond.fieldLink "NoonOnABarrow$Land" 15 "NoonOnABarrow$Land" "weight" "[I" ∈ x_tb := x_tb_in (List.mem_of_getElem? (i := 187) (by decide +kernel)) (by decide +kernel)
theorem lk_188 : Cond.fieldLink "NoonOnABarrow$Counsel" 80 "NoonOnABarrow$Land" "weight" "[I" ∈ x_tb := x_tb_in (List.mem_of_getElem? (i := 188) (by decide +kernel)) (by decide +kernel)
theorem lk_189 : Cond.fieldLink "NoonOnABarrow" 287 "NoonOnABarrow$Land" "weight" "[I" ∈ x_tb := x_tb_in (List.mem_of_getElem? (i := 189) (by decide +kernel)) (by decide +kernel)
theorem lk_190 : Cond.fieldLink "NoonOnABarrow$Land" 18 "NoonOnABarrow$Land" "strength" "[I" ∈ x_tb := x_tb_in (List.mem_of_getElem? (i := 190) (by decide +kernel)) (by decide +kernel)
theorem lk_191 : Cond.fieldLink "NoonOnABarrow$Land" 21 "NoonOnABarrow$Land" "lane" "[I" ∈ x_tb := x_tb_in (List.mem_of_getElem? (i := 191) (by decide +kernel)) (by decide +kernel)
theorem lk_192 : Cond.fieldLink "NoonOnABarrow$Land" 24 "NoonOnABarrow$Land" "way" "[I" ∈ x_tb := x_tb_in (List.mem_of_getElem? (i := 192) (by decide +kernel)) (by decide +kernel)
theorem lk_193 : Cond.fieldLink "NoonOnABarrow$Land" 30 "NoonOnABarrow$Land" "wanted" "LNoonOnABarrow$Pairs;" ∈ x_tb := x_tb_in (List.mem_of_getElem? (i := 193) (by decide +kernel)) (by decide +kernel)
theorem lk_194 : Cond.fieldLink "NoonOnABarrow$Ways" 55 "NoonOnABarrow$Land" "wanted" "LNoonOnABarrow$Pairs;" ∈ x_tb := x_tb_in (List.mem_of_getElem? (i := 194) (by decide +kernel)) (by decide +kernel)
theorem lk_195 : Cond.fieldLink "NoonOnABarrow$Counsel" 33 "NoonOnABarrow$Land" "wanted" "LNoonOnABarrow$Pairs;" ∈ x_tb := x_tb_in (List.mem_of_getElem? (i := 195) (by decide +kernel)) (by decide +kernel)
theorem lk_196 : Cond.fieldLink "NoonOnABarrow" 254 "NoonOnABarrow$Land" "wanted" "LNoonOnABarrow$Pairs;" ∈ x_tb := x_tb_in (List.mem_of_getElem? (i := 196) (by decide +kernel)) (by decide +kernel)
theorem lk_197 : Cond.fieldLink "NoonOnABarrow$Land" 34 "NoonOnABarrow$Land" "felt" "LNoonOnABarrow$Pairs;" ∈ x_tb := x_tb_in (List.mem_of_getElem? (i := 197) (by decide +kernel)) (by decide +kernel)
theorem lk_198 : Cond.fieldLink "NoonOnABarrow$Counsel" 87 "NoonOnABarrow$Land" "felt" "LNoonOnABarrow$Pairs;" ∈ x_tb := x_tb_in (List.mem_of_getElem? (i := 198) (by decide +kernel)) (by decide +kernel)
theorem lk_199 : Cond.fieldLink "NoonOnABarrow" 294 "NoonOnABarrow$Land" "felt" "LNoonOnABarrow$Pairs;" ∈ x_tb := x_tb_in (List.mem_of_getElem? (i := 199) (by decide +kernel)) (by decide +kernel)
theorem lk_225 : Cond.fieldLink "NoonOnABarrow$Day" 34 "NoonOnABarrow$Day" "house" "I" ∈ x_tb := x_tb_in (List.mem_of_getElem? (i := 225) (by decide +kernel)) (by decide +kernel)
theorem lk_226 : Cond.fieldLink "NoonOnABarrow$Doings" 31 "NoonOnABarrow$Day" "house" "I" ∈ x_tb := x_tb_in (List.mem_of_getElem? (i := 226) (by decide +kernel)) (by decide +kernel)
theorem lk_227 : Cond.fieldLink "NoonOnABarrow$Laws" 76 "NoonOnABarrow$Day" "house" "I" ∈ x_tb := x_tb_in (List.mem_of_getElem? (i := 227) (by decide +kernel)) (by decide +kernel)
theorem lk_228 : Cond.fieldLink "NoonOnABarrow$Ways" 99 "NoonOnABarrow$Day" "house" "I" ∈ x_tb := x_tb_in (List.mem_of_getElem? (i := 228) (by decide +kernel)) (by decide +kernel)
theorem lk_229 : Cond.fieldLink "NoonOnABarrow" 205 "NoonOnABarrow$Day" "house" "I" ∈ x_tb := x_tb_in (List.mem_of_getElem? (i := 229) (by decide +kernel)) (by decide +kernel)
theorem lk_230 : Cond.fieldLink "NoonOnABarrow$Day" 9 "NoonOnABarrow$Day" "to" "I" ∈ x_tb := x_tb_in (List.mem_of_getElem? (i := 230) (by decide +kernel)) (by decide +kernel)
theorem lk_231 : Cond.fieldLink "NoonOnABarrow$Doings" 44 "NoonOnABarrow$Day" "to" "I" ∈ x_tb := x_tb_in (List.mem_of_getElem? (i := 231) (by decide +kernel)) (by decide +kernel)
theorem lk_232 : Cond.fieldLink "NoonOnABarrow" 226 "NoonOnABarrow$Day" "to" "I" ∈ x_tb := x_tb_in (List.mem_of_getElem? (i := 232) (by decide +kernel)) (by decide +kernel)
theorem lk_233 : Cond.fieldLink "NoonOnABarrow$Doings" 19 "NoonOnABarrow$Day" "left" "I" ∈ x_tb := x_tb_in (List.mem_of_getElem? (i := 233) (by decide +kernel)) (by decide +kernel)
theorem lk_234 : Cond.fieldLink "NoonOnABarrow$Day" 37 "NoonOnABarrow$Day" "left" "I" ∈ x_tb := x_tb_in (List.mem_of_getElem? (i := 234) (by decide +kernel)) (by decide +kernel)
theorem lk_235 : Cond.fieldLink "NoonOnABarrow$Laws" 82 "NoonOnABarrow$Day" "left" "I" ∈ x_tb := x_tb_in (List.mem_of_getElem? (i := 235) (by decide +kernel)) (by decide +kernel)
theorem lk_236 : Cond.fieldLink "NoonOnABarrow" 137 "NoonOnABarrow$Day" "left" "I" ∈ x_tb := x_tb_in (List.mem_of_getElem? (i := 236) (by decide +kernel)) (by decide +kernel)
theorem lk_237 : Cond.fieldLink "NoonOnABarrow$Day" 15 "NoonOnABarrow$Day" "pusher" "I" ∈ x_tb := x_tb_in (List.mem_of_getElem? (i := 237) (by decide +kernel)) (by decide +kernel)
theorem lk_238 : Cond.fieldLink "NoonOnABarrow$Doings" 47 "NoonOnABarrow$Day" "pusher" "I" ∈ x_tb := x_tb_in (List.mem_of_getElem? (i := 238) (by decide +kernel)) (by decide +kernel)
theorem lk_239 : Cond.fieldLink "NoonOnABarrow" 229 "NoonOnABarrow$Day" "pusher" "I" ∈ x_tb := x_tb_in (List.mem_of_getElem? (i := 239) (by decide +kernel)) (by decide +kernel)
theorem lk_240 : Cond.fieldLink "NoonOnABarrow$Day" 18 "NoonOnABarrow$Day" "wheels" "I" ∈ x_tb := x_tb_in (List.mem_of_getElem? (i := 240) (by decide +kernel)) (by decide +kernel)
theorem lk_241 : Cond.fieldLink "NoonOnABarrow$Doings" 54 "NoonOnABarrow$Day" "wheels" "I" ∈ x_tb := x_tb_in (List.mem_of_getElem? (i := 241) (by decide +kernel)) (by decide +kernel)
theorem lk_242 : Cond.fieldLink "NoonOnABarrow$Laws" 79 "NoonOnABarrow$Day" "wheels" "I" ∈ x_tb := x_tb_in (List.mem_of_getElem? (i := 242) (by decide +kernel)) (by decide +kernel)
theorem lk_243 : Cond.fieldLink "NoonOnABarrow" 143 "NoonOnABarrow$Day" "wheels" "I" ∈ x_tb := x_tb_in (List.mem_of_getElem? (i := 243) (by decide +kernel)) (by decide +kernel)
theorem lk_244 : Cond.fieldLink "NoonOnABarrow$Day" 40 "NoonOnABarrow$Day" "minute" "I" ∈ x_tb := x_tb_in (List.mem_of_getElem? (i := 244) (by decide +kernel)) (by decide +kernel)
theorem lk_245 : Cond.fieldLink "NoonOnABarrow$Laws" 32 "NoonOnABarrow$Day" "minute" "I" ∈ x_tb := x_tb_in (List.mem_of_getElem? (i := 245) (by decide +kernel)) (by decide +kernel)
theorem lk_246 : Cond.fieldLink "NoonOnABarrow$Doings" 73 "NoonOnABarrow$Day" "minute" "I" ∈ x_tb := x_tb_in (List.mem_of_getElem? (i := 246) (by decide +kernel)) (by decide +kernel)
theorem lk_247 : Cond.fieldLink "NoonOnABarrow" 146 "NoonOnABarrow$Day" "minute" "I" ∈ x_tb := x_tb_in (List.mem_of_getElem? (i := 247) (by decide +kernel)) (by decide +kernel)
theorem lk_248 : Cond.fieldLink "NoonOnABarrow$Day" 21 "NoonOnABarrow$Day" "x" "I" ∈ x_tb := x_tb_in (List.mem_of_getElem? (i := 248) (by decide +kernel)) (by decide +kernel)
theorem lk_249 : Cond.fieldLink "NoonOnABarrow" 156 "NoonOnABarrow$Day" "x" "I" ∈ x_tb := x_tb_in (List.mem_of_getElem? (i := 249) (by decide +kernel)) (by decide +kernel)
theorem lk_250 : Cond.fieldLink "NoonOnABarrow$Day" 24 "NoonOnABarrow$Day" "purse" "[I" ∈ x_tb := x_tb_in (List.mem_of_getElem? (i := 250) (by decide +kernel)) (by decide +kernel)
theorem lk_251 : Cond.fieldLink "NoonOnABarrow$Doings" 87 "NoonOnABarrow$Day" "purse" "[I" ∈ x_tb := x_tb_in (List.mem_of_getElem? (i := 251) (by decide +kernel)) (by decide +kernel)
theorem lk_252 : Cond.fieldLink "NoonOnABarrow$Day" 28 "NoonOnABarrow$Day" "pale" "[I" ∈ x_tb := x_tb_in (List.mem_of_getElem? (i := 252) (by decide +kernel)) (by decide +kernel)
theorem lk_253 : Cond.fieldLink "NoonOnABarrow$Doings" 106 "NoonOnABarrow$Day" "pale" "[I" ∈ x_tb := x_tb_in (List.mem_of_getElem? (i := 253) (by decide +kernel)) (by decide +kernel)
theorem lk_254 : Cond.fieldLink "NoonOnABarrow$Day" 49 "NoonOnABarrow$Day" "debts" "I" ∈ x_tb := x_tb_in (List.mem_of_getElem? (i := 254) (by decide +kernel)) (by decide +kernel)
theorem lk_255 : Cond.fieldLink "NoonOnABarrow" 242 "NoonOnABarrow$Day" "debts" "I" ∈ x_tb := x_tb_in (List.mem_of_getElem? (i := 255) (by decide +kernel)) (by decide +kernel)
theorem lk_256 : Cond.fieldLink "NoonOnABarrow$Day" 31 "NoonOnABarrow$Day" "book" "[I" ∈ x_tb := x_tb_in (List.mem_of_getElem? (i := 256) (by decide +kernel)) (by decide +kernel)
theorem lk_289 : Cond.fieldLink "NoonOnABarrow$Steps" 11 "NoonOnABarrow$Steps" "days" "[LNoonOnABarrow$Day;" ∈ x_tb := x_tb_in (List.mem_of_getElem? (i := 289) (by decide +kernel)) (by decide +kernel)
theorem lk_290 : Cond.fieldLink "NoonOnABarrow$Steps" 18 "NoonOnABarrow$Steps" "first" "I" ∈ x_tb := x_tb_in (List.mem_of_getElem? (i := 290) (by decide +kernel)) (by decide +kernel)
theorem lk_291 : Cond.fieldLink "NoonOnABarrow$Steps" 22 "NoonOnABarrow$Steps" "count" "I" ∈ x_tb := x_tb_in (List.mem_of_getElem? (i := 291) (by decide +kernel)) (by decide +kernel)
theorem lk_292 : Cond.fieldLink "NoonOnABarrow" 317 "NoonOnABarrow$Steps" "count" "I" ∈ x_tb := x_tb_in (List.mem_of_getElem? (i := 292) (by decide +kernel)) (by decide +kernel)
theorem lk_307 : Cond.fieldLink "NoonOnABarrow$Text" 9 "NoonOnABarrow$Text" "kind" "[I" ∈ x_tb := x_tb_in (List.mem_of_getElem? (i := 307) (by decide +kernel)) (by decide +kernel)
theorem lk_308 : Cond.fieldLink "NoonOnABarrow" 333 "NoonOnABarrow$Text" "kind" "[I" ∈ x_tb := x_tb_in (List.mem_of_getElem? (i := 308) (by decide +kernel)) (by decide +kernel)
theorem lk_309 : Cond.fieldLink "NoonOnABarrow$Text" 15 "NoonOnABarrow$Text" "one" "[I" ∈ x_tb := x_tb_in (List.mem_of_getElem? (i := 309) (by decide +kernel)) (by decide +kernel)
theorem lk_310 : Cond.fieldLink "NoonOnABarrow" 327 "NoonOnABarrow$Text" "one" "[I" ∈ x_tb := x_tb_in (List.mem_of_getElem? (i := 310) (by decide +kernel)) (by decide +kernel)
theorem lk_311 : Cond.fieldLink "NoonOnABarrow$Text" 18 "NoonOnABarrow$Text" "two" "[I" ∈ x_tb := x_tb_in (List.mem_of_getElem? (i := 311) (by decide +kernel)) (by decide +kernel)
theorem lk_312 : Cond.fieldLink "NoonOnABarrow" 330 "NoonOnABarrow$Text" "two" "[I" ∈ x_tb := x_tb_in (List.mem_of_getElem? (i := 312) (by decide +kernel)) (by decide +kernel)
theorem lk_313 : Cond.fieldLink "NoonOnABarrow$Text" 21 "NoonOnABarrow$Text" "three" "[I" ∈ x_tb := x_tb_in (List.mem_of_getElem? (i := 313) (by decide +kernel)) (by decide +kernel)
theorem lk_314 : Cond.fieldLink "NoonOnABarrow" 338 "NoonOnABarrow$Text" "three" "[I" ∈ x_tb := x_tb_in (List.mem_of_getElem? (i := 314) (by decide +kernel)) (by decide +kernel)
theorem lk_315 : Cond.fieldLink "NoonOnABarrow$Text" 36 "NoonOnABarrow$Text" "clauses" "I" ∈ x_tb := x_tb_in (List.mem_of_getElem? (i := 315) (by decide +kernel)) (by decide +kernel)
theorem lk_316 : Cond.fieldLink "NoonOnABarrow$Reader" 64 "NoonOnABarrow$Text" "clauses" "I" ∈ x_tb := x_tb_in (List.mem_of_getElem? (i := 316) (by decide +kernel)) (by decide +kernel)
theorem lk_317 : Cond.fieldLink "NoonOnABarrow" 186 "NoonOnABarrow$Text" "clauses" "I" ∈ x_tb := x_tb_in (List.mem_of_getElem? (i := 317) (by decide +kernel)) (by decide +kernel)
theorem lk_318 : Cond.fieldLink "NoonOnABarrow$Text" 24 "NoonOnABarrow$Text" "lawFrom" "[I" ∈ x_tb := x_tb_in (List.mem_of_getElem? (i := 318) (by decide +kernel)) (by decide +kernel)
theorem lk_319 : Cond.fieldLink "NoonOnABarrow$Text" 27 "NoonOnABarrow$Text" "lawTo" "[I" ∈ x_tb := x_tb_in (List.mem_of_getElem? (i := 319) (by decide +kernel)) (by decide +kernel)
theorem lk_320 : Cond.fieldLink "NoonOnABarrow$Text" 30 "NoonOnABarrow$Text" "steps" "[I" ∈ x_tb := x_tb_in (List.mem_of_getElem? (i := 320) (by decide +kernel)) (by decide +kernel)
theorem lk_321 : Cond.fieldLink "NoonOnABarrow$Text" 33 "NoonOnABarrow$Text" "givens" "[I" ∈ x_tb := x_tb_in (List.mem_of_getElem? (i := 321) (by decide +kernel)) (by decide +kernel)
theorem lk_322 : Cond.fieldLink "NoonOnABarrow$Text" 40 "NoonOnABarrow$Text" "length" "I" ∈ x_tb := x_tb_in (List.mem_of_getElem? (i := 322) (by decide +kernel)) (by decide +kernel)
theorem lk_323 : Cond.fieldLink "NoonOnABarrow$Reader" 67 "NoonOnABarrow$Text" "length" "I" ∈ x_tb := x_tb_in (List.mem_of_getElem? (i := 323) (by decide +kernel)) (by decide +kernel)
theorem lk_351 : Cond.fieldLink "NoonOnABarrow$Tape" 9 "NoonOnABarrow$Tape" "bytes" "[I" ∈ x_tb := x_tb_in (List.mem_of_getElem? (i := 351) (by decide +kernel)) (by decide +kernel)
theorem lk_352 : Cond.fieldLink "NoonOnABarrow$Tape" 24 "NoonOnABarrow$Tape" "length" "I" ∈ x_tb := x_tb_in (List.mem_of_getElem? (i := 352) (by decide +kernel)) (by decide +kernel)
theorem lk_353 : Cond.fieldLink "NoonOnABarrow" 162 "NoonOnABarrow$Tape" "length" "I" ∈ x_tb := x_tb_in (List.mem_of_getElem? (i := 353) (by decide +kernel)) (by decide +kernel)
theorem lk_354 : Cond.fieldLink "NoonOnABarrow$Tape" 15 "NoonOnABarrow$Tape" "kinds" "[I" ∈ x_tb := x_tb_in (List.mem_of_getElem? (i := 354) (by decide +kernel)) (by decide +kernel)
theorem lk_355 : Cond.fieldLink "NoonOnABarrow$Tape" 18 "NoonOnABarrow$Tape" "values" "[I" ∈ x_tb := x_tb_in (List.mem_of_getElem? (i := 355) (by decide +kernel)) (by decide +kernel)
theorem lk_356 : Cond.fieldLink "NoonOnABarrow$Tape" 21 "NoonOnABarrow$Tape" "places" "[I" ∈ x_tb := x_tb_in (List.mem_of_getElem? (i := 356) (by decide +kernel)) (by decide +kernel)
theorem lk_357 : Cond.fieldLink "NoonOnABarrow$Tape" 28 "NoonOnABarrow$Tape" "tokens" "I" ∈ x_tb := x_tb_in (List.mem_of_getElem? (i := 357) (by decide +kernel)) (by decide +kernel)
theorem lk_379 : Cond.fieldLink "NoonOnABarrow$Reader" 18 "NoonOnABarrow$Reader" "tape" "LNoonOnABarrow$Tape;" ∈ x_tb := x_tb_in (List.mem_of_getElem? (i := 379) (by decide +kernel)) (by decide +kernel)
theorem lk_380 : Cond.fieldLink "NoonOnABarrow$Reader" 25 "NoonOnABarrow$Reader" "text" "LNoonOnABarrow$Text;" ∈ x_tb := x_tb_in (List.mem_of_getElem? (i := 380) (by decide +kernel)) (by decide +kernel)
theorem lk_381 : Cond.fieldLink "NoonOnABarrow$Reader" 29 "NoonOnABarrow$Reader" "at" "I" ∈ x_tb := x_tb_in (List.mem_of_getElem? (i := 381) (by decide +kernel)) (by decide +kernel)
theorem lk_382 : Cond.fieldLink "NoonOnABarrow$Reader" 70 "NoonOnABarrow$Reader" "law" "I" ∈ x_tb := x_tb_in (List.mem_of_getElem? (i := 382) (by decide +kernel)) (by decide +kernel)
theorem lk_383 : Cond.fieldLink "NoonOnABarrow$Reader" 9 "NoonOnABarrow$Reader" "fault" "I" ∈ x_tb := x_tb_in (List.mem_of_getElem? (i := 383) (by decide +kernel)) (by decide +kernel)
theorem lk_384 : Cond.fieldLink "NoonOnABarrow" 173 "NoonOnABarrow$Reader" "fault" "I" ∈ x_tb := x_tb_in (List.mem_of_getElem? (i := 384) (by decide +kernel)) (by decide +kernel)
theorem lk_385 : Cond.fieldLink "NoonOnABarrow$Reader" 15 "NoonOnABarrow$Reader" "place" "I" ∈ x_tb := x_tb_in (List.mem_of_getElem? (i := 385) (by decide +kernel)) (by decide +kernel)
theorem lk_386 : Cond.fieldLink "NoonOnABarrow" 176 "NoonOnABarrow$Reader" "place" "I" ∈ x_tb := x_tb_in (List.mem_of_getElem? (i := 386) (by decide +kernel)) (by decide +kernel)
theorem lk_406 : Cond.fieldLink "NoonOnABarrow$Laws" 18 "NoonOnABarrow$Laws" "land" "LNoonOnABarrow$Land;" ∈ x_tb := x_tb_in (List.mem_of_getElem? (i := 406) (by decide +kernel)) (by decide +kernel)
theorem lk_407 : Cond.fieldLink "NoonOnABarrow$Laws" 9 "NoonOnABarrow$Laws" "named" "[I" ∈ x_tb := x_tb_in (List.mem_of_getElem? (i := 407) (by decide +kernel)) (by decide +kernel)
theorem lk_408 : Cond.fieldLink "NoonOnABarrow$Laws" 15 "NoonOnABarrow$Laws" "stack" "[I" ∈ x_tb := x_tb_in (List.mem_of_getElem? (i := 408) (by decide +kernel)) (by decide +kernel)
theorem lk_409 : Cond.fieldLink "NoonOnABarrow$Laws" 100 "NoonOnABarrow$Laws" "top" "I" ∈ x_tb := x_tb_in (List.mem_of_getElem? (i := 409) (by decide +kernel)) (by decide +kernel)
theorem lk_410 : Cond.fieldLink "NoonOnABarrow$Laws" 22 "NoonOnABarrow$Laws" "ruler" "LNoonOnABarrow$Text;" ∈ x_tb := x_tb_in (List.mem_of_getElem? (i := 410) (by decide +kernel)) (by decide +kernel)
theorem lk_411 : Cond.fieldLink "NoonOnABarrow" 323 "NoonOnABarrow$Laws" "ruler" "LNoonOnABarrow$Text;" ∈ x_tb := x_tb_in (List.mem_of_getElem? (i := 411) (by decide +kernel)) (by decide +kernel)
theorem lk_429 : Cond.fieldLink "NoonOnABarrow$Doings" 9 "NoonOnABarrow$Doings" "land" "LNoonOnABarrow$Land;" ∈ x_tb := x_tb_in (List.mem_of_getElem? (i := 429) (by decide +kernel)) (by decide +kernel)
theorem lk_430 : Cond.fieldLink "NoonOnABarrow$Doings" 15 "NoonOnABarrow$Doings" "laws" "LNoonOnABarrow$Laws;" ∈ x_tb := x_tb_in (List.mem_of_getElem? (i := 430) (by decide +kernel)) (by decide +kernel)
theorem lk_442 : Cond.fieldLink "NoonOnABarrow$Ways" 27 "NoonOnABarrow$Ways" "land" "LNoonOnABarrow$Land;" ∈ x_tb := x_tb_in (List.mem_of_getElem? (i := 442) (by decide +kernel)) (by decide +kernel)
theorem lk_443 : Cond.fieldLink "NoonOnABarrow$Ways" 31 "NoonOnABarrow$Ways" "laws" "LNoonOnABarrow$Laws;" ∈ x_tb := x_tb_in (List.mem_of_getElem? (i := 443) (by decide +kernel)) (by decide +kernel)
theorem lk_444 : Cond.fieldLink "NoonOnABarrow$Ways" 11 "NoonOnABarrow$Ways" "queue" "[I" ∈ x_tb := x_tb_in (List.mem_of_getElem? (i := 444) (by decide +kernel)) (by decide +kernel)
theorem lk_445 : Cond.fieldLink "NoonOnABarrow$Ways" 15 "NoonOnABarrow$Ways" "earlier" "[I" ∈ x_tb := x_tb_in (List.mem_of_getElem? (i := 445) (by decide +kernel)) (by decide +kernel)
theorem lk_446 : Cond.fieldLink "NoonOnABarrow$Ways" 39 "NoonOnABarrow$Ways" "queued" "I" ∈ x_tb := x_tb_in (List.mem_of_getElem? (i := 446) (by decide +kernel)) (by decide +kernel)
theorem lk_447 : Cond.fieldLink "NoonOnABarrow$Ways" 42 "NoonOnABarrow$Ways" "last" "I" ∈ x_tb := x_tb_in (List.mem_of_getElem? (i := 447) (by decide +kernel)) (by decide +kernel)
theorem lk_448 : Cond.fieldLink "NoonOnABarrow$Ways" 18 "NoonOnABarrow$Ways" "cost" "[I" ∈ x_tb := x_tb_in (List.mem_of_getElem? (i := 448) (by decide +kernel)) (by decide +kernel)
theorem lk_449 : Cond.fieldLink "NoonOnABarrow$Ways" 21 "NoonOnABarrow$Ways" "rest" "[I" ∈ x_tb := x_tb_in (List.mem_of_getElem? (i := 449) (by decide +kernel)) (by decide +kernel)
theorem lk_450 : Cond.fieldLink "NoonOnABarrow$Ways" 24 "NoonOnABarrow$Ways" "leastWay" "[I" ∈ x_tb := x_tb_in (List.mem_of_getElem? (i := 450) (by decide +kernel)) (by decide +kernel)
theorem lk_451 : Cond.fieldLink "NoonOnABarrow$Ways" 35 "NoonOnABarrow$Ways" "lanes" "I" ∈ x_tb := x_tb_in (List.mem_of_getElem? (i := 451) (by decide +kernel)) (by decide +kernel)
theorem lk_452 : Cond.fieldLink "NoonOnABarrow" 275 "NoonOnABarrow$Ways" "lanes" "I" ∈ x_tb := x_tb_in (List.mem_of_getElem? (i := 452) (by decide +kernel)) (by decide +kernel)
theorem lk_480 : Cond.fieldLink "NoonOnABarrow$Counsel" 15 "NoonOnABarrow$Counsel" "land" "LNoonOnABarrow$Land;" ∈ x_tb := x_tb_in (List.mem_of_getElem? (i := 480) (by decide +kernel)) (by decide +kernel)
theorem lk_481 : Cond.fieldLink "NoonOnABarrow$Counsel" 19 "NoonOnABarrow$Counsel" "laws" "LNoonOnABarrow$Laws;" ∈ x_tb := x_tb_in (List.mem_of_getElem? (i := 481) (by decide +kernel)) (by decide +kernel)
theorem lk_482 : Cond.fieldLink "NoonOnABarrow$Counsel" 9 "NoonOnABarrow$Counsel" "row" "[I" ∈ x_tb := x_tb_in (List.mem_of_getElem? (i := 482) (by decide +kernel)) (by decide +kernel)
theorem lk_490 : Cond.fieldLink "NoonOnABarrow" 10 "NoonOnABarrow" "land" "LNoonOnABarrow$Land;" ∈ x_tb := x_tb_in (List.mem_of_getElem? (i := 490) (by decide +kernel)) (by decide +kernel)
theorem lk_491 : Cond.fieldLink "NoonOnABarrow" 19 "NoonOnABarrow" "day" "LNoonOnABarrow$Day;" ∈ x_tb := x_tb_in (List.mem_of_getElem? (i := 491) (by decide +kernel)) (by decide +kernel)
theorem lk_492 : Cond.fieldLink "NoonOnABarrow" 26 "NoonOnABarrow" "steps" "LNoonOnABarrow$Steps;" ∈ x_tb := x_tb_in (List.mem_of_getElem? (i := 492) (by decide +kernel)) (by decide +kernel)
theorem lk_493 : Cond.fieldLink "NoonOnABarrow" 32 "NoonOnABarrow" "texts" "[LNoonOnABarrow$Text;" ∈ x_tb := x_tb_in (List.mem_of_getElem? (i := 493) (by decide +kernel)) (by decide +kernel)
theorem lk_494 : Cond.fieldLink "NoonOnABarrow" 37 "NoonOnABarrow" "told" "I" ∈ x_tb := x_tb_in (List.mem_of_getElem? (i := 494) (by decide +kernel)) (by decide +kernel)
theorem lk_495 : Cond.fieldLink "NoonOnABarrow" 41 "NoonOnABarrow" "ruling" "I" ∈ x_tb := x_tb_in (List.mem_of_getElem? (i := 495) (by decide +kernel)) (by decide +kernel)
theorem lk_496 : Cond.fieldLink "NoonOnABarrow" 44 "NoonOnABarrow" "imageLand" "LNoonOnABarrow$Land;" ∈ x_tb := x_tb_in (List.mem_of_getElem? (i := 496) (by decide +kernel)) (by decide +kernel)
theorem lk_497 : Cond.fieldLink "NoonOnABarrow" 47 "NoonOnABarrow" "imageDay" "LNoonOnABarrow$Day;" ∈ x_tb := x_tb_in (List.mem_of_getElem? (i := 497) (by decide +kernel)) (by decide +kernel)
theorem lk_498 : Cond.fieldLink "NoonOnABarrow" 50 "NoonOnABarrow" "imageSteps" "LNoonOnABarrow$Steps;" ∈ x_tb := x_tb_in (List.mem_of_getElem? (i := 498) (by decide +kernel)) (by decide +kernel)
theorem lk_499 : Cond.fieldLink "NoonOnABarrow" 53 "NoonOnABarrow" "imageTold" "I" ∈ x_tb := x_tb_in (List.mem_of_getElem? (i := 499) (by decide +kernel)) (by decide +kernel)
theorem lk_500 : Cond.fieldLink "NoonOnABarrow" 56 "NoonOnABarrow" "imageRuling" "I" ∈ x_tb := x_tb_in (List.mem_of_getElem? (i := 500) (by decide +kernel)) (by decide +kernel)
theorem lk_501 : Cond.fieldLink "NoonOnABarrow" 62 "NoonOnABarrow" "tape" "LNoonOnABarrow$Tape;" ∈ x_tb := x_tb_in (List.mem_of_getElem? (i := 501) (by decide +kernel)) (by decide +kernel)
theorem lk_502 : Cond.fieldLink "NoonOnABarrow" 71 "NoonOnABarrow" "reader" "LNoonOnABarrow$Reader;" ∈ x_tb := x_tb_in (List.mem_of_getElem? (i := 502) (by decide +kernel)) (by decide +kernel)
theorem lk_503 : Cond.fieldLink "NoonOnABarrow" 80 "NoonOnABarrow" "laws" "LNoonOnABarrow$Laws;" ∈ x_tb := x_tb_in (List.mem_of_getElem? (i := 503) (by decide +kernel)) (by decide +kernel)
theorem lk_504 : Cond.fieldLink "NoonOnABarrow" 89 "NoonOnABarrow" "doings" "LNoonOnABarrow$Doings;" ∈ x_tb := x_tb_in (List.mem_of_getElem? (i := 504) (by decide +kernel)) (by decide +kernel)
theorem lk_505 : Cond.fieldLink "NoonOnABarrow" 96 "NoonOnABarrow" "ways" "LNoonOnABarrow$Ways;" ∈ x_tb := x_tb_in (List.mem_of_getElem? (i := 505) (by decide +kernel)) (by decide +kernel)
theorem lk_506 : Cond.fieldLink "NoonOnABarrow" 103 "NoonOnABarrow" "counsel" "LNoonOnABarrow$Counsel;" ∈ x_tb := x_tb_in (List.mem_of_getElem? (i := 506) (by decide +kernel)) (by decide +kernel)
theorem lk_507 : Cond.fieldLink "NoonOnABarrow" 107 "NoonOnABarrow" "guess" "LNoonOnABarrow$Day;" ∈ x_tb := x_tb_in (List.mem_of_getElem? (i := 507) (by decide +kernel)) (by decide +kernel)
theorem lk_549 : Cond.methodLink "NoonOnABarrow" 110 yX3_addHouse ∈ x_tb := x_tb_in (List.mem_of_getElem? (i := 549) (by decide +kernel)) (by decide +kernel)
theorem lk_553 : Cond.methodLink "NoonOnABarrow$Land" 54 yX3_measure ∈ x_tb := x_tb_in (List.mem_of_getElem? (i := 553) (by decide +kernel)) (by decide +kernel)
theorem lk_557 : Cond.methodLink "NoonOnABarrow$Land" 61 yX3_shorten ∈ x_tb := x_tb_in (List.mem_of_getElem? (i := 557) (by decide +kernel)) (by decide +kernel)
theorem lk_561 : Cond.methodLink "NoonOnABarrow$Land" 65 Lib.Math.min.name ∈ x_tb := x_tb_in (List.mem_of_getElem? (i := 561) (by decide +kernel)) (by decide +kernel)
theorem lk_568 : Cond.methodLink "NoonOnABarrow" 114 yX3_isHouse ∈ x_tb := x_tb_in (List.mem_of_getElem? (i := 568) (by decide +kernel)) (by decide +kernel)
theorem lk_572 : Cond.methodLink "NoonOnABarrow" 118 yX3_setLane ∈ x_tb := x_tb_in (List.mem_of_getElem? (i := 572) (by decide +kernel)) (by decide +kernel)
theorem lk_576 : Cond.methodLink "NoonOnABarrow$Land" 57 yX3_isHouse ∈ x_tb := x_tb_in (List.mem_of_getElem? (i := 576) (by decide +kernel)) (by decide +kernel)
theorem lk_581 : Cond.methodLink "NoonOnABarrow" 122 yX3_addPusher ∈ x_tb := x_tb_in (List.mem_of_getElem? (i := 581) (by decide +kernel)) (by decide +kernel)
theorem lk_589 : Cond.methodLink "NoonOnABarrow" 125 yX2_canSetOff ∈ x_tb := x_tb_in (List.mem_of_getElem? (i := 589) (by decide +kernel)) (by decide +kernel)
theorem lk_593 : Cond.methodLink "NoonOnABarrow$Doings" 25 yX3_isPusher ∈ x_tb := x_tb_in (List.mem_of_getElem? (i := 593) (by decide +kernel)) (by decide +kernel)
theorem lk_597 : Cond.methodLink "NoonOnABarrow$Doings" 34 yX3_laneBetween ∈ x_tb := x_tb_in (List.mem_of_getElem? (i := 597) (by decide +kernel)) (by decide +kernel)
theorem lk_601 : Cond.methodLink "NoonOnABarrow" 129 yX7_keep ∈ x_tb := x_tb_in (List.mem_of_getElem? (i := 601) (by decide +kernel)) (by decide +kernel)
theorem lk_605 : Cond.methodLink "NoonOnABarrow$Steps" 25 yX7_dayAt ∈ x_tb := x_tb_in (List.mem_of_getElem? (i := 605) (by decide +kernel)) (by decide +kernel)
theorem lk_609 : Cond.methodLink "NoonOnABarrow$Steps" 29 yX1_copyFrom ∈ x_tb := x_tb_in (List.mem_of_getElem? (i := 609) (by decide +kernel)) (by decide +kernel)
theorem lk_613 : Cond.methodLink "NoonOnABarrow$Day" 43 arraycopyName ∈ x_tb := x_tb_in (List.mem_of_getElem? (i := 613) (by decide +kernel)) (by decide +kernel)
theorem lk_616 : Cond.methodLink "NoonOnABarrow" 133 yX2_setOff ∈ x_tb := x_tb_in (List.mem_of_getElem? (i := 616) (by decide +kernel)) (by decide +kernel)
theorem lk_620 : Cond.methodLink "NoonOnABarrow$Doings" 38 yX4_hardness ∈ x_tb := x_tb_in (List.mem_of_getElem? (i := 620) (by decide +kernel)) (by decide +kernel)
theorem lk_624 : Cond.methodLink "NoonOnABarrow$Laws" 46 yX3_laneBetween ∈ x_tb := x_tb_in (List.mem_of_getElem? (i := 624) (by decide +kernel)) (by decide +kernel)
theorem lk_625 : Cond.methodLink "NoonOnABarrow$Laws" 50 yX4_rules ∈ x_tb := x_tb_in (List.mem_of_getElem? (i := 625) (by decide +kernel)) (by decide +kernel)
theorem lk_629 : Cond.methodLink "NoonOnABarrow$Laws" 26 yX9_hasLaw ∈ x_tb := x_tb_in (List.mem_of_getElem? (i := 629) (by decide +kernel)) (by decide +kernel)
theorem lk_633 : Cond.methodLink "NoonOnABarrow$Laws" 53 yX3_hillOf ∈ x_tb := x_tb_in (List.mem_of_getElem? (i := 633) (by decide +kernel)) (by decide +kernel)
theorem lk_637 : Cond.methodLink "NoonOnABarrow$Laws" 57 Lib.Math.max.name ∈ x_tb := x_tb_in (List.mem_of_getElem? (i := 637) (by decide +kernel)) (by decide +kernel)
theorem lk_640 : Cond.methodLink "NoonOnABarrow$Laws" 62 yX4_nameHere ∈ x_tb := x_tb_in (List.mem_of_getElem? (i := 640) (by decide +kernel)) (by decide +kernel)
theorem lk_644 : Cond.methodLink "NoonOnABarrow$Laws" 38 yX3_isHouse ∈ x_tb := x_tb_in (List.mem_of_getElem? (i := 644) (by decide +kernel)) (by decide +kernel)
theorem lk_645 : Cond.methodLink "NoonOnABarrow$Laws" 66 yX3_strengthOf ∈ x_tb := x_tb_in (List.mem_of_getElem? (i := 645) (by decide +kernel)) (by decide +kernel)
theorem lk_649 : Cond.methodLink "NoonOnABarrow$Land" 71 yX3_isPusher ∈ x_tb := x_tb_in (List.mem_of_getElem? (i := 649) (by decide +kernel)) (by decide +kernel)
theorem lk_650 : Cond.methodLink "NoonOnABarrow$Laws" 69 yX4_said ∈ x_tb := x_tb_in (List.mem_of_getElem? (i := 650) (by decide +kernel)) (by decide +kernel)
theorem lk_654 : Cond.methodLink "NoonOnABarrow$Laws" 103 yX9_lawEnd ∈ x_tb := x_tb_in (List.mem_of_getElem? (i := 654) (by decide +kernel)) (by decide +kernel)
theorem lk_658 : Cond.methodLink "NoonOnABarrow$Laws" 106 yX9_lawStart ∈ x_tb := x_tb_in (List.mem_of_getElem? (i := 658) (by decide +kernel)) (by decide +kernel)
theorem lk_662 : Cond.methodLink "NoonOnABarrow$Laws" 109 yX9_givenAt ∈ x_tb := x_tb_in (List.mem_of_getElem? (i := 662) (by decide +kernel)) (by decide +kernel)
theorem lk_666 : Cond.methodLink "NoonOnABarrow$Laws" 112 yX9_stepAt ∈ x_tb := x_tb_in (List.mem_of_getElem? (i := 666) (by decide +kernel)) (by decide +kernel)
theorem lk_670 : Cond.methodLink "NoonOnABarrow$Laws" 115 yX4_lay ∈ x_tb := x_tb_in (List.mem_of_getElem? (i := 670) (by decide +kernel)) (by decide +kernel)
theorem lk_674 : Cond.methodLink "NoonOnABarrow$Laws" 119 yX4_lift ∈ x_tb := x_tb_in (List.mem_of_getElem? (i := 674) (by decide +kernel)) (by decide +kernel)
theorem lk_678 : Cond.methodLink "NoonOnABarrow$Laws" 97 yX3_wayBetween ∈ x_tb := x_tb_in (List.mem_of_getElem? (i := 678) (by decide +kernel)) (by decide +kernel)
theorem lk_682 : Cond.methodLink "NoonOnABarrow$Laws" 123 yX4_joined ∈ x_tb := x_tb_in (List.mem_of_getElem? (i := 682) (by decide +kernel)) (by decide +kernel)
theorem lk_685 : Cond.constantLong "NoonOnABarrow$Laws" 126 (1000000) ∈ x_tb := x_tb_in (List.mem_of_getElem? (i := 685) (by decide +kernel)) (by decide +kernel)
theorem lk_686 : Cond.constant "NoonOnABarrow$Laws" 128 (1000000) ∈ x_tb := x_tb_in (List.mem_of_getElem? (i := 686) (by decide +kernel)) (by decide +kernel)
theorem lk_687 : Cond.constantLong "NoonOnABarrow$Laws" 129 (-1000000) ∈ x_tb := x_tb_in (List.mem_of_getElem? (i := 687) (by decide +kernel)) (by decide +kernel)
theorem lk_688 : Cond.constant "NoonOnABarrow$Laws" 131 (-1000000) ∈ x_tb := x_tb_in (List.mem_of_getElem? (i := 688) (by decide +kernel)) (by decide +kernel)
theorem lk_692 : Cond.methodLink "NoonOnABarrow" 357 Lib.Math.min.name ∈ x_tb := x_tb_in (List.mem_of_getElem? (i := 692) (by decide +kernel)) (by decide +kernel)
theorem lk_693 : Cond.methodLink "NoonOnABarrow" 364 Lib.Math.max.name ∈ x_tb := x_tb_in (List.mem_of_getElem? (i := 693) (by decide +kernel)) (by decide +kernel)
theorem lk_698 : Cond.methodLink "NoonOnABarrow" 140 yX2_tipOver ∈ x_tb := x_tb_in (List.mem_of_getElem? (i := 698) (by decide +kernel)) (by decide +kernel)
theorem lk_702 : Cond.methodLink "NoonOnABarrow$Doings" 50 yX1_lieAt ∈ x_tb := x_tb_in (List.mem_of_getElem? (i := 702) (by decide +kernel)) (by decide +kernel)
theorem lk_706 : Cond.methodLink "NoonOnABarrow$Doings" 57 Lib.Math.max.name ∈ x_tb := x_tb_in (List.mem_of_getElem? (i := 706) (by decide +kernel)) (by decide +kernel)
theorem lk_715 : Cond.methodLink "NoonOnABarrow" 149 yX2_passMinute ∈ x_tb := x_tb_in (List.mem_of_getElem? (i := 715) (by decide +kernel)) (by decide +kernel)
theorem lk_719 : Cond.methodLink "NoonOnABarrow$Doings" 62 yX2_roll ∈ x_tb := x_tb_in (List.mem_of_getElem? (i := 719) (by decide +kernel)) (by decide +kernel)
theorem lk_723 : Cond.methodLink "NoonOnABarrow$Doings" 76 yX3_strengthOf ∈ x_tb := x_tb_in (List.mem_of_getElem? (i := 723) (by decide +kernel)) (by decide +kernel)
theorem lk_724 : Cond.methodLink "NoonOnABarrow$Doings" 80 yX4_wearing ∈ x_tb := x_tb_in (List.mem_of_getElem? (i := 724) (by decide +kernel)) (by decide +kernel)
theorem lk_728 : Cond.methodLink "NoonOnABarrow$Doings" 84 Lib.Math.min.name ∈ x_tb := x_tb_in (List.mem_of_getElem? (i := 728) (by decide +kernel)) (by decide +kernel)
theorem lk_729 : Cond.methodLink "NoonOnABarrow$Doings" 69 yX2_fallsInDebt ∈ x_tb := x_tb_in (List.mem_of_getElem? (i := 729) (by decide +kernel)) (by decide +kernel)
theorem lk_733 : Cond.methodLink "NoonOnABarrow$Doings" 91 yX4_earning ∈ x_tb := x_tb_in (List.mem_of_getElem? (i := 733) (by decide +kernel)) (by decide +kernel)
theorem lk_737 : Cond.methodLink "NoonOnABarrow$Laws" 85 yX3_hourBy ∈ x_tb := x_tb_in (List.mem_of_getElem? (i := 737) (by decide +kernel)) (by decide +kernel)
theorem lk_741 : Cond.methodLink "NoonOnABarrow$Land" 74 yX3_wayBetween ∈ x_tb := x_tb_in (List.mem_of_getElem? (i := 741) (by decide +kernel)) (by decide +kernel)
theorem lk_742 : Cond.methodLink "NoonOnABarrow$Land" 77 Lib.Math.max.name ∈ x_tb := x_tb_in (List.mem_of_getElem? (i := 742) (by decide +kernel)) (by decide +kernel)
theorem lk_743 : Cond.methodLink "NoonOnABarrow$Laws" 88 Lib.Math.abs.name ∈ x_tb := x_tb_in (List.mem_of_getElem? (i := 743) (by decide +kernel)) (by decide +kernel)
theorem lk_746 : Cond.methodLink "NoonOnABarrow$Laws" 91 yX1_paleOf ∈ x_tb := x_tb_in (List.mem_of_getElem? (i := 746) (by decide +kernel)) (by decide +kernel)
theorem lk_750 : Cond.methodLink "NoonOnABarrow$Laws" 94 yX1_purseOf ∈ x_tb := x_tb_in (List.mem_of_getElem? (i := 750) (by decide +kernel)) (by decide +kernel)
theorem lk_755 : Cond.methodLink "NoonOnABarrow$Doings" 99 yX1_writeDebt ∈ x_tb := x_tb_in (List.mem_of_getElem? (i := 755) (by decide +kernel)) (by decide +kernel)
theorem lk_759 : Cond.methodLink "NoonOnABarrow$Doings" 103 yX3_hourBy ∈ x_tb := x_tb_in (List.mem_of_getElem? (i := 759) (by decide +kernel)) (by decide +kernel)
theorem lk_764 : Cond.methodLink "NoonOnABarrow" 159 yX2_doAsDrawn ∈ x_tb := x_tb_in (List.mem_of_getElem? (i := 764) (by decide +kernel)) (by decide +kernel)
theorem lk_768 : Cond.methodLink "NoonOnABarrow$Doings" 109 yX1_draw ∈ x_tb := x_tb_in (List.mem_of_getElem? (i := 768) (by decide +kernel)) (by decide +kernel)
theorem lk_772 : Cond.methodLink "NoonOnABarrow$Doings" 112 yX2_setOffAsDrawn ∈ x_tb := x_tb_in (List.mem_of_getElem? (i := 772) (by decide +kernel)) (by decide +kernel)
theorem lk_776 : Cond.methodLink "NoonOnABarrow$Doings" 124 yX2_canSetOff ∈ x_tb := x_tb_in (List.mem_of_getElem? (i := 776) (by decide +kernel)) (by decide +kernel)
theorem lk_777 : Cond.methodLink "NoonOnABarrow$Doings" 128 yX2_setOff ∈ x_tb := x_tb_in (List.mem_of_getElem? (i := 777) (by decide +kernel)) (by decide +kernel)
theorem lk_778 : Cond.methodLink "NoonOnABarrow$Doings" 115 yX2_tipOver ∈ x_tb := x_tb_in (List.mem_of_getElem? (i := 778) (by decide +kernel)) (by decide +kernel)
theorem lk_779 : Cond.methodLink "NoonOnABarrow$Doings" 118 yX2_passMinute ∈ x_tb := x_tb_in (List.mem_of_getElem? (i := 779) (by decide +kernel)) (by decide +kernel)
theorem lk_784 : Cond.methodLink "NoonOnABarrow" 165 yX8_addFour ∈ x_tb := x_tb_in (List.mem_of_getElem? (i := 784) (by decide +kernel)) (by decide +kernel)
theorem lk_796 : Cond.methodLink "NoonOnABarrow" 169 yX6_read ∈ x_tb := x_tb_in (List.mem_of_getElem? (i := 796) (by decide +kernel)) (by decide +kernel)
theorem lk_800 : Cond.methodLink "NoonOnABarrow$Reader" 32 yX9_empty ∈ x_tb := x_tb_in (List.mem_of_getElem? (i := 800) (by decide +kernel)) (by decide +kernel)
theorem lk_804 : Cond.methodLink "NoonOnABarrow$Reader" 35 yX8_cut ∈ x_tb := x_tb_in (List.mem_of_getElem? (i := 804) (by decide +kernel)) (by decide +kernel)
theorem lk_808 : Cond.methodLink "NoonOnABarrow$Tape" 31 yX8_byteAt ∈ x_tb := x_tb_in (List.mem_of_getElem? (i := 808) (by decide +kernel)) (by decide +kernel)
theorem lk_812 : Cond.methodLink "NoonOnABarrow$Tape" 35 yX8_isLetter ∈ x_tb := x_tb_in (List.mem_of_getElem? (i := 812) (by decide +kernel)) (by decide +kernel)
theorem lk_815 : Cond.methodLink "NoonOnABarrow$Tape" 39 yX8_cutWord ∈ x_tb := x_tb_in (List.mem_of_getElem? (i := 815) (by decide +kernel)) (by decide +kernel)
theorem lk_819 : Cond.methodLink "NoonOnABarrow$Tape" 55 yX8_wordOf ∈ x_tb := x_tb_in (List.mem_of_getElem? (i := 819) (by decide +kernel)) (by decide +kernel)
theorem lk_872 : Cond.methodLink "NoonOnABarrow$Tape" 51 yX8_note ∈ x_tb := x_tb_in (List.mem_of_getElem? (i := 872) (by decide +kernel)) (by decide +kernel)
theorem lk_876 : Cond.methodLink "NoonOnABarrow$Tape" 42 yX8_isDigit ∈ x_tb := x_tb_in (List.mem_of_getElem? (i := 876) (by decide +kernel)) (by decide +kernel)
theorem lk_879 : Cond.methodLink "NoonOnABarrow$Tape" 45 yX8_cutNumber ∈ x_tb := x_tb_in (List.mem_of_getElem? (i := 879) (by decide +kernel)) (by decide +kernel)
theorem lk_883 : Cond.methodLink "NoonOnABarrow$Tape" 70 Lib.Math.min.name ∈ x_tb := x_tb_in (List.mem_of_getElem? (i := 883) (by decide +kernel)) (by decide +kernel)
theorem lk_884 : Cond.methodLink "NoonOnABarrow$Tape" 48 yX8_cutSign ∈ x_tb := x_tb_in (List.mem_of_getElem? (i := 884) (by decide +kernel)) (by decide +kernel)
theorem lk_944 : Cond.methodLink "NoonOnABarrow$Reader" 40 yX8_kindAt ∈ x_tb := x_tb_in (List.mem_of_getElem? (i := 944) (by decide +kernel)) (by decide +kernel)
theorem lk_948 : Cond.methodLink "NoonOnABarrow$Reader" 44 yX6_readClause ∈ x_tb := x_tb_in (List.mem_of_getElem? (i := 948) (by decide +kernel)) (by decide +kernel)
theorem lk_952 : Cond.methodLink "NoonOnABarrow$Reader" 54 yX6_refuse ∈ x_tb := x_tb_in (List.mem_of_getElem? (i := 952) (by decide +kernel)) (by decide +kernel)
theorem lk_956 : Cond.methodLink "NoonOnABarrow$Reader" 47 yX8_placeAt ∈ x_tb := x_tb_in (List.mem_of_getElem? (i := 956) (by decide +kernel)) (by decide +kernel)
theorem lk_960 : Cond.methodLink "NoonOnABarrow$Reader" 61 yX9_hasLaw ∈ x_tb := x_tb_in (List.mem_of_getElem? (i := 960) (by decide +kernel)) (by decide +kernel)
theorem lk_961 : Cond.methodLink "NoonOnABarrow$Reader" 73 yX6_readSum ∈ x_tb := x_tb_in (List.mem_of_getElem? (i := 961) (by decide +kernel)) (by decide +kernel)
theorem lk_965 : Cond.methodLink "NoonOnABarrow$Reader" 94 yX6_readProduct ∈ x_tb := x_tb_in (List.mem_of_getElem? (i := 965) (by decide +kernel)) (by decide +kernel)
theorem lk_969 : Cond.methodLink "NoonOnABarrow$Reader" 100 yX6_readOne ∈ x_tb := x_tb_in (List.mem_of_getElem? (i := 969) (by decide +kernel)) (by decide +kernel)
theorem lk_973 : Cond.methodLink "NoonOnABarrow$Reader" 90 yX6_expectNumber ∈ x_tb := x_tb_in (List.mem_of_getElem? (i := 973) (by decide +kernel)) (by decide +kernel)
theorem lk_977 : Cond.methodLink "NoonOnABarrow$Reader" 58 yX8_valueAt ∈ x_tb := x_tb_in (List.mem_of_getElem? (i := 977) (by decide +kernel)) (by decide +kernel)
theorem lk_981 : Cond.methodLink "NoonOnABarrow$Reader" 50 yX6_isNext ∈ x_tb := x_tb_in (List.mem_of_getElem? (i := 981) (by decide +kernel)) (by decide +kernel)
theorem lk_985 : Cond.methodLink "NoonOnABarrow$Reader" 97 yX9_ask ∈ x_tb := x_tb_in (List.mem_of_getElem? (i := 985) (by decide +kernel)) (by decide +kernel)
theorem lk_989 : Cond.methodLink "NoonOnABarrow$Reader" 103 yX6_opens ∈ x_tb := x_tb_in (List.mem_of_getElem? (i := 989) (by decide +kernel)) (by decide +kernel)
theorem lk_993 : Cond.methodLink "NoonOnABarrow$Reader" 87 yX6_expect ∈ x_tb := x_tb_in (List.mem_of_getElem? (i := 993) (by decide +kernel)) (by decide +kernel)
theorem lk_997 : Cond.methodLink "NoonOnABarrow$Reader" 106 yX6_readFar ∈ x_tb := x_tb_in (List.mem_of_getElem? (i := 997) (by decide +kernel)) (by decide +kernel)
theorem lk_1001 : Cond.methodLink "NoonOnABarrow$Reader" 109 yX6_readIf ∈ x_tb := x_tb_in (List.mem_of_getElem? (i := 1001) (by decide +kernel)) (by decide +kernel)
theorem lk_1005 : Cond.methodLink "NoonOnABarrow$Reader" 119 yX6_readEither ∈ x_tb := x_tb_in (List.mem_of_getElem? (i := 1005) (by decide +kernel)) (by decide +kernel)
theorem lk_1009 : Cond.methodLink "NoonOnABarrow$Reader" 125 yX6_readBoth ∈ x_tb := x_tb_in (List.mem_of_getElem? (i := 1009) (by decide +kernel)) (by decide +kernel)
theorem lk_1013 : Cond.methodLink "NoonOnABarrow$Reader" 128 yX6_readAsk ∈ x_tb := x_tb_in (List.mem_of_getElem? (i := 1013) (by decide +kernel)) (by decide +kernel)
theorem lk_1017 : Cond.methodLink "NoonOnABarrow$Reader" 131 yX6_compares ∈ x_tb := x_tb_in (List.mem_of_getElem? (i := 1017) (by decide +kernel)) (by decide +kernel)
theorem lk_1020 : Cond.methodLink "NoonOnABarrow$Reader" 122 yX9_goOnHere ∈ x_tb := x_tb_in (List.mem_of_getElem? (i := 1020) (by decide +kernel)) (by decide +kernel)
theorem lk_1024 : Cond.methodLink "NoonOnABarrow$Reader" 112 yX6_readName ∈ x_tb := x_tb_in (List.mem_of_getElem? (i := 1024) (by decide +kernel)) (by decide +kernel)
theorem lk_1030 : Cond.methodLink "NoonOnABarrow$Reader" 76 yX9_setLaw ∈ x_tb := x_tb_in (List.mem_of_getElem? (i := 1030) (by decide +kernel)) (by decide +kernel)
theorem lk_1034 : Cond.methodLink "NoonOnABarrow$Reader" 80 yX9_addClause ∈ x_tb := x_tb_in (List.mem_of_getElem? (i := 1034) (by decide +kernel)) (by decide +kernel)
theorem lk_1038 : Cond.methodLink "NoonOnABarrow$Reader" 84 yX6_readDeed ∈ x_tb := x_tb_in (List.mem_of_getElem? (i := 1038) (by decide +kernel)) (by decide +kernel)
theorem lk_1051 : Cond.methodLink "NoonOnABarrow" 179 yX11_textTold ∈ x_tb := x_tb_in (List.mem_of_getElem? (i := 1051) (by decide +kernel)) (by decide +kernel)
theorem lk_1055 : Cond.methodLink "NoonOnABarrow" 183 yX11_letRule ∈ x_tb := x_tb_in (List.mem_of_getElem? (i := 1055) (by decide +kernel)) (by decide +kernel)
theorem lk_1063 : Cond.methodLink "NoonOnABarrow" 189 yX11_isDone ∈ x_tb := x_tb_in (List.mem_of_getElem? (i := 1063) (by decide +kernel)) (by decide +kernel)
theorem lk_1067 : Cond.methodLink "NoonOnABarrow" 336 yX11_house ∈ x_tb := x_tb_in (List.mem_of_getElem? (i := 1067) (by decide +kernel)) (by decide +kernel)
theorem lk_1068 : Cond.methodLink "NoonOnABarrow" 341 yX11_lane ∈ x_tb := x_tb_in (List.mem_of_getElem? (i := 1068) (by decide +kernel)) (by decide +kernel)
theorem lk_1069 : Cond.methodLink "NoonOnABarrow" 345 yX11_pusher ∈ x_tb := x_tb_in (List.mem_of_getElem? (i := 1069) (by decide +kernel)) (by decide +kernel)
theorem lk_1070 : Cond.methodLink "NoonOnABarrow" 347 yX11_push ∈ x_tb := x_tb_in (List.mem_of_getElem? (i := 1070) (by decide +kernel)) (by decide +kernel)
theorem lk_1071 : Cond.methodLink "NoonOnABarrow" 350 yX11_tip ∈ x_tb := x_tb_in (List.mem_of_getElem? (i := 1071) (by decide +kernel)) (by decide +kernel)
theorem lk_1072 : Cond.methodLink "NoonOnABarrow" 354 yX11_mend ∈ x_tb := x_tb_in (List.mem_of_getElem? (i := 1072) (by decide +kernel)) (by decide +kernel)
theorem lk_1073 : Cond.methodLink "NoonOnABarrow" 362 yX11_minute ∈ x_tb := x_tb_in (List.mem_of_getElem? (i := 1073) (by decide +kernel)) (by decide +kernel)
theorem lk_1078 : Cond.methodLink "NoonOnABarrow" 193 yX7_takeBack ∈ x_tb := x_tb_in (List.mem_of_getElem? (i := 1078) (by decide +kernel)) (by decide +kernel)
theorem lk_1086 : Cond.methodLink "NoonOnABarrow" 196 yX3_hillOf ∈ x_tb := x_tb_in (List.mem_of_getElem? (i := 1086) (by decide +kernel)) (by decide +kernel)
theorem lk_1087 : Cond.methodLink "NoonOnABarrow" 199 yX1_purseOf ∈ x_tb := x_tb_in (List.mem_of_getElem? (i := 1087) (by decide +kernel)) (by decide +kernel)
theorem lk_1088 : Cond.methodLink "NoonOnABarrow" 202 yX1_paleOf ∈ x_tb := x_tb_in (List.mem_of_getElem? (i := 1088) (by decide +kernel)) (by decide +kernel)
theorem lk_1089 : Cond.methodLink "NoonOnABarrow" 208 yX3_hourBy ∈ x_tb := x_tb_in (List.mem_of_getElem? (i := 1089) (by decide +kernel)) (by decide +kernel)
theorem lk_1090 : Cond.methodLink "NoonOnABarrow" 212 yX4_earning ∈ x_tb := x_tb_in (List.mem_of_getElem? (i := 1090) (by decide +kernel)) (by decide +kernel)
theorem lk_1095 : Cond.methodLink "NoonOnABarrow" 216 yX3_wayBetween ∈ x_tb := x_tb_in (List.mem_of_getElem? (i := 1095) (by decide +kernel)) (by decide +kernel)
theorem lk_1096 : Cond.methodLink "NoonOnABarrow" 219 yX3_laneBetween ∈ x_tb := x_tb_in (List.mem_of_getElem? (i := 1096) (by decide +kernel)) (by decide +kernel)
theorem lk_1097 : Cond.methodLink "NoonOnABarrow" 222 yX4_warmth ∈ x_tb := x_tb_in (List.mem_of_getElem? (i := 1097) (by decide +kernel)) (by decide +kernel)
theorem lk_1105 : Cond.methodLink "NoonOnABarrow" 232 yX4_wearing ∈ x_tb := x_tb_in (List.mem_of_getElem? (i := 1105) (by decide +kernel)) (by decide +kernel)
theorem lk_1110 : Cond.methodLink "NoonOnABarrow" 235 yX3_isPusher ∈ x_tb := x_tb_in (List.mem_of_getElem? (i := 1110) (by decide +kernel)) (by decide +kernel)
theorem lk_1111 : Cond.methodLink "NoonOnABarrow" 238 yX4_hardness ∈ x_tb := x_tb_in (List.mem_of_getElem? (i := 1111) (by decide +kernel)) (by decide +kernel)
theorem lk_1116 : Cond.methodLink "NoonOnABarrow" 245 yX1_debtWritten ∈ x_tb := x_tb_in (List.mem_of_getElem? (i := 1116) (by decide +kernel)) (by decide +kernel)
theorem lk_1124 : Cond.methodLink "NoonOnABarrow" 248 yX1_copyFrom ∈ x_tb := x_tb_in (List.mem_of_getElem? (i := 1124) (by decide +kernel)) (by decide +kernel)
theorem lk_1129 : Cond.methodLink "NoonOnABarrow" 251 yX2_roll ∈ x_tb := x_tb_in (List.mem_of_getElem? (i := 1129) (by decide +kernel)) (by decide +kernel)
theorem lk_1134 : Cond.methodLink "NoonOnABarrow" 258 yX3_noteDown ∈ x_tb := x_tb_in (List.mem_of_getElem? (i := 1134) (by decide +kernel)) (by decide +kernel)
theorem lk_1142 : Cond.methodLink "NoonOnABarrow" 262 yX0_placesFitting ∈ x_tb := x_tb_in (List.mem_of_getElem? (i := 1142) (by decide +kernel)) (by decide +kernel)
theorem lk_1146 : Cond.methodLink "NoonOnABarrow$Counsel" 29 yX0_fits ∈ x_tb := x_tb_in (List.mem_of_getElem? (i := 1146) (by decide +kernel)) (by decide +kernel)
theorem lk_1150 : Cond.methodLink "NoonOnABarrow$Counsel" 45 yX3_hourBy ∈ x_tb := x_tb_in (List.mem_of_getElem? (i := 1150) (by decide +kernel)) (by decide +kernel)
theorem lk_1155 : Cond.methodLink "NoonOnABarrow" 266 yX10_seekRoute ∈ x_tb := x_tb_in (List.mem_of_getElem? (i := 1155) (by decide +kernel)) (by decide +kernel)
theorem lk_1159 : Cond.methodLink "NoonOnABarrow$Ways" 45 yX3_isHouse ∈ x_tb := x_tb_in (List.mem_of_getElem? (i := 1159) (by decide +kernel)) (by decide +kernel)
theorem lk_1160 : Cond.methodLink "NoonOnABarrow$Ways" 51 yX10_comeTo ∈ x_tb := x_tb_in (List.mem_of_getElem? (i := 1160) (by decide +kernel)) (by decide +kernel)
theorem lk_1164 : Cond.methodLink "NoonOnABarrow$Ways" 82 yX3_hourBy ∈ x_tb := x_tb_in (List.mem_of_getElem? (i := 1164) (by decide +kernel)) (by decide +kernel)
theorem lk_1165 : Cond.methodLink "NoonOnABarrow$Ways" 64 yX10_lanesBehind ∈ x_tb := x_tb_in (List.mem_of_getElem? (i := 1165) (by decide +kernel)) (by decide +kernel)
theorem lk_1169 : Cond.methodLink "NoonOnABarrow$Ways" 88 yX10_placeAhead ∈ x_tb := x_tb_in (List.mem_of_getElem? (i := 1169) (by decide +kernel)) (by decide +kernel)
theorem lk_1173 : Cond.methodLink "NoonOnABarrow$Ways" 68 yX10_goOnFrom ∈ x_tb := x_tb_in (List.mem_of_getElem? (i := 1173) (by decide +kernel)) (by decide +kernel)
theorem lk_1177 : Cond.methodLink "NoonOnABarrow$Ways" 75 yX3_laneBetween ∈ x_tb := x_tb_in (List.mem_of_getElem? (i := 1177) (by decide +kernel)) (by decide +kernel)
theorem lk_1178 : Cond.methodLink "NoonOnABarrow" 269 yX10_routeHouse ∈ x_tb := x_tb_in (List.mem_of_getElem? (i := 1178) (by decide +kernel)) (by decide +kernel)
theorem lk_1186 : Cond.methodLink "NoonOnABarrow" 272 yX10_seekLeast ∈ x_tb := x_tb_in (List.mem_of_getElem? (i := 1186) (by decide +kernel)) (by decide +kernel)
theorem lk_1190 : Cond.methodLink "NoonOnABarrow$Ways" 91 yX10_askCosts ∈ x_tb := x_tb_in (List.mem_of_getElem? (i := 1190) (by decide +kernel)) (by decide +kernel)
theorem lk_1194 : Cond.methodLink "NoonOnABarrow$Ways" 106 yX4_hardness ∈ x_tb := x_tb_in (List.mem_of_getElem? (i := 1194) (by decide +kernel)) (by decide +kernel)
theorem lk_1195 : Cond.constant "NoonOnABarrow$Ways" 95 (1000000) ∈ x_tb := x_tb_in (List.mem_of_getElem? (i := 1195) (by decide +kernel)) (by decide +kernel)
theorem lk_1196 : Cond.methodLink "NoonOnABarrow$Ways" 96 yX10_lowerRest ∈ x_tb := x_tb_in (List.mem_of_getElem? (i := 1196) (by decide +kernel)) (by decide +kernel)
theorem lk_1200 : Cond.methodLink "NoonOnABarrow$Ways" 112 Lib.Math.min.name ∈ x_tb := x_tb_in (List.mem_of_getElem? (i := 1200) (by decide +kernel)) (by decide +kernel)
theorem lk_1201 : Cond.methodLink "NoonOnABarrow$Ways" 103 yX10_lowestNext ∈ x_tb := x_tb_in (List.mem_of_getElem? (i := 1201) (by decide +kernel)) (by decide +kernel)
theorem lk_1205 : Cond.methodLink "NoonOnABarrow" 278 yX10_leastHouse ∈ x_tb := x_tb_in (List.mem_of_getElem? (i := 1205) (by decide +kernel)) (by decide +kernel)
theorem lk_1213 : Cond.methodLink "NoonOnABarrow" 281 yX0_voted ∈ x_tb := x_tb_in (List.mem_of_getElem? (i := 1213) (by decide +kernel)) (by decide +kernel)
theorem lk_1217 : Cond.methodLink "NoonOnABarrow$Counsel" 52 yX0_beatsAll ∈ x_tb := x_tb_in (List.mem_of_getElem? (i := 1217) (by decide +kernel)) (by decide +kernel)
theorem lk_1221 : Cond.methodLink "NoonOnABarrow$Counsel" 55 yX0_beats ∈ x_tb := x_tb_in (List.mem_of_getElem? (i := 1221) (by decide +kernel)) (by decide +kernel)
theorem lk_1225 : Cond.methodLink "NoonOnABarrow$Counsel" 59 yX3_wayBetween ∈ x_tb := x_tb_in (List.mem_of_getElem? (i := 1225) (by decide +kernel)) (by decide +kernel)
theorem lk_1230 : Cond.methodLink "NoonOnABarrow" 284 yX0_leftOfRow ∈ x_tb := x_tb_in (List.mem_of_getElem? (i := 1230) (by decide +kernel)) (by decide +kernel)
theorem lk_1234 : Cond.methodLink "NoonOnABarrow$Counsel" 62 yX0_isRow ∈ x_tb := x_tb_in (List.mem_of_getElem? (i := 1234) (by decide +kernel)) (by decide +kernel)
theorem lk_1238 : Cond.methodLink "NoonOnABarrow$Counsel" 65 Lib.Math.min.name ∈ x_tb := x_tb_in (List.mem_of_getElem? (i := 1238) (by decide +kernel)) (by decide +kernel)
theorem lk_1239 : Cond.methodLink "NoonOnABarrow$Counsel" 70 yX3_isHouse ∈ x_tb := x_tb_in (List.mem_of_getElem? (i := 1239) (by decide +kernel)) (by decide +kernel)
theorem lk_1248 : Cond.methodLink "NoonOnABarrow" 291 yX0_fairTurn ∈ x_tb := x_tb_in (List.mem_of_getElem? (i := 1248) (by decide +kernel)) (by decide +kernel)
theorem lk_1252 : Cond.methodLink "NoonOnABarrow$Counsel" 73 yX0_leastServed ∈ x_tb := x_tb_in (List.mem_of_getElem? (i := 1252) (by decide +kernel)) (by decide +kernel)
theorem lk_1256 : Cond.methodLink "NoonOnABarrow$Counsel" 77 yX0_isServedLess ∈ x_tb := x_tb_in (List.mem_of_getElem? (i := 1256) (by decide +kernel)) (by decide +kernel)
theorem lk_1268 : Cond.methodLink "NoonOnABarrow" 297 yX0_placesInFog ∈ x_tb := x_tb_in (List.mem_of_getElem? (i := 1268) (by decide +kernel)) (by decide +kernel)
theorem lk_1272 : Cond.methodLink "NoonOnABarrow$Counsel" 83 yX0_mayBeAt ∈ x_tb := x_tb_in (List.mem_of_getElem? (i := 1272) (by decide +kernel)) (by decide +kernel)
theorem lk_1276 : Cond.methodLink "NoonOnABarrow$Counsel" 90 yX4_warmth ∈ x_tb := x_tb_in (List.mem_of_getElem? (i := 1276) (by decide +kernel)) (by decide +kernel)
theorem lk_1281 : Cond.methodLink "NoonOnABarrow" 300 yX0_yardToFeel ∈ x_tb := x_tb_in (List.mem_of_getElem? (i := 1281) (by decide +kernel)) (by decide +kernel)
theorem lk_1285 : Cond.methodLink "NoonOnABarrow$Counsel" 96 yX0_placesInFog ∈ x_tb := x_tb_in (List.mem_of_getElem? (i := 1285) (by decide +kernel)) (by decide +kernel)
theorem lk_1286 : Cond.methodLink "NoonOnABarrow$Counsel" 100 yX0_answersAt ∈ x_tb := x_tb_in (List.mem_of_getElem? (i := 1286) (by decide +kernel)) (by decide +kernel)
theorem lk_1290 : Cond.methodLink "NoonOnABarrow$Counsel" 103 yX0_withAnswer ∈ x_tb := x_tb_in (List.mem_of_getElem? (i := 1290) (by decide +kernel)) (by decide +kernel)
theorem lk_1298 : Cond.methodLink "NoonOnABarrow" 303 yX0_farthestFromNoon ∈ x_tb := x_tb_in (List.mem_of_getElem? (i := 1298) (by decide +kernel)) (by decide +kernel)
theorem lk_1302 : Cond.methodLink "NoonOnABarrow$Counsel" 106 Lib.Math.abs.name ∈ x_tb := x_tb_in (List.mem_of_getElem? (i := 1302) (by decide +kernel)) (by decide +kernel)
theorem lk_1307 : Cond.methodLink "NoonOnABarrow" 306 yX0_bestWatch ∈ x_tb := x_tb_in (List.mem_of_getElem? (i := 1307) (by decide +kernel)) (by decide +kernel)
theorem lk_1311 : Cond.methodLink "NoonOnABarrow$Counsel" 110 yX0_nearBits ∈ x_tb := x_tb_in (List.mem_of_getElem? (i := 1311) (by decide +kernel)) (by decide +kernel)
theorem lk_1315 : Cond.methodLink "NoonOnABarrow$Counsel" 113 yJ6_bitCount_0f7a4 ∈ x_tb := x_tb_in (List.mem_of_getElem? (i := 1315) (by decide +kernel)) (by decide +kernel)
theorem lk_1318 : Cond.constant "java/lang/Integer" 265 (1431655765) ∈ x_tb := x_tb_in (List.mem_of_getElem? (i := 1318) (by decide +kernel)) (by decide +kernel)
theorem lk_1319 : Cond.constant "java/lang/Integer" 266 (858993459) ∈ x_tb := x_tb_in (List.mem_of_getElem? (i := 1319) (by decide +kernel)) (by decide +kernel)
theorem lk_1320 : Cond.constant "java/lang/Integer" 267 (252645135) ∈ x_tb := x_tb_in (List.mem_of_getElem? (i := 1320) (by decide +kernel)) (by decide +kernel)
theorem lk_1321 : Cond.methodLink "NoonOnABarrow$Counsel" 118 yX0_watchedBy ∈ x_tb := x_tb_in (List.mem_of_getElem? (i := 1321) (by decide +kernel)) (by decide +kernel)
theorem lk_1329 : Cond.methodLink "NoonOnABarrow" 309 yX3_copyFrom ∈ x_tb := x_tb_in (List.mem_of_getElem? (i := 1329) (by decide +kernel)) (by decide +kernel)
theorem lk_1333 : Cond.methodLink "NoonOnABarrow$Land" 44 arraycopyName ∈ x_tb := x_tb_in (List.mem_of_getElem? (i := 1333) (by decide +kernel)) (by decide +kernel)
theorem lk_1334 : Cond.methodLink "NoonOnABarrow$Land" 50 yX5_copyFrom ∈ x_tb := x_tb_in (List.mem_of_getElem? (i := 1334) (by decide +kernel)) (by decide +kernel)
theorem lk_1338 : Cond.methodLink "NoonOnABarrow$Pairs" 18 arraycopyName ∈ x_tb := x_tb_in (List.mem_of_getElem? (i := 1338) (by decide +kernel)) (by decide +kernel)
theorem lk_1339 : Cond.methodLink "NoonOnABarrow" 311 yX7_copyFrom ∈ x_tb := x_tb_in (List.mem_of_getElem? (i := 1339) (by decide +kernel)) (by decide +kernel)
theorem lk_1357 : Cond.methodLink "NoonOnABarrowModel" 109 yX12_copies ∈ x_tb := x_tb_in (List.mem_of_getElem? (i := 1357) (by decide +kernel)) (by decide +kernel)
theorem lk_1361 : Cond.fieldLink "NoonOnABarrowModel" 7 "NoonOnABarrowModel" "a" "[I" ∈ x_tb := x_tb_in (List.mem_of_getElem? (i := 1361) (by decide +kernel)) (by decide +kernel)
theorem lk_1362 : Cond.fieldLink "NoonOnABarrowModel" 13 "NoonOnABarrowModel" "image" "[I" ∈ x_tb := x_tb_in (List.mem_of_getElem? (i := 1362) (by decide +kernel)) (by decide +kernel)
theorem lk_1363 : Cond.fieldLink "NoonOnABarrowModel" 16 "NoonOnABarrowModel" "tape" "[B" ∈ x_tb := x_tb_in (List.mem_of_getElem? (i := 1363) (by decide +kernel)) (by decide +kernel)
theorem lk_1364 : Cond.fieldLink "NoonOnABarrowModel" 121 "NoonOnABarrowModel" "taped" "I" ∈ x_tb := x_tb_in (List.mem_of_getElem? (i := 1364) (by decide +kernel)) (by decide +kernel)
theorem lk_1365 : Cond.fieldLink "NoonOnABarrowModel" 20 "NoonOnABarrowModel" "fault" "I" ∈ x_tb := x_tb_in (List.mem_of_getElem? (i := 1365) (by decide +kernel)) (by decide +kernel)
theorem lk_1366 : Cond.fieldLink "NoonOnABarrowModel" 24 "NoonOnABarrowModel" "faultAt" "I" ∈ x_tb := x_tb_in (List.mem_of_getElem? (i := 1366) (by decide +kernel)) (by decide +kernel)
theorem lk_1367 : Cond.fieldLink "NoonOnABarrowModel" 27 "NoonOnABarrowModel" "clauses" "[I" ∈ x_tb := x_tb_in (List.mem_of_getElem? (i := 1367) (by decide +kernel)) (by decide +kernel)
theorem lk_1368 : Cond.fieldLink "NoonOnABarrowModel" 30 "NoonOnABarrowModel" "clauseWord" "[I" ∈ x_tb := x_tb_in (List.mem_of_getElem? (i := 1368) (by decide +kernel)) (by decide +kernel)
theorem lk_1369 : Cond.fieldLink "NoonOnABarrowModel" 33 "NoonOnABarrowModel" "clauseAt" "[I" ∈ x_tb := x_tb_in (List.mem_of_getElem? (i := 1369) (by decide +kernel)) (by decide +kernel)
theorem lk_1370 : Cond.fieldLink "NoonOnABarrowModel" 36 "NoonOnABarrowModel" "clauseOne" "[I" ∈ x_tb := x_tb_in (List.mem_of_getElem? (i := 1370) (by decide +kernel)) (by decide +kernel)
theorem lk_1371 : Cond.fieldLink "NoonOnABarrowModel" 39 "NoonOnABarrowModel" "clauseTwo" "[I" ∈ x_tb := x_tb_in (List.mem_of_getElem? (i := 1371) (by decide +kernel)) (by decide +kernel)
theorem lk_1372 : Cond.fieldLink "NoonOnABarrowModel" 42 "NoonOnABarrowModel" "clauseThree" "[I" ∈ x_tb := x_tb_in (List.mem_of_getElem? (i := 1372) (by decide +kernel)) (by decide +kernel)
theorem lk_1373 : Cond.fieldLink "NoonOnABarrowModel" 45 "NoonOnABarrowModel" "order" "[I" ∈ x_tb := x_tb_in (List.mem_of_getElem? (i := 1373) (by decide +kernel)) (by decide +kernel)
theorem lk_1374 : Cond.fieldLink "NoonOnABarrowModel" 48 "NoonOnABarrowModel" "value" "[I" ∈ x_tb := x_tb_in (List.mem_of_getElem? (i := 1374) (by decide +kernel)) (by decide +kernel)
theorem lk_1375 : Cond.fieldLink "NoonOnABarrowModel" 195 "NoonOnABarrowModel" "textLength" "I" ∈ x_tb := x_tb_in (List.mem_of_getElem? (i := 1375) (by decide +kernel)) (by decide +kernel)
theorem lk_1376 : Cond.fieldLink "NoonOnABarrowModel" 192 "NoonOnABarrowModel" "at" "I" ∈ x_tb := x_tb_in (List.mem_of_getElem? (i := 1376) (by decide +kernel)) (by decide +kernel)
theorem lk_1377 : Cond.fieldLink "NoonOnABarrowModel" 198 "NoonOnABarrowModel" "token" "I" ∈ x_tb := x_tb_in (List.mem_of_getElem? (i := 1377) (by decide +kernel)) (by decide +kernel)
theorem lk_1378 : Cond.fieldLink "NoonOnABarrowModel" 201 "NoonOnABarrowModel" "sort" "I" ∈ x_tb := x_tb_in (List.mem_of_getElem? (i := 1378) (by decide +kernel)) (by decide +kernel)
theorem lk_1379 : Cond.fieldLink "NoonOnABarrowModel" 213 "NoonOnABarrowModel" "tokenIs" "I" ∈ x_tb := x_tb_in (List.mem_of_getElem? (i := 1379) (by decide +kernel)) (by decide +kernel)
theorem lk_1380 : Cond.fieldLink "NoonOnABarrowModel" 217 "NoonOnABarrowModel" "wrong" "I" ∈ x_tb := x_tb_in (List.mem_of_getElem? (i := 1380) (by decide +kernel)) (by decide +kernel)
theorem lk_1381 : Cond.fieldLink "NoonOnABarrowModel" 220 "NoonOnABarrowModel" "wrongAt" "I" ∈ x_tb := x_tb_in (List.mem_of_getElem? (i := 1381) (by decide +kernel)) (by decide +kernel)
theorem lk_1382 : Cond.fieldLink "NoonOnABarrowModel" 229 "NoonOnABarrowModel" "open" "I" ∈ x_tb := x_tb_in (List.mem_of_getElem? (i := 1382) (by decide +kernel)) (by decide +kernel)
theorem lk_1383 : Cond.fieldLink "NoonOnABarrowModel" 226 "NoonOnABarrowModel" "frames" "I" ∈ x_tb := x_tb_in (List.mem_of_getElem? (i := 1383) (by decide +kernel)) (by decide +kernel)
theorem lk_1384 : Cond.fieldLink "NoonOnABarrowModel" 51 "NoonOnABarrowModel" "frame" "[I" ∈ x_tb := x_tb_in (List.mem_of_getElem? (i := 1384) (by decide +kernel)) (by decide +kernel)
theorem lk_1385 : Cond.fieldLink "NoonOnABarrowModel" 54 "NoonOnABarrowModel" "compare" "[I" ∈ x_tb := x_tb_in (List.mem_of_getElem? (i := 1385) (by decide +kernel)) (by decide +kernel)
theorem lk_1386 : Cond.fieldLink "NoonOnABarrowModel" 241 "NoonOnABarrowModel" "waits" "I" ∈ x_tb := x_tb_in (List.mem_of_getElem? (i := 1386) (by decide +kernel)) (by decide +kernel)
theorem lk_1387 : Cond.fieldLink "NoonOnABarrowModel" 57 "NoonOnABarrowModel" "wait" "[I" ∈ x_tb := x_tb_in (List.mem_of_getElem? (i := 1387) (by decide +kernel)) (by decide +kernel)
theorem lk_1388 : Cond.fieldLink "NoonOnABarrowModel" 60 "NoonOnABarrowModel" "waitFrame" "[I" ∈ x_tb := x_tb_in (List.mem_of_getElem? (i := 1388) (by decide +kernel)) (by decide +kernel)
theorem lk_1389 : Cond.fieldLink "NoonOnABarrowModel" 261 "NoonOnABarrowModel" "state" "I" ∈ x_tb := x_tb_in (List.mem_of_getElem? (i := 1389) (by decide +kernel)) (by decide +kernel)
theorem lk_1390 : Cond.fieldLink "NoonOnABarrowModel" 63 "NoonOnABarrowModel" "openAt" "[I" ∈ x_tb := x_tb_in (List.mem_of_getElem? (i := 1390) (by decide +kernel)) (by decide +kernel)
theorem lk_1391 : Cond.fieldLink "NoonOnABarrowModel" 302 "NoonOnABarrowModel" "newClauses" "I" ∈ x_tb := x_tb_in (List.mem_of_getElem? (i := 1391) (by decide +kernel)) (by decide +kernel)
theorem lk_1392 : Cond.fieldLink "NoonOnABarrowModel" 271 "NoonOnABarrowModel" "newKind" "I" ∈ x_tb := x_tb_in (List.mem_of_getElem? (i := 1392) (by decide +kernel)) (by decide +kernel)
theorem lk_1393 : Cond.fieldLink "NoonOnABarrowModel" 66 "NoonOnABarrowModel" "newWord" "[I" ∈ x_tb := x_tb_in (List.mem_of_getElem? (i := 1393) (by decide +kernel)) (by decide +kernel)
theorem lk_1394 : Cond.fieldLink "NoonOnABarrowModel" 69 "NoonOnABarrowModel" "newAt" "[I" ∈ x_tb := x_tb_in (List.mem_of_getElem? (i := 1394) (by decide +kernel)) (by decide +kernel)
theorem lk_1395 : Cond.fieldLink "NoonOnABarrowModel" 72 "NoonOnABarrowModel" "newOne" "[I" ∈ x_tb := x_tb_in (List.mem_of_getElem? (i := 1395) (by decide +kernel)) (by decide +kernel)
theorem lk_1396 : Cond.fieldLink "NoonOnABarrowModel" 75 "NoonOnABarrowModel" "newTwo" "[I" ∈ x_tb := x_tb_in (List.mem_of_getElem? (i := 1396) (by decide +kernel)) (by decide +kernel)
theorem lk_1397 : Cond.fieldLink "NoonOnABarrowModel" 78 "NoonOnABarrowModel" "newThree" "[I" ∈ x_tb := x_tb_in (List.mem_of_getElem? (i := 1397) (by decide +kernel)) (by decide +kernel)
theorem lk_1398 : Cond.fieldLink "NoonOnABarrowModel" 223 "NoonOnABarrowModel" "newOrders" "I" ∈ x_tb := x_tb_in (List.mem_of_getElem? (i := 1398) (by decide +kernel)) (by decide +kernel)
theorem lk_1399 : Cond.fieldLink "NoonOnABarrowModel" 81 "NoonOnABarrowModel" "newOrder" "[I" ∈ x_tb := x_tb_in (List.mem_of_getElem? (i := 1399) (by decide +kernel)) (by decide +kernel)
theorem lk_1400 : Cond.fieldLink "NoonOnABarrowModel" 84 "NoonOnABarrowModel" "newValue" "[I" ∈ x_tb := x_tb_in (List.mem_of_getElem? (i := 1400) (by decide +kernel)) (by decide +kernel)
theorem lk_1401 : Cond.fieldLink "NoonOnABarrowModel" 87 "NoonOnABarrowModel" "far" "[I" ∈ x_tb := x_tb_in (List.mem_of_getElem? (i := 1401) (by decide +kernel)) (by decide +kernel)
theorem lk_1402 : Cond.fieldLink "NoonOnABarrowModel" 90 "NoonOnABarrowModel" "w" "[I" ∈ x_tb := x_tb_in (List.mem_of_getElem? (i := 1402) (by decide +kernel)) (by decide +kernel)
theorem lk_1403 : Cond.fieldLink "NoonOnABarrowModel" 93 "NoonOnABarrowModel" "name" "[I" ∈ x_tb := x_tb_in (List.mem_of_getElem? (i := 1403) (by decide +kernel)) (by decide +kernel)
theorem lk_1404 : Cond.fieldLink "NoonOnABarrowModel" 96 "NoonOnABarrowModel" "pile" "[J" ∈ x_tb := x_tb_in (List.mem_of_getElem? (i := 1404) (by decide +kernel)) (by decide +kernel)
theorem lk_1405 : Cond.fieldLink "NoonOnABarrowModel" 100 "NoonOnABarrowModel" "yet" "[I" ∈ x_tb := x_tb_in (List.mem_of_getElem? (i := 1405) (by decide +kernel)) (by decide +kernel)
theorem lk_1406 : Cond.fieldLink "NoonOnABarrowModel" 103 "NoonOnABarrowModel" "pushing" "[I" ∈ x_tb := x_tb_in (List.mem_of_getElem? (i := 1406) (by decide +kernel)) (by decide +kernel)
theorem lk_1407 : Cond.fieldLink "NoonOnABarrowModel" 106 "NoonOnABarrowModel" "had" "[I" ∈ x_tb := x_tb_in (List.mem_of_getElem? (i := 1407) (by decide +kernel)) (by decide +kernel)
theorem lk_1508 : Cond.methodLink "NoonOnABarrowModel" 113 yX12_in ∈ x_tb := x_tb_in (List.mem_of_getElem? (i := 1508) (by decide +kernel)) (by decide +kernel)
theorem lk_1515 : Cond.methodLink "NoonOnABarrowModel" 117 yX12_isHouse ∈ x_tb := x_tb_in (List.mem_of_getElem? (i := 1515) (by decide +kernel)) (by decide +kernel)
theorem lk_1531 : Cond.methodLink "NoonOnABarrowModel" 124 yX12_put ∈ x_tb := x_tb_in (List.mem_of_getElem? (i := 1531) (by decide +kernel)) (by decide +kernel)
theorem lk_1543 : Cond.methodLink "NoonOnABarrowModel" 238 yX12_next ∈ x_tb := x_tb_in (List.mem_of_getElem? (i := 1543) (by decide +kernel)) (by decide +kernel)
theorem lk_1547 : Cond.methodLink "NoonOnABarrowModel" 204 yX12_isLetter ∈ x_tb := x_tb_in (List.mem_of_getElem? (i := 1547) (by decide +kernel)) (by decide +kernel)
theorem lk_1550 : Cond.constantLong "NoonOnABarrowModel" 207 (64) ∈ x_tb := x_tb_in (List.mem_of_getElem? (i := 1550) (by decide +kernel)) (by decide +kernel)
theorem lk_1551 : Cond.methodLink "NoonOnABarrowModel" 209 yX12_wordOf ∈ x_tb := x_tb_in (List.mem_of_getElem? (i := 1551) (by decide +kernel)) (by decide +kernel)
theorem lk_1554 : Cond.constantLong "NoonOnABarrowModel" 128 (10624164) ∈ x_tb := x_tb_in (List.mem_of_getElem? (i := 1554) (by decide +kernel)) (by decide +kernel)
theorem lk_1555 : Cond.constantLong "NoonOnABarrowModel" 130 (932584627) ∈ x_tb := x_tb_in (List.mem_of_getElem? (i := 1555) (by decide +kernel)) (by decide +kernel)
theorem lk_1556 : Cond.constantLong "NoonOnABarrowModel" 132 (629615539) ∈ x_tb := x_tb_in (List.mem_of_getElem? (i := 1556) (by decide +kernel)) (by decide +kernel)
theorem lk_1557 : Cond.constantLong "NoonOnABarrowModel" 134 (14556333) ∈ x_tb := x_tb_in (List.mem_of_getElem? (i := 1557) (by decide +kernel)) (by decide +kernel)
theorem lk_1558 : Cond.constantLong "NoonOnABarrowModel" 136 (683629797) ∈ x_tb := x_tb_in (List.mem_of_getElem? (i := 1558) (by decide +kernel)) (by decide +kernel)
theorem lk_1559 : Cond.constantLong "NoonOnABarrowModel" 138 (11672485) ∈ x_tb := x_tb_in (List.mem_of_getElem? (i := 1559) (by decide +kernel)) (by decide +kernel)
theorem lk_1560 : Cond.constantLong "NoonOnABarrowModel" 140 (52442335602) ∈ x_tb := x_tb_in (List.mem_of_getElem? (i := 1560) (by decide +kernel)) (by decide +kernel)
theorem lk_1561 : Cond.constantLong "NoonOnABarrowModel" 142 (12803304) ∈ x_tb := x_tb_in (List.mem_of_getElem? (i := 1561) (by decide +kernel)) (by decide +kernel)
theorem lk_1562 : Cond.constantLong "NoonOnABarrowModel" 144 (215664) ∈ x_tb := x_tb_in (List.mem_of_getElem? (i := 1562) (by decide +kernel)) (by decide +kernel)
theorem lk_1563 : Cond.constantLong "NoonOnABarrowModel" 146 (11951012) ∈ x_tb := x_tb_in (List.mem_of_getElem? (i := 1563) (by decide +kernel)) (by decide +kernel)
theorem lk_1564 : Cond.constantLong "NoonOnABarrowModel" 148 (49018527013) ∈ x_tb := x_tb_in (List.mem_of_getElem? (i := 1564) (by decide +kernel)) (by decide +kernel)
theorem lk_1565 : Cond.constantLong "NoonOnABarrowModel" 150 (3375) ∈ x_tb := x_tb_in (List.mem_of_getElem? (i := 1565) (by decide +kernel)) (by decide +kernel)
theorem lk_1566 : Cond.constantLong "NoonOnABarrowModel" 152 (3046) ∈ x_tb := x_tb_in (List.mem_of_getElem? (i := 1566) (by decide +kernel)) (by decide +kernel)
theorem lk_1567 : Cond.constantLong "NoonOnABarrowModel" 154 (2233) ∈ x_tb := x_tb_in (List.mem_of_getElem? (i := 1567) (by decide +kernel)) (by decide +kernel)
theorem lk_1568 : Cond.constantLong "NoonOnABarrowModel" 156 (157810) ∈ x_tb := x_tb_in (List.mem_of_getElem? (i := 1568) (by decide +kernel)) (by decide +kernel)
theorem lk_1569 : Cond.constantLong "NoonOnABarrowModel" 158 (2662) ∈ x_tb := x_tb_in (List.mem_of_getElem? (i := 1569) (by decide +kernel)) (by decide +kernel)
theorem lk_1570 : Cond.constantLong "NoonOnABarrowModel" 160 (13797742) ∈ x_tb := x_tb_in (List.mem_of_getElem? (i := 1570) (by decide +kernel)) (by decide +kernel)
theorem lk_1571 : Cond.constantLong "NoonOnABarrowModel" 162 (9882853) ∈ x_tb := x_tb_in (List.mem_of_getElem? (i := 1571) (by decide +kernel)) (by decide +kernel)
theorem lk_1572 : Cond.constantLong "NoonOnABarrowModel" 164 (154532) ∈ x_tb := x_tb_in (List.mem_of_getElem? (i := 1572) (by decide +kernel)) (by decide +kernel)
theorem lk_1573 : Cond.constantLong "NoonOnABarrowModel" 166 (3058) ∈ x_tb := x_tb_in (List.mem_of_getElem? (i := 1573) (by decide +kernel)) (by decide +kernel)
theorem lk_1574 : Cond.constantLong "NoonOnABarrowModel" 168 (138148) ∈ x_tb := x_tb_in (List.mem_of_getElem? (i := 1574) (by decide +kernel)) (by decide +kernel)
theorem lk_1575 : Cond.constantLong "NoonOnABarrowModel" 170 (191476) ∈ x_tb := x_tb_in (List.mem_of_getElem? (i := 1575) (by decide +kernel)) (by decide +kernel)
theorem lk_1576 : Cond.constantLong "NoonOnABarrowModel" 172 (10640549) ∈ x_tb := x_tb_in (List.mem_of_getElem? (i := 1576) (by decide +kernel)) (by decide +kernel)
theorem lk_1577 : Cond.constantLong "NoonOnABarrowModel" 174 (10656556) ∈ x_tb := x_tb_in (List.mem_of_getElem? (i := 1577) (by decide +kernel)) (by decide +kernel)
theorem lk_1578 : Cond.constantLong "NoonOnABarrowModel" 176 (10681714) ∈ x_tb := x_tb_in (List.mem_of_getElem? (i := 1578) (by decide +kernel)) (by decide +kernel)
theorem lk_1579 : Cond.constantLong "NoonOnABarrowModel" 178 (12720933) ∈ x_tb := x_tb_in (List.mem_of_getElem? (i := 1579) (by decide +kernel)) (by decide +kernel)
theorem lk_1580 : Cond.constantLong "NoonOnABarrowModel" 180 (819408101) ∈ x_tb := x_tb_in (List.mem_of_getElem? (i := 1580) (by decide +kernel)) (by decide +kernel)
theorem lk_1581 : Cond.constantLong "NoonOnABarrowModel" 182 (883055781) ∈ x_tb := x_tb_in (List.mem_of_getElem? (i := 1581) (by decide +kernel)) (by decide +kernel)
theorem lk_1582 : Cond.constantLong "NoonOnABarrowModel" 184 (227928104926504) ∈ x_tb := x_tb_in (List.mem_of_getElem? (i := 1582) (by decide +kernel)) (by decide +kernel)
theorem lk_1583 : Cond.constantLong "NoonOnABarrowModel" 186 (59736742707) ∈ x_tb := x_tb_in (List.mem_of_getElem? (i := 1583) (by decide +kernel)) (by decide +kernel)
theorem lk_1584 : Cond.constantLong "NoonOnABarrowModel" 188 (11688372) ∈ x_tb := x_tb_in (List.mem_of_getElem? (i := 1584) (by decide +kernel)) (by decide +kernel)
theorem lk_1585 : Cond.constantLong "NoonOnABarrowModel" 190 (12254190) ∈ x_tb := x_tb_in (List.mem_of_getElem? (i := 1585) (by decide +kernel)) (by decide +kernel)
theorem lk_1586 : Cond.constant "NoonOnABarrowModel" 216 (99999) ∈ x_tb := x_tb_in (List.mem_of_getElem? (i := 1586) (by decide +kernel)) (by decide +kernel)
theorem lk_1587 : Cond.methodLink "NoonOnABarrowModel" 319 yX12_asks ∈ x_tb := x_tb_in (List.mem_of_getElem? (i := 1587) (by decide +kernel)) (by decide +kernel)
theorem lk_1591 : Cond.methodLink "NoonOnABarrowModel" 255 yX12_isWord ∈ x_tb := x_tb_in (List.mem_of_getElem? (i := 1591) (by decide +kernel)) (by decide +kernel)
theorem lk_1595 : Cond.methodLink "NoonOnABarrowModel" 258 yX12_opensSign ∈ x_tb := x_tb_in (List.mem_of_getElem? (i := 1595) (by decide +kernel)) (by decide +kernel)
theorem lk_1599 : Cond.methodLink "NoonOnABarrowModel" 232 yX12_errs ∈ x_tb := x_tb_in (List.mem_of_getElem? (i := 1599) (by decide +kernel)) (by decide +kernel)
theorem lk_1603 : Cond.methodLink "NoonOnABarrowModel" 235 yX12_opensFrame ∈ x_tb := x_tb_in (List.mem_of_getElem? (i := 1603) (by decide +kernel)) (by decide +kernel)
theorem lk_1607 : Cond.methodLink "NoonOnABarrowModel" 322 yX12_begins ∈ x_tb := x_tb_in (List.mem_of_getElem? (i := 1607) (by decide +kernel)) (by decide +kernel)
theorem lk_1611 : Cond.methodLink "NoonOnABarrowModel" 264 yX12_nameNow ∈ x_tb := x_tb_in (List.mem_of_getElem? (i := 1611) (by decide +kernel)) (by decide +kernel)
theorem lk_1615 : Cond.methodLink "NoonOnABarrowModel" 248 yX12_emits ∈ x_tb := x_tb_in (List.mem_of_getElem? (i := 1615) (by decide +kernel)) (by decide +kernel)
theorem lk_1619 : Cond.methodLink "NoonOnABarrowModel" 268 yX12_oneIsOver ∈ x_tb := x_tb_in (List.mem_of_getElem? (i := 1619) (by decide +kernel)) (by decide +kernel)
theorem lk_1623 : Cond.methodLink "NoonOnABarrowModel" 281 yX12_top ∈ x_tb := x_tb_in (List.mem_of_getElem? (i := 1623) (by decide +kernel)) (by decide +kernel)
theorem lk_1627 : Cond.methodLink "NoonOnABarrowModel" 284 yX12_bySecond ∈ x_tb := x_tb_in (List.mem_of_getElem? (i := 1627) (by decide +kernel)) (by decide +kernel)
theorem lk_1631 : Cond.methodLink "NoonOnABarrowModel" 274 yX12_mayName ∈ x_tb := x_tb_in (List.mem_of_getElem? (i := 1631) (by decide +kernel)) (by decide +kernel)
theorem lk_1634 : Cond.methodLink "NoonOnABarrowModel" 278 yX12_isSign ∈ x_tb := x_tb_in (List.mem_of_getElem? (i := 1634) (by decide +kernel)) (by decide +kernel)
theorem lk_1638 : Cond.methodLink "NoonOnABarrowModel" 325 yX12_goesOn ∈ x_tb := x_tb_in (List.mem_of_getElem? (i := 1638) (by decide +kernel)) (by decide +kernel)
theorem lk_1642 : Cond.methodLink "NoonOnABarrowModel" 287 yX12_waitsFor ∈ x_tb := x_tb_in (List.mem_of_getElem? (i := 1642) (by decide +kernel)) (by decide +kernel)
theorem lk_1646 : Cond.methodLink "NoonOnABarrowModel" 244 yX12_rank ∈ x_tb := x_tb_in (List.mem_of_getElem? (i := 1646) (by decide +kernel)) (by decide +kernel)
theorem lk_1649 : Cond.methodLink "NoonOnABarrowModel" 252 yX12_works ∈ x_tb := x_tb_in (List.mem_of_getElem? (i := 1649) (by decide +kernel)) (by decide +kernel)
theorem lk_1653 : Cond.methodLink "NoonOnABarrowModel" 290 yX12_turnsTo ∈ x_tb := x_tb_in (List.mem_of_getElem? (i := 1653) (by decide +kernel)) (by decide +kernel)
theorem lk_1657 : Cond.methodLink "NoonOnABarrowModel" 293 yX12_isAsking ∈ x_tb := x_tb_in (List.mem_of_getElem? (i := 1657) (by decide +kernel)) (by decide +kernel)
theorem lk_1660 : Cond.methodLink "NoonOnABarrowModel" 296 yX12_askIsOver ∈ x_tb := x_tb_in (List.mem_of_getElem? (i := 1660) (by decide +kernel)) (by decide +kernel)
theorem lk_1664 : Cond.methodLink "NoonOnABarrowModel" 299 yX12_clauseIsOver ∈ x_tb := x_tb_in (List.mem_of_getElem? (i := 1664) (by decide +kernel)) (by decide +kernel)
theorem lk_1668 : Cond.methodLink "NoonOnABarrowModel" 328 yX12_asksOn ∈ x_tb := x_tb_in (List.mem_of_getElem? (i := 1668) (by decide +kernel)) (by decide +kernel)
theorem lk_1672 : Cond.methodLink "NoonOnABarrowModel" 331 yX12_clause ∈ x_tb := x_tb_in (List.mem_of_getElem? (i := 1672) (by decide +kernel)) (by decide +kernel)
theorem lk_1676 : Cond.methodLink "NoonOnABarrowModel" 313 yX12_wasTold ∈ x_tb := x_tb_in (List.mem_of_getElem? (i := 1676) (by decide +kernel)) (by decide +kernel)
theorem lk_1680 : Cond.methodLink "NoonOnABarrowModel" 316 yX12_doing ∈ x_tb := x_tb_in (List.mem_of_getElem? (i := 1680) (by decide +kernel)) (by decide +kernel)
theorem lk_1684 : Cond.methodLink "NoonOnABarrowModel" 305 yX12_number ∈ x_tb := x_tb_in (List.mem_of_getElem? (i := 1684) (by decide +kernel)) (by decide +kernel)
theorem lk_1688 : Cond.methodLink "NoonOnABarrowModel" 309 yX12_numberBehind ∈ x_tb := x_tb_in (List.mem_of_getElem? (i := 1688) (by decide +kernel)) (by decide +kernel)
theorem lk_1704 : Cond.methodLink "NoonOnABarrowModel" 396 yX12_laysNow ∈ x_tb := x_tb_in (List.mem_of_getElem? (i := 1704) (by decide +kernel)) (by decide +kernel)
theorem lk_1708 : Cond.methodLink "NoonOnABarrowModel" 334 yX12_laysFar ∈ x_tb := x_tb_in (List.mem_of_getElem? (i := 1708) (by decide +kernel)) (by decide +kernel)
theorem lk_1712 : Cond.methodLink "NoonOnABarrowModel" 399 yX12_canPush ∈ x_tb := x_tb_in (List.mem_of_getElem? (i := 1712) (by decide +kernel)) (by decide +kernel)
theorem lk_1716 : Cond.methodLink "NoonOnABarrowModel" 402 yX12_keepsStep ∈ x_tb := x_tb_in (List.mem_of_getElem? (i := 1716) (by decide +kernel)) (by decide +kernel)
theorem lk_1720 : Cond.methodLink "NoonOnABarrowModel" 405 yX12_pushes ∈ x_tb := x_tb_in (List.mem_of_getElem? (i := 1720) (by decide +kernel)) (by decide +kernel)
theorem lk_1724 : Cond.methodLink "NoonOnABarrowModel" 378 yX12_hardOf ∈ x_tb := x_tb_in (List.mem_of_getElem? (i := 1724) (by decide +kernel)) (by decide +kernel)
theorem lk_1728 : Cond.methodLink "NoonOnABarrowModel" 362 yX12_ordersOf ∈ x_tb := x_tb_in (List.mem_of_getElem? (i := 1728) (by decide +kernel)) (by decide +kernel)
theorem lk_1732 : Cond.methodLink "NoonOnABarrowModel" 365 yX12_names ∈ x_tb := x_tb_in (List.mem_of_getElem? (i := 1732) (by decide +kernel)) (by decide +kernel)
theorem lk_1736 : Cond.methodLink "NoonOnABarrowModel" 368 yX12_saysOf ∈ x_tb := x_tb_in (List.mem_of_getElem? (i := 1736) (by decide +kernel)) (by decide +kernel)
theorem lk_1740 : Cond.methodLink "NoonOnABarrowModel" 351 yX12_worked ∈ x_tb := x_tb_in (List.mem_of_getElem? (i := 1740) (by decide +kernel)) (by decide +kernel)
theorem lk_1744 : Cond.methodLink "NoonOnABarrowModel" 343 yX12_bound ∈ x_tb := x_tb_in (List.mem_of_getElem? (i := 1744) (by decide +kernel)) (by decide +kernel)
theorem lk_1747 : Cond.constantLong "NoonOnABarrowModel" 337 (1000000) ∈ x_tb := x_tb_in (List.mem_of_getElem? (i := 1747) (by decide +kernel)) (by decide +kernel)
theorem lk_1748 : Cond.constantLong "NoonOnABarrowModel" 339 (-1000000) ∈ x_tb := x_tb_in (List.mem_of_getElem? (i := 1748) (by decide +kernel)) (by decide +kernel)
theorem lk_1749 : Cond.methodLink "NoonOnABarrowModel" 347 yX12_farBy ∈ x_tb := x_tb_in (List.mem_of_getElem? (i := 1749) (by decide +kernel)) (by decide +kernel)
theorem lk_1753 : Cond.constantLong "NoonOnABarrowModel" 341 (99) ∈ x_tb := x_tb_in (List.mem_of_getElem? (i := 1753) (by decide +kernel)) (by decide +kernel)
theorem lk_1754 : Cond.methodLink "NoonOnABarrowModel" 355 yX12_held ∈ x_tb := x_tb_in (List.mem_of_getElem? (i := 1754) (by decide +kernel)) (by decide +kernel)
theorem lk_1757 : Cond.methodLink "NoonOnABarrowModel" 408 yX12_keepsNow ∈ x_tb := x_tb_in (List.mem_of_getElem? (i := 1757) (by decide +kernel)) (by decide +kernel)
theorem lk_1765 : Cond.methodLink "NoonOnABarrowModel" 411 yX12_tips ∈ x_tb := x_tb_in (List.mem_of_getElem? (i := 1765) (by decide +kernel)) (by decide +kernel)
theorem lk_1769 : Cond.methodLink "NoonOnABarrowModel" 381 yX12_lies ∈ x_tb := x_tb_in (List.mem_of_getElem? (i := 1769) (by decide +kernel)) (by decide +kernel)
theorem lk_1781 : Cond.methodLink "NoonOnABarrowModel" 414 yX12_minutePasses ∈ x_tb := x_tb_in (List.mem_of_getElem? (i := 1781) (by decide +kernel)) (by decide +kernel)
theorem lk_1785 : Cond.methodLink "NoonOnABarrowModel" 387 yX12_rolls ∈ x_tb := x_tb_in (List.mem_of_getElem? (i := 1785) (by decide +kernel)) (by decide +kernel)
theorem lk_1789 : Cond.methodLink "NoonOnABarrowModel" 384 yX12_wearsNow ∈ x_tb := x_tb_in (List.mem_of_getElem? (i := 1789) (by decide +kernel)) (by decide +kernel)
theorem lk_1793 : Cond.methodLink "NoonOnABarrowModel" 390 yX12_earnsOf ∈ x_tb := x_tb_in (List.mem_of_getElem? (i := 1793) (by decide +kernel)) (by decide +kernel)
theorem lk_1797 : Cond.methodLink "NoonOnABarrowModel" 372 yX12_hourAt ∈ x_tb := x_tb_in (List.mem_of_getElem? (i := 1797) (by decide +kernel)) (by decide +kernel)
theorem lk_1801 : Cond.methodLink "NoonOnABarrowModel" 359 yX12_hourBy ∈ x_tb := x_tb_in (List.mem_of_getElem? (i := 1801) (by decide +kernel)) (by decide +kernel)
theorem lk_1804 : Cond.methodLink "NoonOnABarrowModel" 375 yX12_away ∈ x_tb := x_tb_in (List.mem_of_getElem? (i := 1804) (by decide +kernel)) (by decide +kernel)
theorem lk_1807 : Cond.methodLink "NoonOnABarrowModel" 393 yX12_writes ∈ x_tb := x_tb_in (List.mem_of_getElem? (i := 1807) (by decide +kernel)) (by decide +kernel)
theorem lk_1815 : Cond.methodLink "NoonOnABarrowModel" 424 yX12_happens ∈ x_tb := x_tb_in (List.mem_of_getElem? (i := 1815) (by decide +kernel)) (by decide +kernel)
theorem lk_1819 : Cond.methodLink "NoonOnABarrowModel" 417 yX12_draw ∈ x_tb := x_tb_in (List.mem_of_getElem? (i := 1819) (by decide +kernel)) (by decide +kernel)
theorem lk_1823 : Cond.methodLink "NoonOnABarrowModel" 420 yX12_canPass ∈ x_tb := x_tb_in (List.mem_of_getElem? (i := 1823) (by decide +kernel)) (by decide +kernel)
theorem lk_1831 : Cond.methodLink "NoonOnABarrowModel" 430 yX12_house ∈ x_tb := x_tb_in (List.mem_of_getElem? (i := 1831) (by decide +kernel)) (by decide +kernel)
theorem lk_1832 : Cond.methodLink "NoonOnABarrowModel" 433 yX12_lane ∈ x_tb := x_tb_in (List.mem_of_getElem? (i := 1832) (by decide +kernel)) (by decide +kernel)
theorem lk_1833 : Cond.methodLink "NoonOnABarrowModel" 436 yX12_pusher ∈ x_tb := x_tb_in (List.mem_of_getElem? (i := 1833) (by decide +kernel)) (by decide +kernel)
theorem lk_1834 : Cond.methodLink "NoonOnABarrowModel" 439 yX12_push ∈ x_tb := x_tb_in (List.mem_of_getElem? (i := 1834) (by decide +kernel)) (by decide +kernel)
theorem lk_1835 : Cond.methodLink "NoonOnABarrowModel" 442 yX12_tip ∈ x_tb := x_tb_in (List.mem_of_getElem? (i := 1835) (by decide +kernel)) (by decide +kernel)
theorem lk_1836 : Cond.methodLink "NoonOnABarrowModel" 445 yX12_mend ∈ x_tb := x_tb_in (List.mem_of_getElem? (i := 1836) (by decide +kernel)) (by decide +kernel)
theorem lk_1837 : Cond.methodLink "NoonOnABarrowModel" 448 yX12_minutes ∈ x_tb := x_tb_in (List.mem_of_getElem? (i := 1837) (by decide +kernel)) (by decide +kernel)
theorem lk_1841 : Cond.methodLink "NoonOnABarrowModel" 427 yX12_minute ∈ x_tb := x_tb_in (List.mem_of_getElem? (i := 1841) (by decide +kernel)) (by decide +kernel)
theorem lk_1850 : Cond.methodLink "NoonOnABarrowModel" 451 yX12_warmOf ∈ x_tb := x_tb_in (List.mem_of_getElem? (i := 1850) (by decide +kernel)) (by decide +kernel)
theorem lk_1882 : Cond.methodLink "NoonOnABarrowModel" 454 yX12_isWanted ∈ x_tb := x_tb_in (List.mem_of_getElem? (i := 1882) (by decide +kernel)) (by decide +kernel)
theorem lk_1890 : Cond.methodLink "NoonOnABarrowModel" 460 yX12_laysYet ∈ x_tb := x_tb_in (List.mem_of_getElem? (i := 1890) (by decide +kernel)) (by decide +kernel)
theorem lk_1894 : Cond.methodLink "NoonOnABarrowModel" 457 yX12_doneAt ∈ x_tb := x_tb_in (List.mem_of_getElem? (i := 1894) (by decide +kernel)) (by decide +kernel)
theorem lk_1902 : Cond.methodLink "NoonOnABarrowModel" 463 yX12_laysPushing ∈ x_tb := x_tb_in (List.mem_of_getElem? (i := 1902) (by decide +kernel)) (by decide +kernel)
theorem lk_1906 : Cond.constant "NoonOnABarrowModel" 466 (90000) ∈ x_tb := x_tb_in (List.mem_of_getElem? (i := 1906) (by decide +kernel)) (by decide +kernel)
theorem lk_1911 : Cond.methodLink "NoonOnABarrowModel" 467 yX12_doesBeat ∈ x_tb := x_tb_in (List.mem_of_getElem? (i := 1911) (by decide +kernel)) (by decide +kernel)
theorem lk_1919 : Cond.methodLink "NoonOnABarrowModel" 470 yX12_has ∈ x_tb := x_tb_in (List.mem_of_getElem? (i := 1919) (by decide +kernel)) (by decide +kernel)
theorem lk_1930 : Cond.methodLink "NoonOnABarrowModel" 473 yX12_isAhead ∈ x_tb := x_tb_in (List.mem_of_getElem? (i := 1930) (by decide +kernel)) (by decide +kernel)
theorem lk_1946 : Cond.methodLink "NoonOnABarrowModel" 476 yX12_lost ∈ x_tb := x_tb_in (List.mem_of_getElem? (i := 1946) (by decide +kernel)) (by decide +kernel)
theorem lk_1947 : Cond.methodLink "NoonOnABarrowModel" 479 yX12_answersAt ∈ x_tb := x_tb_in (List.mem_of_getElem? (i := 1947) (by decide +kernel)) (by decide +kernel)
theorem lk_1959 : Cond.methodLink "NoonOnABarrowModel" 482 yX12_many ∈ x_tb := x_tb_in (List.mem_of_getElem? (i := 1959) (by decide +kernel)) (by decide +kernel)
theorem lk_1962 : Cond.methodLink "NoonOnABarrowModel" 485 yX12_watchedBy ∈ x_tb := x_tb_in (List.mem_of_getElem? (i := 1962) (by decide +kernel)) (by decide +kernel)
end
section
theorem ini_X11 : Cond.initialized "NoonOnABarrow" ∈ x_tb := x_tb_in (List.mem_of_getElem? (i := 115) (by decide +kernel)) (by decide +kernel)
theorem ini_X0 : Cond.initialized "NoonOnABarrow$Counsel" ∈ x_tb := x_tb_in (List.mem_of_getElem? (i := 126) (by decide +kernel)) (by decide +kernel)
theorem ini_X1 : Cond.initialized "NoonOnABarrow$Day" ∈ x_tb := x_tb_in (List.mem_of_getElem? (i := 118) (by decide +kernel)) (by decide +kernel)
theorem ini_X2 : Cond.initialized "NoonOnABarrow$Doings" ∈ x_tb := x_tb_in (List.mem_of_getElem? (i := 124) (by decide +kernel)) (by decide +kernel)
theorem ini_X3 : Cond.initialized "NoonOnABarrow$Land" ∈ x_tb := x_tb_in (List.mem_of_getElem? (i := 116) (by decide +kernel)) (by decide +kernel)
theorem ini_X4 : Cond.initialized "NoonOnABarrow$Laws" ∈ x_tb := x_tb_in (List.mem_of_getElem? (i := 123) (by decide +kernel)) (by decide +kernel)
theorem ini_X5 : Cond.initialized "NoonOnABarrow$Pairs" ∈ x_tb := x_tb_in (List.mem_of_getElem? (i := 117) (by decide +kernel)) (by decide +kernel)
theorem ini_X6 : Cond.initialized "NoonOnABarrow$Reader" ∈ x_tb := x_tb_in (List.mem_of_getElem? (i := 122) (by decide +kernel)) (by decide +kernel)
theorem ini_X7 : Cond.initialized "NoonOnABarrow$Steps" ∈ x_tb := x_tb_in (List.mem_of_getElem? (i := 119) (by decide +kernel)) (by decide +kernel)
theorem ini_X8 : Cond.initialized "NoonOnABarrow$Tape" ∈ x_tb := x_tb_in (List.mem_of_getElem? (i := 121) (by decide +kernel)) (by decide +kernel)
theorem ini_X9 : Cond.initialized "NoonOnABarrow$Text" ∈ x_tb := x_tb_in (List.mem_of_getElem? (i := 120) (by decide +kernel)) (by decide +kernel)
theorem ini_X10 : Cond.initialized "NoonOnABarrow$Ways" ∈ x_tb := x_tb_in (List.mem_of_getElem? (i := 125) (by decide +kernel)) (by decide +kernel)
theorem ini_X12 : Cond.initialized "NoonOnABarrowModel" ∈ x_tb := x_tb_in (List.mem_of_getElem? (i := 127) (by decide +kernel)) (by decide +kernel)
theorem ini_J6 : Cond.initialized "java/lang/Integer" ∈ x_tb := x_tb_in (List.mem_of_getElem? (i := 135) (by decide +kernel)) (by decide +kernel)
theorem lm_max : Cond.static Lib.Math.max.name ∈ x_tb ∧ Cond.initialized "java/lang/Math" ∈ x_tb ∧ Cond.code Lib.Math.max.name Lib.Math.max.code 2 (some .int) ∈ x_tb := ⟨x_tb_in (List.mem_of_getElem? (i := 638) (by decide +kernel)) (by decide +kernel), x_tb_in (List.mem_of_getElem? (i := 128) (by decide +kernel)) (by decide +kernel), x_tb_in (List.mem_of_getElem? (i := 639) (by decide +kernel)) (by decide +kernel)⟩
theorem lm_min : Cond.static Lib.Math.min.name ∈ x_tb ∧ Cond.initialized "java/lang/Math" ∈ x_tb ∧ Cond.code Lib.Math.min.name Lib.Math.min.code 2 (some .int) ∈ x_tb := ⟨x_tb_in (List.mem_of_getElem? (i := 562) (by decide +kernel)) (by decide +kernel), x_tb_in (List.mem_of_getElem? (i := 128) (by decide +kernel)) (by decide +kernel), x_tb_in (List.mem_of_getElem? (i := 563) (by decide +kernel)) (by decide +kernel)⟩
theorem lm_abs : Cond.static Lib.Math.abs.name ∈ x_tb ∧ Cond.initialized "java/lang/Math" ∈ x_tb ∧ Cond.code Lib.Math.abs.name Lib.Math.abs.code 1 (some .int) ∈ x_tb := ⟨x_tb_in (List.mem_of_getElem? (i := 744) (by decide +kernel)) (by decide +kernel), x_tb_in (List.mem_of_getElem? (i := 128) (by decide +kernel)) (by decide +kernel), x_tb_in (List.mem_of_getElem? (i := 745) (by decide +kernel)) (by decide +kernel)⟩
theorem lm_copy : Cond.native arraycopyName ∈ x_tb ∧ Cond.static arraycopyName ∈ x_tb ∧ Cond.initialized "java/lang/System" ∈ x_tb := ⟨x_tb_in (List.mem_of_getElem? (i := 615) (by decide +kernel)) (by decide +kernel), x_tb_in (List.mem_of_getElem? (i := 614) (by decide +kernel)) (by decide +kernel), x_tb_in (List.mem_of_getElem? (i := 129) (by decide +kernel)) (by decide +kernel)⟩
set_option maxRecDepth 100000 in
theorem cok_mJ6_bitCount_0f7a4 : x_cok mJ6_bitCount_0f7a4 1 := ⟨ini_J6, x_tb_in (List.mem_of_getElem? (i := 1317) rfl) rfl, ⟨by decide, by decide, by decide +kernel⟩, by decide⟩
theorem stt_mJ6_bitCount_0f7a4 : Cond.static mJ6_bitCount_0f7a4.1 ∈ x_tb := x_tb_in (List.mem_of_getElem? (i := 1316) (by decide +kernel)) (by decide +kernel)
set_option maxRecDepth 100000 in
theorem cok_mX0_answersAt : x_cok mX0_answersAt 3 := ⟨ini_X0, x_tb_in (List.mem_of_getElem? (i := 1289) rfl) rfl, ⟨by decide, by decide, by decide +kernel⟩, by decide⟩
theorem vok_mX0_answersAt : x_vok mX0_answersAt 3 := ⟨cok_mX0_answersAt, x_tb_in (List.mem_of_getElem? (i := 1288) (by decide +kernel)) (by decide +kernel), x_tb_in (List.mem_of_getElem? (i := 49) (by decide +kernel)) (by decide +kernel), rfl⟩
set_option maxRecDepth 100000 in
theorem cok_mX0_beats : x_cok mX0_beats 2 := ⟨ini_X0, x_tb_in (List.mem_of_getElem? (i := 1224) rfl) rfl, ⟨by decide, by decide, by decide +kernel⟩, by decide⟩
theorem vok_mX0_beats : x_vok mX0_beats 2 := ⟨cok_mX0_beats, x_tb_in (List.mem_of_getElem? (i := 1223) (by decide +kernel)) (by decide +kernel), x_tb_in (List.mem_of_getElem? (i := 44) (by decide +kernel)) (by decide +kernel), rfl⟩
set_option maxRecDepth 100000 in
theorem cok_mX0_beatsAll : x_cok mX0_beatsAll 1 := ⟨ini_X0, x_tb_in (List.mem_of_getElem? (i := 1220) rfl) rfl, ⟨by decide, by decide, by decide +kernel⟩, by decide⟩
theorem vok_mX0_beatsAll : x_vok mX0_beatsAll 1 := ⟨cok_mX0_beatsAll, x_tb_in (List.mem_of_getElem? (i := 1219) (by decide +kernel)) (by decide +kernel), x_tb_in (List.mem_of_getElem? (i := 43) (by decide +kernel)) (by decide +kernel), rfl⟩
set_option maxRecDepth 100000 in
theorem cok_mX0_bestWatch : x_cok mX0_bestWatch 2 := ⟨ini_X0, x_tb_in (List.mem_of_getElem? (i := 1310) rfl) rfl, ⟨by decide, by decide, by decide +kernel⟩, by decide⟩
theorem vok_mX0_bestWatch : x_vok mX0_bestWatch 2 := ⟨cok_mX0_bestWatch, x_tb_in (List.mem_of_getElem? (i := 1308) (by decide +kernel)) (by decide +kernel), x_tb_in (List.mem_of_getElem? (i := 1309) (by decide +kernel)) (by decide +kernel), rfl⟩
set_option maxRecDepth 100000 in
theorem cok_mX0_fairTurn : x_cok mX0_fairTurn 1 := ⟨ini_X0, x_tb_in (List.mem_of_getElem? (i := 1251) rfl) rfl, ⟨by decide, by decide, by decide +kernel⟩, by decide⟩
theorem vok_mX0_fairTurn : x_vok mX0_fairTurn 1 := ⟨cok_mX0_fairTurn, x_tb_in (List.mem_of_getElem? (i := 1249) (by decide +kernel)) (by decide +kernel), x_tb_in (List.mem_of_getElem? (i := 1250) (by decide +kernel)) (by decide +kernel), rfl⟩
set_option maxRecDepth 100000 in
theorem cok_mX0_farthestFromNoon : x_cok mX0_farthestFromNoon 1 := ⟨ini_X0, x_tb_in (List.mem_of_getElem? (i := 1301) rfl) rfl, ⟨by decide, by decide, by decide +kernel⟩, by decide⟩
theorem vok_mX0_farthestFromNoon : x_vok mX0_farthestFromNoon 1 := ⟨cok_mX0_farthestFromNoon, x_tb_in (List.mem_of_getElem? (i := 1299) (by decide +kernel)) (by decide +kernel), x_tb_in (List.mem_of_getElem? (i := 1300) (by decide +kernel)) (by decide +kernel), rfl⟩
set_option maxRecDepth 100000 in
theorem cok_mX0_fits : x_cok mX0_fits 1 := ⟨ini_X0, x_tb_in (List.mem_of_getElem? (i := 1149) rfl) rfl, ⟨by decide, by decide, by decide +kernel⟩, by decide⟩
theorem vok_mX0_fits : x_vok mX0_fits 1 := ⟨cok_mX0_fits, x_tb_in (List.mem_of_getElem? (i := 1148) (by decide +kernel)) (by decide +kernel), x_tb_in (List.mem_of_getElem? (i := 35) (by decide +kernel)) (by decide +kernel), rfl⟩
set_option maxRecDepth 100000 in
theorem cok_mX0_isRow : x_cok mX0_isRow 2 := ⟨ini_X0, x_tb_in (List.mem_of_getElem? (i := 1237) rfl) rfl, ⟨by decide, by decide, by decide +kernel⟩, by decide⟩
theorem vok_mX0_isRow : x_vok mX0_isRow 2 := ⟨cok_mX0_isRow, x_tb_in (List.mem_of_getElem? (i := 1236) (by decide +kernel)) (by decide +kernel), x_tb_in (List.mem_of_getElem? (i := 45) (by decide +kernel)) (by decide +kernel), rfl⟩
set_option maxRecDepth 100000 in
theorem cok_mX0_isServedLess : x_cok mX0_isServedLess 2 := ⟨ini_X0, x_tb_in (List.mem_of_getElem? (i := 1259) rfl) rfl, ⟨by decide, by decide, by decide +kernel⟩, by decide⟩
theorem vok_mX0_isServedLess : x_vok mX0_isServedLess 2 := ⟨cok_mX0_isServedLess, x_tb_in (List.mem_of_getElem? (i := 1258) (by decide +kernel)) (by decide +kernel), x_tb_in (List.mem_of_getElem? (i := 47) (by decide +kernel)) (by decide +kernel), rfl⟩
set_option maxRecDepth 100000 in
theorem cok_mX0_leastServed : x_cok mX0_leastServed 0 := ⟨ini_X0, x_tb_in (List.mem_of_getElem? (i := 1255) rfl) rfl, ⟨by decide, by decide, by decide +kernel⟩, by decide⟩
theorem vok_mX0_leastServed : x_vok mX0_leastServed 0 := ⟨cok_mX0_leastServed, x_tb_in (List.mem_of_getElem? (i := 1254) (by decide +kernel)) (by decide +kernel), x_tb_in (List.mem_of_getElem? (i := 46) (by decide +kernel)) (by decide +kernel), rfl⟩
set_option maxRecDepth 100000 in
theorem cok_mX0_leftOfRow : x_cok mX0_leftOfRow 2 := ⟨ini_X0, x_tb_in (List.mem_of_getElem? (i := 1233) rfl) rfl, ⟨by decide, by decide, by decide +kernel⟩, by decide⟩
theorem vok_mX0_leftOfRow : x_vok mX0_leftOfRow 2 := ⟨cok_mX0_leftOfRow, x_tb_in (List.mem_of_getElem? (i := 1231) (by decide +kernel)) (by decide +kernel), x_tb_in (List.mem_of_getElem? (i := 1232) (by decide +kernel)) (by decide +kernel), rfl⟩
set_option maxRecDepth 100000 in
theorem cok_mX0_mayBeAt : x_cok mX0_mayBeAt 2 := ⟨ini_X0, x_tb_in (List.mem_of_getElem? (i := 1275) rfl) rfl, ⟨by decide, by decide, by decide +kernel⟩, by decide⟩
theorem vok_mX0_mayBeAt : x_vok mX0_mayBeAt 2 := ⟨cok_mX0_mayBeAt, x_tb_in (List.mem_of_getElem? (i := 1274) (by decide +kernel)) (by decide +kernel), x_tb_in (List.mem_of_getElem? (i := 48) (by decide +kernel)) (by decide +kernel), rfl⟩
set_option maxRecDepth 100000 in
theorem cok_mX0_nearBits : x_cok mX0_nearBits 2 := ⟨ini_X0, x_tb_in (List.mem_of_getElem? (i := 1314) rfl) rfl, ⟨by decide, by decide, by decide +kernel⟩, by decide⟩
theorem vok_mX0_nearBits : x_vok mX0_nearBits 2 := ⟨cok_mX0_nearBits, x_tb_in (List.mem_of_getElem? (i := 1313) (by decide +kernel)) (by decide +kernel), x_tb_in (List.mem_of_getElem? (i := 51) (by decide +kernel)) (by decide +kernel), rfl⟩
set_option maxRecDepth 100000 in
theorem cok_mX0_placesFitting : x_cok mX0_placesFitting 0 := ⟨ini_X0, x_tb_in (List.mem_of_getElem? (i := 1145) rfl) rfl, ⟨by decide, by decide, by decide +kernel⟩, by decide⟩
theorem vok_mX0_placesFitting : x_vok mX0_placesFitting 0 := ⟨cok_mX0_placesFitting, x_tb_in (List.mem_of_getElem? (i := 1143) (by decide +kernel)) (by decide +kernel), x_tb_in (List.mem_of_getElem? (i := 1144) (by decide +kernel)) (by decide +kernel), rfl⟩
set_option maxRecDepth 100000 in
theorem cok_mX0_placesInFog : x_cok mX0_placesInFog 1 := ⟨ini_X0, x_tb_in (List.mem_of_getElem? (i := 1271) rfl) rfl, ⟨by decide, by decide, by decide +kernel⟩, by decide⟩
theorem vok_mX0_placesInFog : x_vok mX0_placesInFog 1 := ⟨cok_mX0_placesInFog, x_tb_in (List.mem_of_getElem? (i := 1269) (by decide +kernel)) (by decide +kernel), x_tb_in (List.mem_of_getElem? (i := 1270) (by decide +kernel)) (by decide +kernel), rfl⟩
set_option maxRecDepth 100000 in
theorem cok_mX0_voted : x_cok mX0_voted 0 := ⟨ini_X0, x_tb_in (List.mem_of_getElem? (i := 1216) rfl) rfl, ⟨by decide, by decide, by decide +kernel⟩, by decide⟩
theorem vok_mX0_voted : x_vok mX0_voted 0 := ⟨cok_mX0_voted, x_tb_in (List.mem_of_getElem? (i := 1214) (by decide +kernel)) (by decide +kernel), x_tb_in (List.mem_of_getElem? (i := 1215) (by decide +kernel)) (by decide +kernel), rfl⟩
set_option maxRecDepth 100000 in
theorem cok_mX0_watchedBy : x_cok mX0_watchedBy 1 := ⟨ini_X0, x_tb_in (List.mem_of_getElem? (i := 1324) rfl) rfl, ⟨by decide, by decide, by decide +kernel⟩, by decide⟩
theorem vok_mX0_watchedBy : x_vok mX0_watchedBy 1 := ⟨cok_mX0_watchedBy, x_tb_in (List.mem_of_getElem? (i := 1323) (by decide +kernel)) (by decide +kernel), x_tb_in (List.mem_of_getElem? (i := 52) (by decide +kernel)) (by decide +kernel), rfl⟩
set_option maxRecDepth 100000 in
theorem cok_mX0_withAnswer : x_cok mX0_withAnswer 2 := ⟨ini_X0, x_tb_in (List.mem_of_getElem? (i := 1293) rfl) rfl, ⟨by decide, by decide, by decide +kernel⟩, by decide⟩
theorem vok_mX0_withAnswer : x_vok mX0_withAnswer 2 := ⟨cok_mX0_withAnswer, x_tb_in (List.mem_of_getElem? (i := 1292) (by decide +kernel)) (by decide +kernel), x_tb_in (List.mem_of_getElem? (i := 50) (by decide +kernel)) (by decide +kernel), rfl⟩
set_option maxRecDepth 100000 in
theorem cok_mX0_yardToFeel : x_cok mX0_yardToFeel 1 := ⟨ini_X0, x_tb_in (List.mem_of_getElem? (i := 1284) rfl) rfl, ⟨by decide, by decide, by decide +kernel⟩, by decide⟩
theorem vok_mX0_yardToFeel : x_vok mX0_yardToFeel 1 := ⟨cok_mX0_yardToFeel, x_tb_in (List.mem_of_getElem? (i := 1282) (by decide +kernel)) (by decide +kernel), x_tb_in (List.mem_of_getElem? (i := 1283) (by decide +kernel)) (by decide +kernel), rfl⟩
set_option maxRecDepth 100000 in
theorem cok_mX10_askCosts : x_cok mX10_askCosts 2 := ⟨ini_X10, x_tb_in (List.mem_of_getElem? (i := 1193) rfl) rfl, ⟨by decide, by decide, by decide +kernel⟩, by decide⟩
theorem vok_mX10_askCosts : x_vok mX10_askCosts 2 := ⟨cok_mX10_askCosts, x_tb_in (List.mem_of_getElem? (i := 1192) (by decide +kernel)) (by decide +kernel), x_tb_in (List.mem_of_getElem? (i := 40) (by decide +kernel)) (by decide +kernel), rfl⟩
set_option maxRecDepth 100000 in
theorem cok_mX10_comeTo : x_cok mX10_comeTo 3 := ⟨ini_X10, x_tb_in (List.mem_of_getElem? (i := 1163) rfl) rfl, ⟨by decide, by decide, by decide +kernel⟩, by decide⟩
theorem vok_mX10_comeTo : x_vok mX10_comeTo 3 := ⟨cok_mX10_comeTo, x_tb_in (List.mem_of_getElem? (i := 1162) (by decide +kernel)) (by decide +kernel), x_tb_in (List.mem_of_getElem? (i := 36) (by decide +kernel)) (by decide +kernel), rfl⟩
set_option maxRecDepth 100000 in
theorem cok_mX10_goOnFrom : x_cok mX10_goOnFrom 1 := ⟨ini_X10, x_tb_in (List.mem_of_getElem? (i := 1176) rfl) rfl, ⟨by decide, by decide, by decide +kernel⟩, by decide⟩
theorem vok_mX10_goOnFrom : x_vok mX10_goOnFrom 1 := ⟨cok_mX10_goOnFrom, x_tb_in (List.mem_of_getElem? (i := 1175) (by decide +kernel)) (by decide +kernel), x_tb_in (List.mem_of_getElem? (i := 39) (by decide +kernel)) (by decide +kernel), rfl⟩
set_option maxRecDepth 100000 in
theorem cok_mX10_lanesBehind : x_cok mX10_lanesBehind 1 := ⟨ini_X10, x_tb_in (List.mem_of_getElem? (i := 1168) rfl) rfl, ⟨by decide, by decide, by decide +kernel⟩, by decide⟩
theorem vok_mX10_lanesBehind : x_vok mX10_lanesBehind 1 := ⟨cok_mX10_lanesBehind, x_tb_in (List.mem_of_getElem? (i := 1167) (by decide +kernel)) (by decide +kernel), x_tb_in (List.mem_of_getElem? (i := 37) (by decide +kernel)) (by decide +kernel), rfl⟩
set_option maxRecDepth 100000 in
theorem cok_mX10_leastHouse : x_cok mX10_leastHouse 1 := ⟨ini_X10, x_tb_in (List.mem_of_getElem? (i := 1208) rfl) rfl, ⟨by decide, by decide, by decide +kernel⟩, by decide⟩
theorem vok_mX10_leastHouse : x_vok mX10_leastHouse 1 := ⟨cok_mX10_leastHouse, x_tb_in (List.mem_of_getElem? (i := 1206) (by decide +kernel)) (by decide +kernel), x_tb_in (List.mem_of_getElem? (i := 1207) (by decide +kernel)) (by decide +kernel), rfl⟩
set_option maxRecDepth 100000 in
theorem cok_mX10_lowerRest : x_cok mX10_lowerRest 1 := ⟨ini_X10, x_tb_in (List.mem_of_getElem? (i := 1199) rfl) rfl, ⟨by decide, by decide, by decide +kernel⟩, by decide⟩
theorem vok_mX10_lowerRest : x_vok mX10_lowerRest 1 := ⟨cok_mX10_lowerRest, x_tb_in (List.mem_of_getElem? (i := 1198) (by decide +kernel)) (by decide +kernel), x_tb_in (List.mem_of_getElem? (i := 41) (by decide +kernel)) (by decide +kernel), rfl⟩
set_option maxRecDepth 100000 in
theorem cok_mX10_lowestNext : x_cok mX10_lowestNext 1 := ⟨ini_X10, x_tb_in (List.mem_of_getElem? (i := 1204) rfl) rfl, ⟨by decide, by decide, by decide +kernel⟩, by decide⟩
theorem vok_mX10_lowestNext : x_vok mX10_lowestNext 1 := ⟨cok_mX10_lowestNext, x_tb_in (List.mem_of_getElem? (i := 1203) (by decide +kernel)) (by decide +kernel), x_tb_in (List.mem_of_getElem? (i := 42) (by decide +kernel)) (by decide +kernel), rfl⟩
set_option maxRecDepth 100000 in
theorem cok_mX10_placeAhead : x_cok mX10_placeAhead 1 := ⟨ini_X10, x_tb_in (List.mem_of_getElem? (i := 1172) rfl) rfl, ⟨by decide, by decide, by decide +kernel⟩, by decide⟩
theorem vok_mX10_placeAhead : x_vok mX10_placeAhead 1 := ⟨cok_mX10_placeAhead, x_tb_in (List.mem_of_getElem? (i := 1171) (by decide +kernel)) (by decide +kernel), x_tb_in (List.mem_of_getElem? (i := 38) (by decide +kernel)) (by decide +kernel), rfl⟩
set_option maxRecDepth 100000 in
theorem cok_mX10_routeHouse : x_cok mX10_routeHouse 1 := ⟨ini_X10, x_tb_in (List.mem_of_getElem? (i := 1181) rfl) rfl, ⟨by decide, by decide, by decide +kernel⟩, by decide⟩
theorem vok_mX10_routeHouse : x_vok mX10_routeHouse 1 := ⟨cok_mX10_routeHouse, x_tb_in (List.mem_of_getElem? (i := 1179) (by decide +kernel)) (by decide +kernel), x_tb_in (List.mem_of_getElem? (i := 1180) (by decide +kernel)) (by decide +kernel), rfl⟩
set_option maxRecDepth 100000 in
theorem cok_mX10_seekLeast : x_cok mX10_seekLeast 3 := ⟨ini_X10, x_tb_in (List.mem_of_getElem? (i := 1189) rfl) rfl, ⟨by decide, by decide, by decide +kernel⟩, by decide⟩
theorem vok_mX10_seekLeast : x_vok mX10_seekLeast 3 := ⟨cok_mX10_seekLeast, x_tb_in (List.mem_of_getElem? (i := 1187) (by decide +kernel)) (by decide +kernel), x_tb_in (List.mem_of_getElem? (i := 1188) (by decide +kernel)) (by decide +kernel), rfl⟩
set_option maxRecDepth 100000 in
theorem cok_mX10_seekRoute : x_cok mX10_seekRoute 1 := ⟨ini_X10, x_tb_in (List.mem_of_getElem? (i := 1158) rfl) rfl, ⟨by decide, by decide, by decide +kernel⟩, by decide⟩
theorem vok_mX10_seekRoute : x_vok mX10_seekRoute 1 := ⟨cok_mX10_seekRoute, x_tb_in (List.mem_of_getElem? (i := 1156) (by decide +kernel)) (by decide +kernel), x_tb_in (List.mem_of_getElem? (i := 1157) (by decide +kernel)) (by decide +kernel), rfl⟩
set_option maxRecDepth 100000 in
theorem cok_mX11_about : x_cok mX11_about 1 := ⟨ini_X11, x_tb_in (List.mem_of_getElem? (i := 1350) rfl) rfl, ⟨by decide, by decide, by decide +kernel⟩, by decide⟩
theorem vok_mX11_about : x_vok mX11_about 1 := ⟨cok_mX11_about, x_tb_in (List.mem_of_getElem? (i := 1348) (by decide +kernel)) (by decide +kernel), x_tb_in (List.mem_of_getElem? (i := 1349) (by decide +kernel)) (by decide +kernel), rfl⟩
set_option maxRecDepth 100000 in
theorem cok_mX11_agenda : x_cok mX11_agenda 2 := ⟨ini_X11, x_tb_in (List.mem_of_getElem? (i := 1229) rfl) rfl, ⟨by decide, by decide, by decide +kernel⟩, by decide⟩
theorem vok_mX11_agenda : x_vok mX11_agenda 2 := ⟨cok_mX11_agenda, x_tb_in (List.mem_of_getElem? (i := 1227) (by decide +kernel)) (by decide +kernel), x_tb_in (List.mem_of_getElem? (i := 1228) (by decide +kernel)) (by decide +kernel), rfl⟩
set_option maxRecDepth 100000 in
theorem cok_mX11_arrives : x_cok mX11_arrives 0 := ⟨ini_X11, x_tb_in (List.mem_of_getElem? (i := 1128) rfl) rfl, ⟨by decide, by decide, by decide +kernel⟩, by decide⟩
theorem vok_mX11_arrives : x_vok mX11_arrives 0 := ⟨cok_mX11_arrives, x_tb_in (List.mem_of_getElem? (i := 1126) (by decide +kernel)) (by decide +kernel), x_tb_in (List.mem_of_getElem? (i := 1127) (by decide +kernel)) (by decide +kernel), rfl⟩
set_option maxRecDepth 100000 in
theorem cok_mX11_back : x_cok mX11_back 0 := ⟨ini_X11, x_tb_in (List.mem_of_getElem? (i := 1346) rfl) rfl, ⟨by decide, by decide, by decide +kernel⟩, by decide⟩
theorem vok_mX11_back : x_vok mX11_back 0 := ⟨cok_mX11_back, x_tb_in (List.mem_of_getElem? (i := 1344) (by decide +kernel)) (by decide +kernel), x_tb_in (List.mem_of_getElem? (i := 1345) (by decide +kernel)) (by decide +kernel), rfl⟩
set_option maxRecDepth 100000 in
theorem cok_mX11_barrow : x_cok mX11_barrow 1 := ⟨ini_X11, x_tb_in (List.mem_of_getElem? (i := 1104) rfl) rfl, ⟨by decide, by decide, by decide +kernel⟩, by decide⟩
theorem vok_mX11_barrow : x_vok mX11_barrow 1 := ⟨cok_mX11_barrow, x_tb_in (List.mem_of_getElem? (i := 1102) (by decide +kernel)) (by decide +kernel), x_tb_in (List.mem_of_getElem? (i := 1103) (by decide +kernel)) (by decide +kernel), rfl⟩
set_option maxRecDepth 100000 in
theorem cok_mX11_book : x_cok mX11_book 2 := ⟨ini_X11, x_tb_in (List.mem_of_getElem? (i := 1115) rfl) rfl, ⟨by decide, by decide, by decide +kernel⟩, by decide⟩
theorem vok_mX11_book : x_vok mX11_book 2 := ⟨cok_mX11_book, x_tb_in (List.mem_of_getElem? (i := 1113) (by decide +kernel)) (by decide +kernel), x_tb_in (List.mem_of_getElem? (i := 1114) (by decide +kernel)) (by decide +kernel), rfl⟩
set_option maxRecDepth 100000 in
theorem cok_mX11_by : x_cok mX11_by 1 := ⟨ini_X11, x_tb_in (List.mem_of_getElem? (i := 1050) rfl) rfl, ⟨by decide, by decide, by decide +kernel⟩, by decide⟩
theorem vok_mX11_by : x_vok mX11_by 1 := ⟨cok_mX11_by, x_tb_in (List.mem_of_getElem? (i := 1048) (by decide +kernel)) (by decide +kernel), x_tb_in (List.mem_of_getElem? (i := 1049) (by decide +kernel)) (by decide +kernel), rfl⟩
set_option maxRecDepth 100000 in
theorem cok_mX11_end : x_cok mX11_end 1 := ⟨ini_X11, x_tb_in (List.mem_of_getElem? (i := 791) rfl) rfl, ⟨by decide, by decide, by decide +kernel⟩, by decide⟩
theorem vok_mX11_end : x_vok mX11_end 1 := ⟨cok_mX11_end, x_tb_in (List.mem_of_getElem? (i := 789) (by decide +kernel)) (by decide +kernel), x_tb_in (List.mem_of_getElem? (i := 790) (by decide +kernel)) (by decide +kernel), rfl⟩
set_option maxRecDepth 100000 in
theorem cok_mX11_fair : x_cok mX11_fair 1 := ⟨ini_X11, x_tb_in (List.mem_of_getElem? (i := 1247) rfl) rfl, ⟨by decide, by decide, by decide +kernel⟩, by decide⟩
theorem vok_mX11_fair : x_vok mX11_fair 1 := ⟨cok_mX11_fair, x_tb_in (List.mem_of_getElem? (i := 1245) (by decide +kernel)) (by decide +kernel), x_tb_in (List.mem_of_getElem? (i := 1246) (by decide +kernel)) (by decide +kernel), rfl⟩
set_option maxRecDepth 100000 in
theorem cok_mX11_fault : x_cok mX11_fault 1 := ⟨ini_X11, x_tb_in (List.mem_of_getElem? (i := 1046) rfl) rfl, ⟨by decide, by decide, by decide +kernel⟩, by decide⟩
theorem vok_mX11_fault : x_vok mX11_fault 1 := ⟨cok_mX11_fault, x_tb_in (List.mem_of_getElem? (i := 1044) (by decide +kernel)) (by decide +kernel), x_tb_in (List.mem_of_getElem? (i := 1045) (by decide +kernel)) (by decide +kernel), rfl⟩
set_option maxRecDepth 100000 in
theorem cok_mX11_feed : x_cok mX11_feed 5 := ⟨ini_X11, x_tb_in (List.mem_of_getElem? (i := 783) rfl) rfl, ⟨by decide, by decide, by decide +kernel⟩, by decide⟩
theorem vok_mX11_feed : x_vok mX11_feed 5 := ⟨cok_mX11_feed, x_tb_in (List.mem_of_getElem? (i := 781) (by decide +kernel)) (by decide +kernel), x_tb_in (List.mem_of_getElem? (i := 782) (by decide +kernel)) (by decide +kernel), rfl⟩
set_option maxRecDepth 100000 in
theorem cok_mX11_feel : x_cok mX11_feel 2 := ⟨ini_X11, x_tb_in (List.mem_of_getElem? (i := 1263) rfl) rfl, ⟨by decide, by decide, by decide +kernel⟩, by decide⟩
theorem vok_mX11_feel : x_vok mX11_feel 2 := ⟨cok_mX11_feel, x_tb_in (List.mem_of_getElem? (i := 1261) (by decide +kernel)) (by decide +kernel), x_tb_in (List.mem_of_getElem? (i := 1262) (by decide +kernel)) (by decide +kernel), rfl⟩
set_option maxRecDepth 100000 in
theorem cok_mX11_fitting : x_cok mX11_fitting 0 := ⟨ini_X11, x_tb_in (List.mem_of_getElem? (i := 1141) rfl) rfl, ⟨by decide, by decide, by decide +kernel⟩, by decide⟩
theorem vok_mX11_fitting : x_vok mX11_fitting 0 := ⟨cok_mX11_fitting, x_tb_in (List.mem_of_getElem? (i := 1139) (by decide +kernel)) (by decide +kernel), x_tb_in (List.mem_of_getElem? (i := 1140) (by decide +kernel)) (by decide +kernel), rfl⟩
set_option maxRecDepth 100000 in
theorem cok_mX11_foretold : x_cok mX11_foretold 3 := ⟨ini_X11, x_tb_in (List.mem_of_getElem? (i := 1123) rfl) rfl, ⟨by decide, by decide, by decide +kernel⟩, by decide⟩
theorem vok_mX11_foretold : x_vok mX11_foretold 3 := ⟨cok_mX11_foretold, x_tb_in (List.mem_of_getElem? (i := 1121) (by decide +kernel)) (by decide +kernel), x_tb_in (List.mem_of_getElem? (i := 1122) (by decide +kernel)) (by decide +kernel), rfl⟩
set_option maxRecDepth 100000 in
theorem cok_mX11_hard : x_cok mX11_hard 3 := ⟨ini_X11, x_tb_in (List.mem_of_getElem? (i := 1109) rfl) rfl, ⟨by decide, by decide, by decide +kernel⟩, by decide⟩
theorem vok_mX11_hard : x_vok mX11_hard 3 := ⟨cok_mX11_hard, x_tb_in (List.mem_of_getElem? (i := 1107) (by decide +kernel)) (by decide +kernel), x_tb_in (List.mem_of_getElem? (i := 1108) (by decide +kernel)) (by decide +kernel), rfl⟩
set_option maxRecDepth 100000 in
theorem cok_mX11_held : x_cok mX11_held 3 := ⟨ini_X11, x_tb_in (List.mem_of_getElem? (i := 691) rfl) rfl, ⟨by decide, by decide, by decide +kernel⟩, by decide⟩
theorem stt_mX11_held : Cond.static mX11_held.1 ∈ x_tb := x_tb_in (List.mem_of_getElem? (i := 690) (by decide +kernel)) (by decide +kernel)
set_option maxRecDepth 100000 in
theorem cok_mX11_house : x_cok mX11_house 1 := ⟨ini_X11, x_tb_in (List.mem_of_getElem? (i := 548) rfl) rfl, ⟨by decide, by decide, by decide +kernel⟩, by decide⟩
theorem vok_mX11_house : x_vok mX11_house 1 := ⟨cok_mX11_house, x_tb_in (List.mem_of_getElem? (i := 546) (by decide +kernel)) (by decide +kernel), x_tb_in (List.mem_of_getElem? (i := 547) (by decide +kernel)) (by decide +kernel), rfl⟩
set_option maxRecDepth 100000 in
theorem cok_mX11_image : x_cok mX11_image 0 := ⟨ini_X11, x_tb_in (List.mem_of_getElem? (i := 1328) rfl) rfl, ⟨by decide, by decide, by decide +kernel⟩, by decide⟩
theorem vok_mX11_image : x_vok mX11_image 0 := ⟨cok_mX11_image, x_tb_in (List.mem_of_getElem? (i := 1326) (by decide +kernel)) (by decide +kernel), x_tb_in (List.mem_of_getElem? (i := 1327) (by decide +kernel)) (by decide +kernel), rfl⟩
set_option maxRecDepth 100000 in
theorem cok_mX11_isDone : x_cok mX11_isDone 2 := ⟨ini_X11, x_tb_in (List.mem_of_getElem? (i := 1066) rfl) rfl, ⟨by decide, by decide, by decide +kernel⟩, by decide⟩
theorem vok_mX11_isDone : x_vok mX11_isDone 2 := ⟨cok_mX11_isDone, x_tb_in (List.mem_of_getElem? (i := 1065) (by decide +kernel)) (by decide +kernel), x_tb_in (List.mem_of_getElem? (i := 34) (by decide +kernel)) (by decide +kernel), rfl⟩
set_option maxRecDepth 100000 in
theorem cok_mX11_lane : x_cok mX11_lane 3 := ⟨ini_X11, x_tb_in (List.mem_of_getElem? (i := 567) rfl) rfl, ⟨by decide, by decide, by decide +kernel⟩, by decide⟩
theorem vok_mX11_lane : x_vok mX11_lane 3 := ⟨cok_mX11_lane, x_tb_in (List.mem_of_getElem? (i := 565) (by decide +kernel)) (by decide +kernel), x_tb_in (List.mem_of_getElem? (i := 566) (by decide +kernel)) (by decide +kernel), rfl⟩
set_option maxRecDepth 100000 in
theorem cok_mX11_least : x_cok mX11_least 3 := ⟨ini_X11, x_tb_in (List.mem_of_getElem? (i := 1185) rfl) rfl, ⟨by decide, by decide, by decide +kernel⟩, by decide⟩
theorem vok_mX11_least : x_vok mX11_least 3 := ⟨cok_mX11_least, x_tb_in (List.mem_of_getElem? (i := 1183) (by decide +kernel)) (by decide +kernel), x_tb_in (List.mem_of_getElem? (i := 1184) (by decide +kernel)) (by decide +kernel), rfl⟩
set_option maxRecDepth 100000 in
theorem cok_mX11_letRule : x_cok mX11_letRule 1 := ⟨ini_X11, x_tb_in (List.mem_of_getElem? (i := 1058) rfl) rfl, ⟨by decide, by decide, by decide +kernel⟩, by decide⟩
theorem vok_mX11_letRule : x_vok mX11_letRule 1 := ⟨cok_mX11_letRule, x_tb_in (List.mem_of_getElem? (i := 1057) (by decide +kernel)) (by decide +kernel), x_tb_in (List.mem_of_getElem? (i := 33) (by decide +kernel)) (by decide +kernel), rfl⟩
set_option maxRecDepth 100000 in
theorem cok_mX11_lost : x_cok mX11_lost 0 := ⟨ini_X11, x_tb_in (List.mem_of_getElem? (i := 1267) rfl) rfl, ⟨by decide, by decide, by decide +kernel⟩, by decide⟩
theorem vok_mX11_lost : x_vok mX11_lost 0 := ⟨cok_mX11_lost, x_tb_in (List.mem_of_getElem? (i := 1265) (by decide +kernel)) (by decide +kernel), x_tb_in (List.mem_of_getElem? (i := 1266) (by decide +kernel)) (by decide +kernel), rfl⟩
set_option maxRecDepth 100000 in
theorem cok_mX11_mend : x_cok mX11_mend 0 := ⟨ini_X11, x_tb_in (List.mem_of_getElem? (i := 710) rfl) rfl, ⟨by decide, by decide, by decide +kernel⟩, by decide⟩
theorem vok_mX11_mend : x_vok mX11_mend 0 := ⟨cok_mX11_mend, x_tb_in (List.mem_of_getElem? (i := 708) (by decide +kernel)) (by decide +kernel), x_tb_in (List.mem_of_getElem? (i := 709) (by decide +kernel)) (by decide +kernel), rfl⟩
set_option maxRecDepth 100000 in
theorem cok_mX11_minute : x_cok mX11_minute 1 := ⟨ini_X11, x_tb_in (List.mem_of_getElem? (i := 714) rfl) rfl, ⟨by decide, by decide, by decide +kernel⟩, by decide⟩
theorem vok_mX11_minute : x_vok mX11_minute 1 := ⟨cok_mX11_minute, x_tb_in (List.mem_of_getElem? (i := 712) (by decide +kernel)) (by decide +kernel), x_tb_in (List.mem_of_getElem? (i := 713) (by decide +kernel)) (by decide +kernel), rfl⟩
set_option maxRecDepth 100000 in
theorem cok_mX11_of : x_cok mX11_of 2 := ⟨ini_X11, x_tb_in (List.mem_of_getElem? (i := 1085) rfl) rfl, ⟨by decide, by decide, by decide +kernel⟩, by decide⟩
theorem vok_mX11_of : x_vok mX11_of 2 := ⟨cok_mX11_of, x_tb_in (List.mem_of_getElem? (i := 1083) (by decide +kernel)) (by decide +kernel), x_tb_in (List.mem_of_getElem? (i := 1084) (by decide +kernel)) (by decide +kernel), rfl⟩
set_option maxRecDepth 100000 in
theorem cok_mX11_played : x_cok mX11_played 1 := ⟨ini_X11, x_tb_in (List.mem_of_getElem? (i := 1062) rfl) rfl, ⟨by decide, by decide, by decide +kernel⟩, by decide⟩
theorem vok_mX11_played : x_vok mX11_played 1 := ⟨cok_mX11_played, x_tb_in (List.mem_of_getElem? (i := 1060) (by decide +kernel)) (by decide +kernel), x_tb_in (List.mem_of_getElem? (i := 1061) (by decide +kernel)) (by decide +kernel), rfl⟩
set_option maxRecDepth 100000 in
theorem cok_mX11_push : x_cok mX11_push 2 := ⟨ini_X11, x_tb_in (List.mem_of_getElem? (i := 588) rfl) rfl, ⟨by decide, by decide, by decide +kernel⟩, by decide⟩
theorem vok_mX11_push : x_vok mX11_push 2 := ⟨cok_mX11_push, x_tb_in (List.mem_of_getElem? (i := 586) (by decide +kernel)) (by decide +kernel), x_tb_in (List.mem_of_getElem? (i := 587) (by decide +kernel)) (by decide +kernel), rfl⟩
set_option maxRecDepth 100000 in
theorem cok_mX11_pusher : x_cok mX11_pusher 1 := ⟨ini_X11, x_tb_in (List.mem_of_getElem? (i := 580) rfl) rfl, ⟨by decide, by decide, by decide +kernel⟩, by decide⟩
theorem vok_mX11_pusher : x_vok mX11_pusher 1 := ⟨cok_mX11_pusher, x_tb_in (List.mem_of_getElem? (i := 578) (by decide +kernel)) (by decide +kernel), x_tb_in (List.mem_of_getElem? (i := 579) (by decide +kernel)) (by decide +kernel), rfl⟩
set_option maxRecDepth 100000 in
theorem cok_mX11_route : x_cok mX11_route 1 := ⟨ini_X11, x_tb_in (List.mem_of_getElem? (i := 1154) rfl) rfl, ⟨by decide, by decide, by decide +kernel⟩, by decide⟩
theorem vok_mX11_route : x_vok mX11_route 1 := ⟨cok_mX11_route, x_tb_in (List.mem_of_getElem? (i := 1152) (by decide +kernel)) (by decide +kernel), x_tb_in (List.mem_of_getElem? (i := 1153) (by decide +kernel)) (by decide +kernel), rfl⟩
set_option maxRecDepth 100000 in
theorem cok_mX11_text : x_cok mX11_text 0 := ⟨ini_X11, x_tb_in (List.mem_of_getElem? (i := 795) rfl) rfl, ⟨by decide, by decide, by decide +kernel⟩, by decide⟩
theorem vok_mX11_text : x_vok mX11_text 0 := ⟨cok_mX11_text, x_tb_in (List.mem_of_getElem? (i := 793) (by decide +kernel)) (by decide +kernel), x_tb_in (List.mem_of_getElem? (i := 794) (by decide +kernel)) (by decide +kernel), rfl⟩
set_option maxRecDepth 100000 in
theorem cok_mX11_textTold : x_cok mX11_textTold 1 := ⟨ini_X11, x_tb_in (List.mem_of_getElem? (i := 1054) rfl) rfl, ⟨by decide, by decide, by decide +kernel⟩, by decide⟩
theorem vok_mX11_textTold : x_vok mX11_textTold 1 := ⟨cok_mX11_textTold, x_tb_in (List.mem_of_getElem? (i := 1053) (by decide +kernel)) (by decide +kernel), x_tb_in (List.mem_of_getElem? (i := 32) (by decide +kernel)) (by decide +kernel), rfl⟩
set_option maxRecDepth 100000 in
theorem cok_mX11_thieves : x_cok mX11_thieves 0 := ⟨ini_X11, x_tb_in (List.mem_of_getElem? (i := 1297) rfl) rfl, ⟨by decide, by decide, by decide +kernel⟩, by decide⟩
theorem vok_mX11_thieves : x_vok mX11_thieves 0 := ⟨cok_mX11_thieves, x_tb_in (List.mem_of_getElem? (i := 1295) (by decide +kernel)) (by decide +kernel), x_tb_in (List.mem_of_getElem? (i := 1296) (by decide +kernel)) (by decide +kernel), rfl⟩
set_option maxRecDepth 100000 in
theorem cok_mX11_tip : x_cok mX11_tip 0 := ⟨ini_X11, x_tb_in (List.mem_of_getElem? (i := 697) rfl) rfl, ⟨by decide, by decide, by decide +kernel⟩, by decide⟩
theorem vok_mX11_tip : x_vok mX11_tip 0 := ⟨cok_mX11_tip, x_tb_in (List.mem_of_getElem? (i := 695) (by decide +kernel)) (by decide +kernel), x_tb_in (List.mem_of_getElem? (i := 696) (by decide +kernel)) (by decide +kernel), rfl⟩
set_option maxRecDepth 100000 in
theorem cok_mX11_two : x_cok mX11_two 3 := ⟨ini_X11, x_tb_in (List.mem_of_getElem? (i := 1094) rfl) rfl, ⟨by decide, by decide, by decide +kernel⟩, by decide⟩
theorem vok_mX11_two : x_vok mX11_two 3 := ⟨cok_mX11_two, x_tb_in (List.mem_of_getElem? (i := 1092) (by decide +kernel)) (by decide +kernel), x_tb_in (List.mem_of_getElem? (i := 1093) (by decide +kernel)) (by decide +kernel), rfl⟩
set_option maxRecDepth 100000 in
theorem cok_mX11_undo : x_cok mX11_undo 0 := ⟨ini_X11, x_tb_in (List.mem_of_getElem? (i := 1077) rfl) rfl, ⟨by decide, by decide, by decide +kernel⟩, by decide⟩
theorem vok_mX11_undo : x_vok mX11_undo 0 := ⟨cok_mX11_undo, x_tb_in (List.mem_of_getElem? (i := 1075) (by decide +kernel)) (by decide +kernel), x_tb_in (List.mem_of_getElem? (i := 1076) (by decide +kernel)) (by decide +kernel), rfl⟩
set_option maxRecDepth 100000 in
theorem cok_mX11_want : x_cok mX11_want 2 := ⟨ini_X11, x_tb_in (List.mem_of_getElem? (i := 1133) rfl) rfl, ⟨by decide, by decide, by decide +kernel⟩, by decide⟩
theorem vok_mX11_want : x_vok mX11_want 2 := ⟨cok_mX11_want, x_tb_in (List.mem_of_getElem? (i := 1131) (by decide +kernel)) (by decide +kernel), x_tb_in (List.mem_of_getElem? (i := 1132) (by decide +kernel)) (by decide +kernel), rfl⟩
set_option maxRecDepth 100000 in
theorem cok_mX11_watch : x_cok mX11_watch 2 := ⟨ini_X11, x_tb_in (List.mem_of_getElem? (i := 1306) rfl) rfl, ⟨by decide, by decide, by decide +kernel⟩, by decide⟩
theorem vok_mX11_watch : x_vok mX11_watch 2 := ⟨cok_mX11_watch, x_tb_in (List.mem_of_getElem? (i := 1304) (by decide +kernel)) (by decide +kernel), x_tb_in (List.mem_of_getElem? (i := 1305) (by decide +kernel)) (by decide +kernel), rfl⟩
set_option maxRecDepth 100000 in
theorem cok_mX11_weight : x_cok mX11_weight 2 := ⟨ini_X11, x_tb_in (List.mem_of_getElem? (i := 1243) rfl) rfl, ⟨by decide, by decide, by decide +kernel⟩, by decide⟩
theorem vok_mX11_weight : x_vok mX11_weight 2 := ⟨cok_mX11_weight, x_tb_in (List.mem_of_getElem? (i := 1241) (by decide +kernel)) (by decide +kernel), x_tb_in (List.mem_of_getElem? (i := 1242) (by decide +kernel)) (by decide +kernel), rfl⟩
set_option maxRecDepth 100000 in
theorem cok_mX11_winner : x_cok mX11_winner 0 := ⟨ini_X11, x_tb_in (List.mem_of_getElem? (i := 1212) rfl) rfl, ⟨by decide, by decide, by decide +kernel⟩, by decide⟩
theorem vok_mX11_winner : x_vok mX11_winner 0 := ⟨cok_mX11_winner, x_tb_in (List.mem_of_getElem? (i := 1210) (by decide +kernel)) (by decide +kernel), x_tb_in (List.mem_of_getElem? (i := 1211) (by decide +kernel)) (by decide +kernel), rfl⟩
set_option maxRecDepth 100000 in
theorem cok_mX11_yard : x_cok mX11_yard 0 := ⟨ini_X11, x_tb_in (List.mem_of_getElem? (i := 1280) rfl) rfl, ⟨by decide, by decide, by decide +kernel⟩, by decide⟩
theorem vok_mX11_yard : x_vok mX11_yard 0 := ⟨cok_mX11_yard, x_tb_in (List.mem_of_getElem? (i := 1278) (by decide +kernel)) (by decide +kernel), x_tb_in (List.mem_of_getElem? (i := 1279) (by decide +kernel)) (by decide +kernel), rfl⟩
set_option maxRecDepth 100000 in
theorem cok_mX11_years : x_cok mX11_years 2 := ⟨ini_X11, x_tb_in (List.mem_of_getElem? (i := 763) rfl) rfl, ⟨by decide, by decide, by decide +kernel⟩, by decide⟩
theorem vok_mX11_years : x_vok mX11_years 2 := ⟨cok_mX11_years, x_tb_in (List.mem_of_getElem? (i := 761) (by decide +kernel)) (by decide +kernel), x_tb_in (List.mem_of_getElem? (i := 762) (by decide +kernel)) (by decide +kernel), rfl⟩
set_option maxRecDepth 100000 in
theorem cok_mX12_about : x_cok mX12_about 1 := ⟨ini_X12, x_tb_in (List.mem_of_getElem? (i := 1977) rfl) rfl, ⟨by decide, by decide, by decide +kernel⟩, by decide⟩
theorem vok_mX12_about : x_vok mX12_about 1 := ⟨cok_mX12_about, x_tb_in (List.mem_of_getElem? (i := 1975) (by decide +kernel)) (by decide +kernel), x_tb_in (List.mem_of_getElem? (i := 1976) (by decide +kernel)) (by decide +kernel), rfl⟩
set_option maxRecDepth 100000 in
theorem cok_mX12_agenda : x_cok mX12_agenda 2 := ⟨ini_X12, x_tb_in (List.mem_of_getElem? (i := 1918) rfl) rfl, ⟨by decide, by decide, by decide +kernel⟩, by decide⟩
theorem vok_mX12_agenda : x_vok mX12_agenda 2 := ⟨cok_mX12_agenda, x_tb_in (List.mem_of_getElem? (i := 1916) (by decide +kernel)) (by decide +kernel), x_tb_in (List.mem_of_getElem? (i := 1917) (by decide +kernel)) (by decide +kernel), rfl⟩
set_option maxRecDepth 100000 in
theorem cok_mX12_answersAt : x_cok mX12_answersAt 2 := ⟨ini_X12, x_tb_in (List.mem_of_getElem? (i := 1950) rfl) rfl, ⟨by decide, by decide, by decide +kernel⟩, by decide⟩
theorem vok_mX12_answersAt : x_vok mX12_answersAt 2 := ⟨cok_mX12_answersAt, x_tb_in (List.mem_of_getElem? (i := 1949) (by decide +kernel)) (by decide +kernel), x_tb_in (List.mem_of_getElem? (i := 112) (by decide +kernel)) (by decide +kernel), rfl⟩
set_option maxRecDepth 100000 in
theorem cok_mX12_arrives : x_cok mX12_arrives 0 := ⟨ini_X12, x_tb_in (List.mem_of_getElem? (i := 1873) rfl) rfl, ⟨by decide, by decide, by decide +kernel⟩, by decide⟩
theorem vok_mX12_arrives : x_vok mX12_arrives 0 := ⟨cok_mX12_arrives, x_tb_in (List.mem_of_getElem? (i := 1871) (by decide +kernel)) (by decide +kernel), x_tb_in (List.mem_of_getElem? (i := 1872) (by decide +kernel)) (by decide +kernel), rfl⟩
set_option maxRecDepth 100000 in
theorem cok_mX12_askIsOver : x_cok mX12_askIsOver 0 := ⟨ini_X12, x_tb_in (List.mem_of_getElem? (i := 1663) rfl) rfl, ⟨by decide, by decide, by decide +kernel⟩, by decide⟩
theorem vok_mX12_askIsOver : x_vok mX12_askIsOver 0 := ⟨cok_mX12_askIsOver, x_tb_in (List.mem_of_getElem? (i := 1662) (by decide +kernel)) (by decide +kernel), x_tb_in (List.mem_of_getElem? (i := 73) (by decide +kernel)) (by decide +kernel), rfl⟩
set_option maxRecDepth 100000 in
theorem cok_mX12_asks : x_cok mX12_asks 0 := ⟨ini_X12, x_tb_in (List.mem_of_getElem? (i := 1590) rfl) rfl, ⟨by decide, by decide, by decide +kernel⟩, by decide⟩
theorem vok_mX12_asks : x_vok mX12_asks 0 := ⟨cok_mX12_asks, x_tb_in (List.mem_of_getElem? (i := 1589) (by decide +kernel)) (by decide +kernel), x_tb_in (List.mem_of_getElem? (i := 57) (by decide +kernel)) (by decide +kernel), rfl⟩
set_option maxRecDepth 100000 in
theorem cok_mX12_asksOn : x_cok mX12_asksOn 0 := ⟨ini_X12, x_tb_in (List.mem_of_getElem? (i := 1671) rfl) rfl, ⟨by decide, by decide, by decide +kernel⟩, by decide⟩
theorem vok_mX12_asksOn : x_vok mX12_asksOn 0 := ⟨cok_mX12_asksOn, x_tb_in (List.mem_of_getElem? (i := 1670) (by decide +kernel)) (by decide +kernel), x_tb_in (List.mem_of_getElem? (i := 75) (by decide +kernel)) (by decide +kernel), rfl⟩
set_option maxRecDepth 100000 in
theorem cok_mX12_away : x_cok mX12_away 2 := ⟨ini_X12, x_tb_in (List.mem_of_getElem? (i := 1806) rfl) rfl, ⟨by decide, by decide, by decide +kernel⟩, by decide⟩
theorem stt_mX12_away : Cond.static mX12_away.1 ∈ x_tb := x_tb_in (List.mem_of_getElem? (i := 1805) (by decide +kernel)) (by decide +kernel)
set_option maxRecDepth 100000 in
theorem cok_mX12_back : x_cok mX12_back 0 := ⟨ini_X12, x_tb_in (List.mem_of_getElem? (i := 1973) rfl) rfl, ⟨by decide, by decide, by decide +kernel⟩, by decide⟩
theorem vok_mX12_back : x_vok mX12_back 0 := ⟨cok_mX12_back, x_tb_in (List.mem_of_getElem? (i := 1971) (by decide +kernel)) (by decide +kernel), x_tb_in (List.mem_of_getElem? (i := 1972) (by decide +kernel)) (by decide +kernel), rfl⟩
set_option maxRecDepth 100000 in
theorem cok_mX12_barrow : x_cok mX12_barrow 1 := ⟨ini_X12, x_tb_in (List.mem_of_getElem? (i := 1857) rfl) rfl, ⟨by decide, by decide, by decide +kernel⟩, by decide⟩
theorem vok_mX12_barrow : x_vok mX12_barrow 1 := ⟨cok_mX12_barrow, x_tb_in (List.mem_of_getElem? (i := 1855) (by decide +kernel)) (by decide +kernel), x_tb_in (List.mem_of_getElem? (i := 1856) (by decide +kernel)) (by decide +kernel), rfl⟩
set_option maxRecDepth 100000 in
theorem cok_mX12_begins : x_cok mX12_begins 0 := ⟨ini_X12, x_tb_in (List.mem_of_getElem? (i := 1610) rfl) rfl, ⟨by decide, by decide, by decide +kernel⟩, by decide⟩
theorem vok_mX12_begins : x_vok mX12_begins 0 := ⟨cok_mX12_begins, x_tb_in (List.mem_of_getElem? (i := 1609) (by decide +kernel)) (by decide +kernel), x_tb_in (List.mem_of_getElem? (i := 62) (by decide +kernel)) (by decide +kernel), rfl⟩
set_option maxRecDepth 100000 in
theorem cok_mX12_book : x_cok mX12_book 2 := ⟨ini_X12, x_tb_in (List.mem_of_getElem? (i := 1865) rfl) rfl, ⟨by decide, by decide, by decide +kernel⟩, by decide⟩
theorem vok_mX12_book : x_vok mX12_book 2 := ⟨cok_mX12_book, x_tb_in (List.mem_of_getElem? (i := 1863) (by decide +kernel)) (by decide +kernel), x_tb_in (List.mem_of_getElem? (i := 1864) (by decide +kernel)) (by decide +kernel), rfl⟩
set_option maxRecDepth 100000 in
theorem cok_mX12_bound : x_cok mX12_bound 1 := ⟨ini_X12, x_tb_in (List.mem_of_getElem? (i := 1746) rfl) rfl, ⟨by decide, by decide, by decide +kernel⟩, by decide⟩
theorem stt_mX12_bound : Cond.static mX12_bound.1 ∈ x_tb := x_tb_in (List.mem_of_getElem? (i := 1745) (by decide +kernel)) (by decide +kernel)
set_option maxRecDepth 100000 in
theorem cok_mX12_by : x_cok mX12_by 1 := ⟨ini_X12, x_tb_in (List.mem_of_getElem? (i := 1699) rfl) rfl, ⟨by decide, by decide, by decide +kernel⟩, by decide⟩
theorem vok_mX12_by : x_vok mX12_by 1 := ⟨cok_mX12_by, x_tb_in (List.mem_of_getElem? (i := 1697) (by decide +kernel)) (by decide +kernel), x_tb_in (List.mem_of_getElem? (i := 1698) (by decide +kernel)) (by decide +kernel), rfl⟩
set_option maxRecDepth 100000 in
theorem cok_mX12_bySecond : x_cok mX12_bySecond 0 := ⟨ini_X12, x_tb_in (List.mem_of_getElem? (i := 1630) rfl) rfl, ⟨by decide, by decide, by decide +kernel⟩, by decide⟩
theorem vok_mX12_bySecond : x_vok mX12_bySecond 0 := ⟨cok_mX12_bySecond, x_tb_in (List.mem_of_getElem? (i := 1629) (by decide +kernel)) (by decide +kernel), x_tb_in (List.mem_of_getElem? (i := 67) (by decide +kernel)) (by decide +kernel), rfl⟩
set_option maxRecDepth 100000 in
theorem cok_mX12_canPass : x_cok mX12_canPass 0 := ⟨ini_X12, x_tb_in (List.mem_of_getElem? (i := 1826) rfl) rfl, ⟨by decide, by decide, by decide +kernel⟩, by decide⟩
theorem vok_mX12_canPass : x_vok mX12_canPass 0 := ⟨cok_mX12_canPass, x_tb_in (List.mem_of_getElem? (i := 1825) (by decide +kernel)) (by decide +kernel), x_tb_in (List.mem_of_getElem? (i := 103) (by decide +kernel)) (by decide +kernel), rfl⟩
set_option maxRecDepth 100000 in
theorem cok_mX12_canPush : x_cok mX12_canPush 2 := ⟨ini_X12, x_tb_in (List.mem_of_getElem? (i := 1715) rfl) rfl, ⟨by decide, by decide, by decide +kernel⟩, by decide⟩
theorem vok_mX12_canPush : x_vok mX12_canPush 2 := ⟨cok_mX12_canPush, x_tb_in (List.mem_of_getElem? (i := 1714) (by decide +kernel)) (by decide +kernel), x_tb_in (List.mem_of_getElem? (i := 83) (by decide +kernel)) (by decide +kernel), rfl⟩
set_option maxRecDepth 100000 in
theorem cok_mX12_clause : x_cok mX12_clause 0 := ⟨ini_X12, x_tb_in (List.mem_of_getElem? (i := 1675) rfl) rfl, ⟨by decide, by decide, by decide +kernel⟩, by decide⟩
theorem vok_mX12_clause : x_vok mX12_clause 0 := ⟨cok_mX12_clause, x_tb_in (List.mem_of_getElem? (i := 1674) (by decide +kernel)) (by decide +kernel), x_tb_in (List.mem_of_getElem? (i := 76) (by decide +kernel)) (by decide +kernel), rfl⟩
set_option maxRecDepth 100000 in
theorem cok_mX12_clauseIsOver : x_cok mX12_clauseIsOver 0 := ⟨ini_X12, x_tb_in (List.mem_of_getElem? (i := 1667) rfl) rfl, ⟨by decide, by decide, by decide +kernel⟩, by decide⟩
theorem vok_mX12_clauseIsOver : x_vok mX12_clauseIsOver 0 := ⟨cok_mX12_clauseIsOver, x_tb_in (List.mem_of_getElem? (i := 1666) (by decide +kernel)) (by decide +kernel), x_tb_in (List.mem_of_getElem? (i := 74) (by decide +kernel)) (by decide +kernel), rfl⟩
set_option maxRecDepth 100000 in
theorem cok_mX12_copies : x_cok mX12_copies 1 := ⟨ini_X12, x_tb_in (List.mem_of_getElem? (i := 1360) rfl) rfl, ⟨by decide, by decide, by decide +kernel⟩, by decide⟩
theorem vok_mX12_copies : x_vok mX12_copies 1 := ⟨cok_mX12_copies, x_tb_in (List.mem_of_getElem? (i := 1359) (by decide +kernel)) (by decide +kernel), x_tb_in (List.mem_of_getElem? (i := 53) (by decide +kernel)) (by decide +kernel), rfl⟩
set_option maxRecDepth 100000 in
theorem cok_mX12_doesBeat : x_cok mX12_doesBeat 2 := ⟨ini_X12, x_tb_in (List.mem_of_getElem? (i := 1914) rfl) rfl, ⟨by decide, by decide, by decide +kernel⟩, by decide⟩
theorem vok_mX12_doesBeat : x_vok mX12_doesBeat 2 := ⟨cok_mX12_doesBeat, x_tb_in (List.mem_of_getElem? (i := 1913) (by decide +kernel)) (by decide +kernel), x_tb_in (List.mem_of_getElem? (i := 110) (by decide +kernel)) (by decide +kernel), rfl⟩
set_option maxRecDepth 100000 in
theorem cok_mX12_doing : x_cok mX12_doing 0 := ⟨ini_X12, x_tb_in (List.mem_of_getElem? (i := 1683) rfl) rfl, ⟨by decide, by decide, by decide +kernel⟩, by decide⟩
theorem vok_mX12_doing : x_vok mX12_doing 0 := ⟨cok_mX12_doing, x_tb_in (List.mem_of_getElem? (i := 1682) (by decide +kernel)) (by decide +kernel), x_tb_in (List.mem_of_getElem? (i := 78) (by decide +kernel)) (by decide +kernel), rfl⟩
set_option maxRecDepth 100000 in
theorem cok_mX12_doneAt : x_cok mX12_doneAt 2 := ⟨ini_X12, x_tb_in (List.mem_of_getElem? (i := 1897) rfl) rfl, ⟨by decide, by decide, by decide +kernel⟩, by decide⟩
theorem vok_mX12_doneAt : x_vok mX12_doneAt 2 := ⟨cok_mX12_doneAt, x_tb_in (List.mem_of_getElem? (i := 1896) (by decide +kernel)) (by decide +kernel), x_tb_in (List.mem_of_getElem? (i := 108) (by decide +kernel)) (by decide +kernel), rfl⟩
set_option maxRecDepth 100000 in
theorem cok_mX12_draw : x_cok mX12_draw 1 := ⟨ini_X12, x_tb_in (List.mem_of_getElem? (i := 1822) rfl) rfl, ⟨by decide, by decide, by decide +kernel⟩, by decide⟩
theorem vok_mX12_draw : x_vok mX12_draw 1 := ⟨cok_mX12_draw, x_tb_in (List.mem_of_getElem? (i := 1821) (by decide +kernel)) (by decide +kernel), x_tb_in (List.mem_of_getElem? (i := 102) (by decide +kernel)) (by decide +kernel), rfl⟩
set_option maxRecDepth 100000 in
theorem cok_mX12_earnsOf : x_cok mX12_earnsOf 1 := ⟨ini_X12, x_tb_in (List.mem_of_getElem? (i := 1796) rfl) rfl, ⟨by decide, by decide, by decide +kernel⟩, by decide⟩
theorem vok_mX12_earnsOf : x_vok mX12_earnsOf 1 := ⟨cok_mX12_earnsOf, x_tb_in (List.mem_of_getElem? (i := 1795) (by decide +kernel)) (by decide +kernel), x_tb_in (List.mem_of_getElem? (i := 98) (by decide +kernel)) (by decide +kernel), rfl⟩
set_option maxRecDepth 100000 in
theorem cok_mX12_emits : x_cok mX12_emits 2 := ⟨ini_X12, x_tb_in (List.mem_of_getElem? (i := 1618) rfl) rfl, ⟨by decide, by decide, by decide +kernel⟩, by decide⟩
theorem vok_mX12_emits : x_vok mX12_emits 2 := ⟨cok_mX12_emits, x_tb_in (List.mem_of_getElem? (i := 1617) (by decide +kernel)) (by decide +kernel), x_tb_in (List.mem_of_getElem? (i := 64) (by decide +kernel)) (by decide +kernel), rfl⟩
set_option maxRecDepth 100000 in
theorem cok_mX12_end : x_cok mX12_end 1 := ⟨ini_X12, x_tb_in (List.mem_of_getElem? (i := 1538) rfl) rfl, ⟨by decide, by decide, by decide +kernel⟩, by decide⟩
theorem vok_mX12_end : x_vok mX12_end 1 := ⟨cok_mX12_end, x_tb_in (List.mem_of_getElem? (i := 1536) (by decide +kernel)) (by decide +kernel), x_tb_in (List.mem_of_getElem? (i := 1537) (by decide +kernel)) (by decide +kernel), rfl⟩
set_option maxRecDepth 100000 in
theorem cok_mX12_errs : x_cok mX12_errs 1 := ⟨ini_X12, x_tb_in (List.mem_of_getElem? (i := 1602) rfl) rfl, ⟨by decide, by decide, by decide +kernel⟩, by decide⟩
theorem vok_mX12_errs : x_vok mX12_errs 1 := ⟨cok_mX12_errs, x_tb_in (List.mem_of_getElem? (i := 1601) (by decide +kernel)) (by decide +kernel), x_tb_in (List.mem_of_getElem? (i := 60) (by decide +kernel)) (by decide +kernel), rfl⟩
set_option maxRecDepth 100000 in
theorem cok_mX12_fair : x_cok mX12_fair 1 := ⟨ini_X12, x_tb_in (List.mem_of_getElem? (i := 1929) rfl) rfl, ⟨by decide, by decide, by decide +kernel⟩, by decide⟩
theorem vok_mX12_fair : x_vok mX12_fair 1 := ⟨cok_mX12_fair, x_tb_in (List.mem_of_getElem? (i := 1927) (by decide +kernel)) (by decide +kernel), x_tb_in (List.mem_of_getElem? (i := 1928) (by decide +kernel)) (by decide +kernel), rfl⟩
set_option maxRecDepth 100000 in
theorem cok_mX12_farBy : x_cok mX12_farBy 2 := ⟨ini_X12, x_tb_in (List.mem_of_getElem? (i := 1752) rfl) rfl, ⟨by decide, by decide, by decide +kernel⟩, by decide⟩
theorem vok_mX12_farBy : x_vok mX12_farBy 2 := ⟨cok_mX12_farBy, x_tb_in (List.mem_of_getElem? (i := 1751) (by decide +kernel)) (by decide +kernel), x_tb_in (List.mem_of_getElem? (i := 91) (by decide +kernel)) (by decide +kernel), rfl⟩
set_option maxRecDepth 100000 in
theorem cok_mX12_fault : x_cok mX12_fault 1 := ⟨ini_X12, x_tb_in (List.mem_of_getElem? (i := 1695) rfl) rfl, ⟨by decide, by decide, by decide +kernel⟩, by decide⟩
theorem vok_mX12_fault : x_vok mX12_fault 1 := ⟨cok_mX12_fault, x_tb_in (List.mem_of_getElem? (i := 1693) (by decide +kernel)) (by decide +kernel), x_tb_in (List.mem_of_getElem? (i := 1694) (by decide +kernel)) (by decide +kernel), rfl⟩
set_option maxRecDepth 100000 in
theorem cok_mX12_feed : x_cok mX12_feed 5 := ⟨ini_X12, x_tb_in (List.mem_of_getElem? (i := 1530) rfl) rfl, ⟨by decide, by decide, by decide +kernel⟩, by decide⟩
theorem vok_mX12_feed : x_vok mX12_feed 5 := ⟨cok_mX12_feed, x_tb_in (List.mem_of_getElem? (i := 1528) (by decide +kernel)) (by decide +kernel), x_tb_in (List.mem_of_getElem? (i := 1529) (by decide +kernel)) (by decide +kernel), rfl⟩
set_option maxRecDepth 100000 in
theorem cok_mX12_feel : x_cok mX12_feel 2 := ⟨ini_X12, x_tb_in (List.mem_of_getElem? (i := 1937) rfl) rfl, ⟨by decide, by decide, by decide +kernel⟩, by decide⟩
theorem vok_mX12_feel : x_vok mX12_feel 2 := ⟨cok_mX12_feel, x_tb_in (List.mem_of_getElem? (i := 1935) (by decide +kernel)) (by decide +kernel), x_tb_in (List.mem_of_getElem? (i := 1936) (by decide +kernel)) (by decide +kernel), rfl⟩
set_option maxRecDepth 100000 in
theorem cok_mX12_fitting : x_cok mX12_fitting 0 := ⟨ini_X12, x_tb_in (List.mem_of_getElem? (i := 1881) rfl) rfl, ⟨by decide, by decide, by decide +kernel⟩, by decide⟩
theorem vok_mX12_fitting : x_vok mX12_fitting 0 := ⟨cok_mX12_fitting, x_tb_in (List.mem_of_getElem? (i := 1879) (by decide +kernel)) (by decide +kernel), x_tb_in (List.mem_of_getElem? (i := 1880) (by decide +kernel)) (by decide +kernel), rfl⟩
set_option maxRecDepth 100000 in
theorem cok_mX12_foretold : x_cok mX12_foretold 3 := ⟨ini_X12, x_tb_in (List.mem_of_getElem? (i := 1869) rfl) rfl, ⟨by decide, by decide, by decide +kernel⟩, by decide⟩
theorem vok_mX12_foretold : x_vok mX12_foretold 3 := ⟨cok_mX12_foretold, x_tb_in (List.mem_of_getElem? (i := 1867) (by decide +kernel)) (by decide +kernel), x_tb_in (List.mem_of_getElem? (i := 1868) (by decide +kernel)) (by decide +kernel), rfl⟩
set_option maxRecDepth 100000 in
theorem cok_mX12_goesOn : x_cok mX12_goesOn 0 := ⟨ini_X12, x_tb_in (List.mem_of_getElem? (i := 1641) rfl) rfl, ⟨by decide, by decide, by decide +kernel⟩, by decide⟩
theorem vok_mX12_goesOn : x_vok mX12_goesOn 0 := ⟨cok_mX12_goesOn, x_tb_in (List.mem_of_getElem? (i := 1640) (by decide +kernel)) (by decide +kernel), x_tb_in (List.mem_of_getElem? (i := 69) (by decide +kernel)) (by decide +kernel), rfl⟩
set_option maxRecDepth 100000 in
theorem cok_mX12_happens : x_cok mX12_happens 0 := ⟨ini_X12, x_tb_in (List.mem_of_getElem? (i := 1818) rfl) rfl, ⟨by decide, by decide, by decide +kernel⟩, by decide⟩
theorem vok_mX12_happens : x_vok mX12_happens 0 := ⟨cok_mX12_happens, x_tb_in (List.mem_of_getElem? (i := 1817) (by decide +kernel)) (by decide +kernel), x_tb_in (List.mem_of_getElem? (i := 101) (by decide +kernel)) (by decide +kernel), rfl⟩
set_option maxRecDepth 100000 in
theorem cok_mX12_hard : x_cok mX12_hard 3 := ⟨ini_X12, x_tb_in (List.mem_of_getElem? (i := 1861) rfl) rfl, ⟨by decide, by decide, by decide +kernel⟩, by decide⟩
theorem vok_mX12_hard : x_vok mX12_hard 3 := ⟨cok_mX12_hard, x_tb_in (List.mem_of_getElem? (i := 1859) (by decide +kernel)) (by decide +kernel), x_tb_in (List.mem_of_getElem? (i := 1860) (by decide +kernel)) (by decide +kernel), rfl⟩
set_option maxRecDepth 100000 in
theorem cok_mX12_hardOf : x_cok mX12_hardOf 3 := ⟨ini_X12, x_tb_in (List.mem_of_getElem? (i := 1727) rfl) rfl, ⟨by decide, by decide, by decide +kernel⟩, by decide⟩
theorem vok_mX12_hardOf : x_vok mX12_hardOf 3 := ⟨cok_mX12_hardOf, x_tb_in (List.mem_of_getElem? (i := 1726) (by decide +kernel)) (by decide +kernel), x_tb_in (List.mem_of_getElem? (i := 86) (by decide +kernel)) (by decide +kernel), rfl⟩
set_option maxRecDepth 100000 in
theorem cok_mX12_has : x_cok mX12_has 2 := ⟨ini_X12, x_tb_in (List.mem_of_getElem? (i := 1921) rfl) rfl, ⟨by decide, by decide, by decide +kernel⟩, by decide⟩
theorem stt_mX12_has : Cond.static mX12_has.1 ∈ x_tb := x_tb_in (List.mem_of_getElem? (i := 1920) (by decide +kernel)) (by decide +kernel)
set_option maxRecDepth 100000 in
theorem cok_mX12_held : x_cok mX12_held 3 := ⟨ini_X12, x_tb_in (List.mem_of_getElem? (i := 1756) rfl) rfl, ⟨by decide, by decide, by decide +kernel⟩, by decide⟩
theorem stt_mX12_held : Cond.static mX12_held.1 ∈ x_tb := x_tb_in (List.mem_of_getElem? (i := 1755) (by decide +kernel)) (by decide +kernel)
set_option maxRecDepth 100000 in
theorem cok_mX12_hourAt : x_cok mX12_hourAt 2 := ⟨ini_X12, x_tb_in (List.mem_of_getElem? (i := 1800) rfl) rfl, ⟨by decide, by decide, by decide +kernel⟩, by decide⟩
theorem vok_mX12_hourAt : x_vok mX12_hourAt 2 := ⟨cok_mX12_hourAt, x_tb_in (List.mem_of_getElem? (i := 1799) (by decide +kernel)) (by decide +kernel), x_tb_in (List.mem_of_getElem? (i := 99) (by decide +kernel)) (by decide +kernel), rfl⟩
set_option maxRecDepth 100000 in
theorem cok_mX12_hourBy : x_cok mX12_hourBy 3 := ⟨ini_X12, x_tb_in (List.mem_of_getElem? (i := 1803) rfl) rfl, ⟨by decide, by decide, by decide +kernel⟩, by decide⟩
theorem stt_mX12_hourBy : Cond.static mX12_hourBy.1 ∈ x_tb := x_tb_in (List.mem_of_getElem? (i := 1802) (by decide +kernel)) (by decide +kernel)
set_option maxRecDepth 100000 in
theorem cok_mX12_house : x_cok mX12_house 1 := ⟨ini_X12, x_tb_in (List.mem_of_getElem? (i := 1507) rfl) rfl, ⟨by decide, by decide, by decide +kernel⟩, by decide⟩
theorem vok_mX12_house : x_vok mX12_house 1 := ⟨cok_mX12_house, x_tb_in (List.mem_of_getElem? (i := 1505) (by decide +kernel)) (by decide +kernel), x_tb_in (List.mem_of_getElem? (i := 1506) (by decide +kernel)) (by decide +kernel), rfl⟩
set_option maxRecDepth 100000 in
theorem cok_mX12_image : x_cok mX12_image 0 := ⟨ini_X12, x_tb_in (List.mem_of_getElem? (i := 1969) rfl) rfl, ⟨by decide, by decide, by decide +kernel⟩, by decide⟩
theorem vok_mX12_image : x_vok mX12_image 0 := ⟨cok_mX12_image, x_tb_in (List.mem_of_getElem? (i := 1967) (by decide +kernel)) (by decide +kernel), x_tb_in (List.mem_of_getElem? (i := 1968) (by decide +kernel)) (by decide +kernel), rfl⟩
set_option maxRecDepth 100000 in
theorem cok_mX12_in : x_cok mX12_in 3 := ⟨ini_X12, x_tb_in (List.mem_of_getElem? (i := 1510) rfl) rfl, ⟨by decide, by decide, by decide +kernel⟩, by decide⟩
theorem stt_mX12_in : Cond.static mX12_in.1 ∈ x_tb := x_tb_in (List.mem_of_getElem? (i := 1509) (by decide +kernel)) (by decide +kernel)
set_option maxRecDepth 100000 in
theorem cok_mX12_isAhead : x_cok mX12_isAhead 2 := ⟨ini_X12, x_tb_in (List.mem_of_getElem? (i := 1933) rfl) rfl, ⟨by decide, by decide, by decide +kernel⟩, by decide⟩
theorem vok_mX12_isAhead : x_vok mX12_isAhead 2 := ⟨cok_mX12_isAhead, x_tb_in (List.mem_of_getElem? (i := 1932) (by decide +kernel)) (by decide +kernel), x_tb_in (List.mem_of_getElem? (i := 111) (by decide +kernel)) (by decide +kernel), rfl⟩
set_option maxRecDepth 100000 in
theorem cok_mX12_isAsking : x_cok mX12_isAsking 1 := ⟨ini_X12, x_tb_in (List.mem_of_getElem? (i := 1659) rfl) rfl, ⟨by decide, by decide, by decide +kernel⟩, by decide⟩
theorem stt_mX12_isAsking : Cond.static mX12_isAsking.1 ∈ x_tb := x_tb_in (List.mem_of_getElem? (i := 1658) (by decide +kernel)) (by decide +kernel)
set_option maxRecDepth 100000 in
theorem cok_mX12_isHouse : x_cok mX12_isHouse 1 := ⟨ini_X12, x_tb_in (List.mem_of_getElem? (i := 1518) rfl) rfl, ⟨by decide, by decide, by decide +kernel⟩, by decide⟩
theorem vok_mX12_isHouse : x_vok mX12_isHouse 1 := ⟨cok_mX12_isHouse, x_tb_in (List.mem_of_getElem? (i := 1517) (by decide +kernel)) (by decide +kernel), x_tb_in (List.mem_of_getElem? (i := 54) (by decide +kernel)) (by decide +kernel), rfl⟩
set_option maxRecDepth 100000 in
theorem cok_mX12_isLetter : x_cok mX12_isLetter 1 := ⟨ini_X12, x_tb_in (List.mem_of_getElem? (i := 1549) rfl) rfl, ⟨by decide, by decide, by decide +kernel⟩, by decide⟩
theorem stt_mX12_isLetter : Cond.static mX12_isLetter.1 ∈ x_tb := x_tb_in (List.mem_of_getElem? (i := 1548) (by decide +kernel)) (by decide +kernel)
set_option maxRecDepth 100000 in
theorem cok_mX12_isSign : x_cok mX12_isSign 1 := ⟨ini_X12, x_tb_in (List.mem_of_getElem? (i := 1637) rfl) rfl, ⟨by decide, by decide, by decide +kernel⟩, by decide⟩
theorem vok_mX12_isSign : x_vok mX12_isSign 1 := ⟨cok_mX12_isSign, x_tb_in (List.mem_of_getElem? (i := 1636) (by decide +kernel)) (by decide +kernel), x_tb_in (List.mem_of_getElem? (i := 68) (by decide +kernel)) (by decide +kernel), rfl⟩
set_option maxRecDepth 100000 in
theorem cok_mX12_isWanted : x_cok mX12_isWanted 2 := ⟨ini_X12, x_tb_in (List.mem_of_getElem? (i := 1885) rfl) rfl, ⟨by decide, by decide, by decide +kernel⟩, by decide⟩
theorem vok_mX12_isWanted : x_vok mX12_isWanted 2 := ⟨cok_mX12_isWanted, x_tb_in (List.mem_of_getElem? (i := 1884) (by decide +kernel)) (by decide +kernel), x_tb_in (List.mem_of_getElem? (i := 106) (by decide +kernel)) (by decide +kernel), rfl⟩
set_option maxRecDepth 100000 in
theorem cok_mX12_isWord : x_cok mX12_isWord 1 := ⟨ini_X12, x_tb_in (List.mem_of_getElem? (i := 1594) rfl) rfl, ⟨by decide, by decide, by decide +kernel⟩, by decide⟩
theorem vok_mX12_isWord : x_vok mX12_isWord 1 := ⟨cok_mX12_isWord, x_tb_in (List.mem_of_getElem? (i := 1593) (by decide +kernel)) (by decide +kernel), x_tb_in (List.mem_of_getElem? (i := 58) (by decide +kernel)) (by decide +kernel), rfl⟩
set_option maxRecDepth 100000 in
theorem cok_mX12_keepsNow : x_cok mX12_keepsNow 0 := ⟨ini_X12, x_tb_in (List.mem_of_getElem? (i := 1760) rfl) rfl, ⟨by decide, by decide, by decide +kernel⟩, by decide⟩
theorem vok_mX12_keepsNow : x_vok mX12_keepsNow 0 := ⟨cok_mX12_keepsNow, x_tb_in (List.mem_of_getElem? (i := 1759) (by decide +kernel)) (by decide +kernel), x_tb_in (List.mem_of_getElem? (i := 92) (by decide +kernel)) (by decide +kernel), rfl⟩
set_option maxRecDepth 100000 in
theorem cok_mX12_keepsStep : x_cok mX12_keepsStep 0 := ⟨ini_X12, x_tb_in (List.mem_of_getElem? (i := 1719) rfl) rfl, ⟨by decide, by decide, by decide +kernel⟩, by decide⟩
theorem vok_mX12_keepsStep : x_vok mX12_keepsStep 0 := ⟨cok_mX12_keepsStep, x_tb_in (List.mem_of_getElem? (i := 1718) (by decide +kernel)) (by decide +kernel), x_tb_in (List.mem_of_getElem? (i := 84) (by decide +kernel)) (by decide +kernel), rfl⟩
set_option maxRecDepth 100000 in
theorem cok_mX12_lane : x_cok mX12_lane 3 := ⟨ini_X12, x_tb_in (List.mem_of_getElem? (i := 1514) rfl) rfl, ⟨by decide, by decide, by decide +kernel⟩, by decide⟩
theorem vok_mX12_lane : x_vok mX12_lane 3 := ⟨cok_mX12_lane, x_tb_in (List.mem_of_getElem? (i := 1512) (by decide +kernel)) (by decide +kernel), x_tb_in (List.mem_of_getElem? (i := 1513) (by decide +kernel)) (by decide +kernel), rfl⟩
set_option maxRecDepth 100000 in
theorem cok_mX12_laysFar : x_cok mX12_laysFar 0 := ⟨ini_X12, x_tb_in (List.mem_of_getElem? (i := 1711) rfl) rfl, ⟨by decide, by decide, by decide +kernel⟩, by decide⟩
theorem vok_mX12_laysFar : x_vok mX12_laysFar 0 := ⟨cok_mX12_laysFar, x_tb_in (List.mem_of_getElem? (i := 1710) (by decide +kernel)) (by decide +kernel), x_tb_in (List.mem_of_getElem? (i := 82) (by decide +kernel)) (by decide +kernel), rfl⟩
set_option maxRecDepth 100000 in
theorem cok_mX12_laysNow : x_cok mX12_laysNow 0 := ⟨ini_X12, x_tb_in (List.mem_of_getElem? (i := 1707) rfl) rfl, ⟨by decide, by decide, by decide +kernel⟩, by decide⟩
theorem vok_mX12_laysNow : x_vok mX12_laysNow 0 := ⟨cok_mX12_laysNow, x_tb_in (List.mem_of_getElem? (i := 1706) (by decide +kernel)) (by decide +kernel), x_tb_in (List.mem_of_getElem? (i := 81) (by decide +kernel)) (by decide +kernel), rfl⟩
set_option maxRecDepth 100000 in
theorem cok_mX12_laysPushing : x_cok mX12_laysPushing 2 := ⟨ini_X12, x_tb_in (List.mem_of_getElem? (i := 1905) rfl) rfl, ⟨by decide, by decide, by decide +kernel⟩, by decide⟩
theorem vok_mX12_laysPushing : x_vok mX12_laysPushing 2 := ⟨cok_mX12_laysPushing, x_tb_in (List.mem_of_getElem? (i := 1904) (by decide +kernel)) (by decide +kernel), x_tb_in (List.mem_of_getElem? (i := 109) (by decide +kernel)) (by decide +kernel), rfl⟩
set_option maxRecDepth 100000 in
theorem cok_mX12_laysYet : x_cok mX12_laysYet 0 := ⟨ini_X12, x_tb_in (List.mem_of_getElem? (i := 1893) rfl) rfl, ⟨by decide, by decide, by decide +kernel⟩, by decide⟩
theorem vok_mX12_laysYet : x_vok mX12_laysYet 0 := ⟨cok_mX12_laysYet, x_tb_in (List.mem_of_getElem? (i := 1892) (by decide +kernel)) (by decide +kernel), x_tb_in (List.mem_of_getElem? (i := 107) (by decide +kernel)) (by decide +kernel), rfl⟩
set_option maxRecDepth 100000 in
theorem cok_mX12_least : x_cok mX12_least 3 := ⟨ini_X12, x_tb_in (List.mem_of_getElem? (i := 1901) rfl) rfl, ⟨by decide, by decide, by decide +kernel⟩, by decide⟩
theorem vok_mX12_least : x_vok mX12_least 3 := ⟨cok_mX12_least, x_tb_in (List.mem_of_getElem? (i := 1899) (by decide +kernel)) (by decide +kernel), x_tb_in (List.mem_of_getElem? (i := 1900) (by decide +kernel)) (by decide +kernel), rfl⟩
set_option maxRecDepth 100000 in
theorem cok_mX12_lies : x_cok mX12_lies 1 := ⟨ini_X12, x_tb_in (List.mem_of_getElem? (i := 1772) rfl) rfl, ⟨by decide, by decide, by decide +kernel⟩, by decide⟩
theorem vok_mX12_lies : x_vok mX12_lies 1 := ⟨cok_mX12_lies, x_tb_in (List.mem_of_getElem? (i := 1771) (by decide +kernel)) (by decide +kernel), x_tb_in (List.mem_of_getElem? (i := 94) (by decide +kernel)) (by decide +kernel), rfl⟩
set_option maxRecDepth 100000 in
theorem cok_mX12_lost : x_cok mX12_lost 0 := ⟨ini_X12, x_tb_in (List.mem_of_getElem? (i := 1941) rfl) rfl, ⟨by decide, by decide, by decide +kernel⟩, by decide⟩
theorem vok_mX12_lost : x_vok mX12_lost 0 := ⟨cok_mX12_lost, x_tb_in (List.mem_of_getElem? (i := 1939) (by decide +kernel)) (by decide +kernel), x_tb_in (List.mem_of_getElem? (i := 1940) (by decide +kernel)) (by decide +kernel), rfl⟩
set_option maxRecDepth 100000 in
theorem cok_mX12_many : x_cok mX12_many 1 := ⟨ini_X12, x_tb_in (List.mem_of_getElem? (i := 1961) rfl) rfl, ⟨by decide, by decide, by decide +kernel⟩, by decide⟩
theorem stt_mX12_many : Cond.static mX12_many.1 ∈ x_tb := x_tb_in (List.mem_of_getElem? (i := 1960) (by decide +kernel)) (by decide +kernel)
set_option maxRecDepth 100000 in
theorem cok_mX12_mayName : x_cok mX12_mayName 2 := ⟨ini_X12, x_tb_in (List.mem_of_getElem? (i := 1633) rfl) rfl, ⟨by decide, by decide, by decide +kernel⟩, by decide⟩
theorem stt_mX12_mayName : Cond.static mX12_mayName.1 ∈ x_tb := x_tb_in (List.mem_of_getElem? (i := 1632) (by decide +kernel)) (by decide +kernel)
set_option maxRecDepth 100000 in
theorem cok_mX12_mend : x_cok mX12_mend 0 := ⟨ini_X12, x_tb_in (List.mem_of_getElem? (i := 1776) rfl) rfl, ⟨by decide, by decide, by decide +kernel⟩, by decide⟩
theorem vok_mX12_mend : x_vok mX12_mend 0 := ⟨cok_mX12_mend, x_tb_in (List.mem_of_getElem? (i := 1774) (by decide +kernel)) (by decide +kernel), x_tb_in (List.mem_of_getElem? (i := 1775) (by decide +kernel)) (by decide +kernel), rfl⟩
set_option maxRecDepth 100000 in
theorem cok_mX12_minute : x_cok mX12_minute 1 := ⟨ini_X12, x_tb_in (List.mem_of_getElem? (i := 1780) rfl) rfl, ⟨by decide, by decide, by decide +kernel⟩, by decide⟩
theorem vok_mX12_minute : x_vok mX12_minute 1 := ⟨cok_mX12_minute, x_tb_in (List.mem_of_getElem? (i := 1778) (by decide +kernel)) (by decide +kernel), x_tb_in (List.mem_of_getElem? (i := 1779) (by decide +kernel)) (by decide +kernel), rfl⟩
set_option maxRecDepth 100000 in
theorem cok_mX12_minutePasses : x_cok mX12_minutePasses 0 := ⟨ini_X12, x_tb_in (List.mem_of_getElem? (i := 1784) rfl) rfl, ⟨by decide, by decide, by decide +kernel⟩, by decide⟩
theorem vok_mX12_minutePasses : x_vok mX12_minutePasses 0 := ⟨cok_mX12_minutePasses, x_tb_in (List.mem_of_getElem? (i := 1783) (by decide +kernel)) (by decide +kernel), x_tb_in (List.mem_of_getElem? (i := 95) (by decide +kernel)) (by decide +kernel), rfl⟩
set_option maxRecDepth 100000 in
theorem cok_mX12_minutes : x_cok mX12_minutes 1 := ⟨ini_X12, x_tb_in (List.mem_of_getElem? (i := 1840) rfl) rfl, ⟨by decide, by decide, by decide +kernel⟩, by decide⟩
theorem vok_mX12_minutes : x_vok mX12_minutes 1 := ⟨cok_mX12_minutes, x_tb_in (List.mem_of_getElem? (i := 1839) (by decide +kernel)) (by decide +kernel), x_tb_in (List.mem_of_getElem? (i := 104) (by decide +kernel)) (by decide +kernel), rfl⟩
set_option maxRecDepth 100000 in
theorem cok_mX12_nameNow : x_cok mX12_nameNow 0 := ⟨ini_X12, x_tb_in (List.mem_of_getElem? (i := 1614) rfl) rfl, ⟨by decide, by decide, by decide +kernel⟩, by decide⟩
theorem vok_mX12_nameNow : x_vok mX12_nameNow 0 := ⟨cok_mX12_nameNow, x_tb_in (List.mem_of_getElem? (i := 1613) (by decide +kernel)) (by decide +kernel), x_tb_in (List.mem_of_getElem? (i := 63) (by decide +kernel)) (by decide +kernel), rfl⟩
set_option maxRecDepth 100000 in
theorem cok_mX12_names : x_cok mX12_names 1 := ⟨ini_X12, x_tb_in (List.mem_of_getElem? (i := 1735) rfl) rfl, ⟨by decide, by decide, by decide +kernel⟩, by decide⟩
theorem vok_mX12_names : x_vok mX12_names 1 := ⟨cok_mX12_names, x_tb_in (List.mem_of_getElem? (i := 1734) (by decide +kernel)) (by decide +kernel), x_tb_in (List.mem_of_getElem? (i := 88) (by decide +kernel)) (by decide +kernel), rfl⟩
set_option maxRecDepth 100000 in
theorem cok_mX12_next : x_cok mX12_next 0 := ⟨ini_X12, x_tb_in (List.mem_of_getElem? (i := 1546) rfl) rfl, ⟨by decide, by decide, by decide +kernel⟩, by decide⟩
theorem vok_mX12_next : x_vok mX12_next 0 := ⟨cok_mX12_next, x_tb_in (List.mem_of_getElem? (i := 1545) (by decide +kernel)) (by decide +kernel), x_tb_in (List.mem_of_getElem? (i := 56) (by decide +kernel)) (by decide +kernel), rfl⟩
set_option maxRecDepth 100000 in
theorem cok_mX12_number : x_cok mX12_number 2 := ⟨ini_X12, x_tb_in (List.mem_of_getElem? (i := 1687) rfl) rfl, ⟨by decide, by decide, by decide +kernel⟩, by decide⟩
theorem vok_mX12_number : x_vok mX12_number 2 := ⟨cok_mX12_number, x_tb_in (List.mem_of_getElem? (i := 1686) (by decide +kernel)) (by decide +kernel), x_tb_in (List.mem_of_getElem? (i := 79) (by decide +kernel)) (by decide +kernel), rfl⟩
set_option maxRecDepth 100000 in
theorem cok_mX12_numberBehind : x_cok mX12_numberBehind 3 := ⟨ini_X12, x_tb_in (List.mem_of_getElem? (i := 1691) rfl) rfl, ⟨by decide, by decide, by decide +kernel⟩, by decide⟩
theorem vok_mX12_numberBehind : x_vok mX12_numberBehind 3 := ⟨cok_mX12_numberBehind, x_tb_in (List.mem_of_getElem? (i := 1690) (by decide +kernel)) (by decide +kernel), x_tb_in (List.mem_of_getElem? (i := 80) (by decide +kernel)) (by decide +kernel), rfl⟩
set_option maxRecDepth 100000 in
theorem cok_mX12_of : x_cok mX12_of 2 := ⟨ini_X12, x_tb_in (List.mem_of_getElem? (i := 1845) rfl) rfl, ⟨by decide, by decide, by decide +kernel⟩, by decide⟩
theorem vok_mX12_of : x_vok mX12_of 2 := ⟨cok_mX12_of, x_tb_in (List.mem_of_getElem? (i := 1843) (by decide +kernel)) (by decide +kernel), x_tb_in (List.mem_of_getElem? (i := 1844) (by decide +kernel)) (by decide +kernel), rfl⟩
set_option maxRecDepth 100000 in
theorem cok_mX12_oneIsOver : x_cok mX12_oneIsOver 0 := ⟨ini_X12, x_tb_in (List.mem_of_getElem? (i := 1622) rfl) rfl, ⟨by decide, by decide, by decide +kernel⟩, by decide⟩
theorem vok_mX12_oneIsOver : x_vok mX12_oneIsOver 0 := ⟨cok_mX12_oneIsOver, x_tb_in (List.mem_of_getElem? (i := 1621) (by decide +kernel)) (by decide +kernel), x_tb_in (List.mem_of_getElem? (i := 65) (by decide +kernel)) (by decide +kernel), rfl⟩
set_option maxRecDepth 100000 in
theorem cok_mX12_opensFrame : x_cok mX12_opensFrame 1 := ⟨ini_X12, x_tb_in (List.mem_of_getElem? (i := 1606) rfl) rfl, ⟨by decide, by decide, by decide +kernel⟩, by decide⟩
theorem vok_mX12_opensFrame : x_vok mX12_opensFrame 1 := ⟨cok_mX12_opensFrame, x_tb_in (List.mem_of_getElem? (i := 1605) (by decide +kernel)) (by decide +kernel), x_tb_in (List.mem_of_getElem? (i := 61) (by decide +kernel)) (by decide +kernel), rfl⟩
set_option maxRecDepth 100000 in
theorem cok_mX12_opensSign : x_cok mX12_opensSign 1 := ⟨ini_X12, x_tb_in (List.mem_of_getElem? (i := 1598) rfl) rfl, ⟨by decide, by decide, by decide +kernel⟩, by decide⟩
theorem vok_mX12_opensSign : x_vok mX12_opensSign 1 := ⟨cok_mX12_opensSign, x_tb_in (List.mem_of_getElem? (i := 1597) (by decide +kernel)) (by decide +kernel), x_tb_in (List.mem_of_getElem? (i := 59) (by decide +kernel)) (by decide +kernel), rfl⟩
set_option maxRecDepth 100000 in
theorem cok_mX12_ordersOf : x_cok mX12_ordersOf 1 := ⟨ini_X12, x_tb_in (List.mem_of_getElem? (i := 1731) rfl) rfl, ⟨by decide, by decide, by decide +kernel⟩, by decide⟩
theorem vok_mX12_ordersOf : x_vok mX12_ordersOf 1 := ⟨cok_mX12_ordersOf, x_tb_in (List.mem_of_getElem? (i := 1730) (by decide +kernel)) (by decide +kernel), x_tb_in (List.mem_of_getElem? (i := 87) (by decide +kernel)) (by decide +kernel), rfl⟩
set_option maxRecDepth 100000 in
theorem cok_mX12_played : x_cok mX12_played 1 := ⟨ini_X12, x_tb_in (List.mem_of_getElem? (i := 1830) rfl) rfl, ⟨by decide, by decide, by decide +kernel⟩, by decide⟩
theorem vok_mX12_played : x_vok mX12_played 1 := ⟨cok_mX12_played, x_tb_in (List.mem_of_getElem? (i := 1828) (by decide +kernel)) (by decide +kernel), x_tb_in (List.mem_of_getElem? (i := 1829) (by decide +kernel)) (by decide +kernel), rfl⟩
set_option maxRecDepth 100000 in
theorem cok_mX12_push : x_cok mX12_push 2 := ⟨ini_X12, x_tb_in (List.mem_of_getElem? (i := 1703) rfl) rfl, ⟨by decide, by decide, by decide +kernel⟩, by decide⟩
theorem vok_mX12_push : x_vok mX12_push 2 := ⟨cok_mX12_push, x_tb_in (List.mem_of_getElem? (i := 1701) (by decide +kernel)) (by decide +kernel), x_tb_in (List.mem_of_getElem? (i := 1702) (by decide +kernel)) (by decide +kernel), rfl⟩
set_option maxRecDepth 100000 in
theorem cok_mX12_pusher : x_cok mX12_pusher 1 := ⟨ini_X12, x_tb_in (List.mem_of_getElem? (i := 1522) rfl) rfl, ⟨by decide, by decide, by decide +kernel⟩, by decide⟩
theorem vok_mX12_pusher : x_vok mX12_pusher 1 := ⟨cok_mX12_pusher, x_tb_in (List.mem_of_getElem? (i := 1520) (by decide +kernel)) (by decide +kernel), x_tb_in (List.mem_of_getElem? (i := 1521) (by decide +kernel)) (by decide +kernel), rfl⟩
set_option maxRecDepth 100000 in
theorem cok_mX12_pushes : x_cok mX12_pushes 2 := ⟨ini_X12, x_tb_in (List.mem_of_getElem? (i := 1723) rfl) rfl, ⟨by decide, by decide, by decide +kernel⟩, by decide⟩
theorem vok_mX12_pushes : x_vok mX12_pushes 2 := ⟨cok_mX12_pushes, x_tb_in (List.mem_of_getElem? (i := 1722) (by decide +kernel)) (by decide +kernel), x_tb_in (List.mem_of_getElem? (i := 85) (by decide +kernel)) (by decide +kernel), rfl⟩
set_option maxRecDepth 100000 in
theorem cok_mX12_put : x_cok mX12_put 1 := ⟨ini_X12, x_tb_in (List.mem_of_getElem? (i := 1534) rfl) rfl, ⟨by decide, by decide, by decide +kernel⟩, by decide⟩
theorem vok_mX12_put : x_vok mX12_put 1 := ⟨cok_mX12_put, x_tb_in (List.mem_of_getElem? (i := 1533) (by decide +kernel)) (by decide +kernel), x_tb_in (List.mem_of_getElem? (i := 55) (by decide +kernel)) (by decide +kernel), rfl⟩
set_option maxRecDepth 100000 in
theorem cok_mX12_rank : x_cok mX12_rank 1 := ⟨ini_X12, x_tb_in (List.mem_of_getElem? (i := 1648) rfl) rfl, ⟨by decide, by decide, by decide +kernel⟩, by decide⟩
theorem stt_mX12_rank : Cond.static mX12_rank.1 ∈ x_tb := x_tb_in (List.mem_of_getElem? (i := 1647) (by decide +kernel)) (by decide +kernel)
set_option maxRecDepth 100000 in
theorem cok_mX12_rolls : x_cok mX12_rolls 0 := ⟨ini_X12, x_tb_in (List.mem_of_getElem? (i := 1788) rfl) rfl, ⟨by decide, by decide, by decide +kernel⟩, by decide⟩
theorem vok_mX12_rolls : x_vok mX12_rolls 0 := ⟨cok_mX12_rolls, x_tb_in (List.mem_of_getElem? (i := 1787) (by decide +kernel)) (by decide +kernel), x_tb_in (List.mem_of_getElem? (i := 96) (by decide +kernel)) (by decide +kernel), rfl⟩
set_option maxRecDepth 100000 in
theorem cok_mX12_route : x_cok mX12_route 1 := ⟨ini_X12, x_tb_in (List.mem_of_getElem? (i := 1889) rfl) rfl, ⟨by decide, by decide, by decide +kernel⟩, by decide⟩
theorem vok_mX12_route : x_vok mX12_route 1 := ⟨cok_mX12_route, x_tb_in (List.mem_of_getElem? (i := 1887) (by decide +kernel)) (by decide +kernel), x_tb_in (List.mem_of_getElem? (i := 1888) (by decide +kernel)) (by decide +kernel), rfl⟩
set_option maxRecDepth 100000 in
theorem cok_mX12_saysOf : x_cok mX12_saysOf 1 := ⟨ini_X12, x_tb_in (List.mem_of_getElem? (i := 1739) rfl) rfl, ⟨by decide, by decide, by decide +kernel⟩, by decide⟩
theorem vok_mX12_saysOf : x_vok mX12_saysOf 1 := ⟨cok_mX12_saysOf, x_tb_in (List.mem_of_getElem? (i := 1738) (by decide +kernel)) (by decide +kernel), x_tb_in (List.mem_of_getElem? (i := 89) (by decide +kernel)) (by decide +kernel), rfl⟩
set_option maxRecDepth 100000 in
theorem cok_mX12_text : x_cok mX12_text 0 := ⟨ini_X12, x_tb_in (List.mem_of_getElem? (i := 1542) rfl) rfl, ⟨by decide, by decide, by decide +kernel⟩, by decide⟩
theorem vok_mX12_text : x_vok mX12_text 0 := ⟨cok_mX12_text, x_tb_in (List.mem_of_getElem? (i := 1540) (by decide +kernel)) (by decide +kernel), x_tb_in (List.mem_of_getElem? (i := 1541) (by decide +kernel)) (by decide +kernel), rfl⟩
set_option maxRecDepth 100000 in
theorem cok_mX12_thieves : x_cok mX12_thieves 0 := ⟨ini_X12, x_tb_in (List.mem_of_getElem? (i := 1954) rfl) rfl, ⟨by decide, by decide, by decide +kernel⟩, by decide⟩
theorem vok_mX12_thieves : x_vok mX12_thieves 0 := ⟨cok_mX12_thieves, x_tb_in (List.mem_of_getElem? (i := 1952) (by decide +kernel)) (by decide +kernel), x_tb_in (List.mem_of_getElem? (i := 1953) (by decide +kernel)) (by decide +kernel), rfl⟩
set_option maxRecDepth 100000 in
theorem cok_mX12_tip : x_cok mX12_tip 0 := ⟨ini_X12, x_tb_in (List.mem_of_getElem? (i := 1764) rfl) rfl, ⟨by decide, by decide, by decide +kernel⟩, by decide⟩
theorem vok_mX12_tip : x_vok mX12_tip 0 := ⟨cok_mX12_tip, x_tb_in (List.mem_of_getElem? (i := 1762) (by decide +kernel)) (by decide +kernel), x_tb_in (List.mem_of_getElem? (i := 1763) (by decide +kernel)) (by decide +kernel), rfl⟩
set_option maxRecDepth 100000 in
theorem cok_mX12_tips : x_cok mX12_tips 0 := ⟨ini_X12, x_tb_in (List.mem_of_getElem? (i := 1768) rfl) rfl, ⟨by decide, by decide, by decide +kernel⟩, by decide⟩
theorem vok_mX12_tips : x_vok mX12_tips 0 := ⟨cok_mX12_tips, x_tb_in (List.mem_of_getElem? (i := 1767) (by decide +kernel)) (by decide +kernel), x_tb_in (List.mem_of_getElem? (i := 93) (by decide +kernel)) (by decide +kernel), rfl⟩
set_option maxRecDepth 100000 in
theorem cok_mX12_top : x_cok mX12_top 0 := ⟨ini_X12, x_tb_in (List.mem_of_getElem? (i := 1626) rfl) rfl, ⟨by decide, by decide, by decide +kernel⟩, by decide⟩
theorem vok_mX12_top : x_vok mX12_top 0 := ⟨cok_mX12_top, x_tb_in (List.mem_of_getElem? (i := 1625) (by decide +kernel)) (by decide +kernel), x_tb_in (List.mem_of_getElem? (i := 66) (by decide +kernel)) (by decide +kernel), rfl⟩
set_option maxRecDepth 100000 in
theorem cok_mX12_turnsTo : x_cok mX12_turnsTo 2 := ⟨ini_X12, x_tb_in (List.mem_of_getElem? (i := 1656) rfl) rfl, ⟨by decide, by decide, by decide +kernel⟩, by decide⟩
theorem vok_mX12_turnsTo : x_vok mX12_turnsTo 2 := ⟨cok_mX12_turnsTo, x_tb_in (List.mem_of_getElem? (i := 1655) (by decide +kernel)) (by decide +kernel), x_tb_in (List.mem_of_getElem? (i := 72) (by decide +kernel)) (by decide +kernel), rfl⟩
set_option maxRecDepth 100000 in
theorem cok_mX12_two : x_cok mX12_two 3 := ⟨ini_X12, x_tb_in (List.mem_of_getElem? (i := 1849) rfl) rfl, ⟨by decide, by decide, by decide +kernel⟩, by decide⟩
theorem vok_mX12_two : x_vok mX12_two 3 := ⟨cok_mX12_two, x_tb_in (List.mem_of_getElem? (i := 1847) (by decide +kernel)) (by decide +kernel), x_tb_in (List.mem_of_getElem? (i := 1848) (by decide +kernel)) (by decide +kernel), rfl⟩
set_option maxRecDepth 100000 in
theorem cok_mX12_undo : x_cok mX12_undo 0 := ⟨ini_X12, x_tb_in (List.mem_of_getElem? (i := 1526) rfl) rfl, ⟨by decide, by decide, by decide +kernel⟩, by decide⟩
theorem vok_mX12_undo : x_vok mX12_undo 0 := ⟨cok_mX12_undo, x_tb_in (List.mem_of_getElem? (i := 1524) (by decide +kernel)) (by decide +kernel), x_tb_in (List.mem_of_getElem? (i := 1525) (by decide +kernel)) (by decide +kernel), rfl⟩
set_option maxRecDepth 100000 in
theorem cok_mX12_waitsFor : x_cok mX12_waitsFor 1 := ⟨ini_X12, x_tb_in (List.mem_of_getElem? (i := 1645) rfl) rfl, ⟨by decide, by decide, by decide +kernel⟩, by decide⟩
theorem vok_mX12_waitsFor : x_vok mX12_waitsFor 1 := ⟨cok_mX12_waitsFor, x_tb_in (List.mem_of_getElem? (i := 1644) (by decide +kernel)) (by decide +kernel), x_tb_in (List.mem_of_getElem? (i := 70) (by decide +kernel)) (by decide +kernel), rfl⟩
set_option maxRecDepth 100000 in
theorem cok_mX12_want : x_cok mX12_want 2 := ⟨ini_X12, x_tb_in (List.mem_of_getElem? (i := 1877) rfl) rfl, ⟨by decide, by decide, by decide +kernel⟩, by decide⟩
theorem vok_mX12_want : x_vok mX12_want 2 := ⟨cok_mX12_want, x_tb_in (List.mem_of_getElem? (i := 1875) (by decide +kernel)) (by decide +kernel), x_tb_in (List.mem_of_getElem? (i := 1876) (by decide +kernel)) (by decide +kernel), rfl⟩
set_option maxRecDepth 100000 in
theorem cok_mX12_warmOf : x_cok mX12_warmOf 2 := ⟨ini_X12, x_tb_in (List.mem_of_getElem? (i := 1853) rfl) rfl, ⟨by decide, by decide, by decide +kernel⟩, by decide⟩
theorem vok_mX12_warmOf : x_vok mX12_warmOf 2 := ⟨cok_mX12_warmOf, x_tb_in (List.mem_of_getElem? (i := 1852) (by decide +kernel)) (by decide +kernel), x_tb_in (List.mem_of_getElem? (i := 105) (by decide +kernel)) (by decide +kernel), rfl⟩
set_option maxRecDepth 100000 in
theorem cok_mX12_wasTold : x_cok mX12_wasTold 1 := ⟨ini_X12, x_tb_in (List.mem_of_getElem? (i := 1679) rfl) rfl, ⟨by decide, by decide, by decide +kernel⟩, by decide⟩
theorem vok_mX12_wasTold : x_vok mX12_wasTold 1 := ⟨cok_mX12_wasTold, x_tb_in (List.mem_of_getElem? (i := 1678) (by decide +kernel)) (by decide +kernel), x_tb_in (List.mem_of_getElem? (i := 77) (by decide +kernel)) (by decide +kernel), rfl⟩
set_option maxRecDepth 100000 in
theorem cok_mX12_watch : x_cok mX12_watch 2 := ⟨ini_X12, x_tb_in (List.mem_of_getElem? (i := 1958) rfl) rfl, ⟨by decide, by decide, by decide +kernel⟩, by decide⟩
theorem vok_mX12_watch : x_vok mX12_watch 2 := ⟨cok_mX12_watch, x_tb_in (List.mem_of_getElem? (i := 1956) (by decide +kernel)) (by decide +kernel), x_tb_in (List.mem_of_getElem? (i := 1957) (by decide +kernel)) (by decide +kernel), rfl⟩
set_option maxRecDepth 100000 in
theorem cok_mX12_watchedBy : x_cok mX12_watchedBy 2 := ⟨ini_X12, x_tb_in (List.mem_of_getElem? (i := 1965) rfl) rfl, ⟨by decide, by decide, by decide +kernel⟩, by decide⟩
theorem vok_mX12_watchedBy : x_vok mX12_watchedBy 2 := ⟨cok_mX12_watchedBy, x_tb_in (List.mem_of_getElem? (i := 1964) (by decide +kernel)) (by decide +kernel), x_tb_in (List.mem_of_getElem? (i := 113) (by decide +kernel)) (by decide +kernel), rfl⟩
set_option maxRecDepth 100000 in
theorem cok_mX12_wearsNow : x_cok mX12_wearsNow 0 := ⟨ini_X12, x_tb_in (List.mem_of_getElem? (i := 1792) rfl) rfl, ⟨by decide, by decide, by decide +kernel⟩, by decide⟩
theorem vok_mX12_wearsNow : x_vok mX12_wearsNow 0 := ⟨cok_mX12_wearsNow, x_tb_in (List.mem_of_getElem? (i := 1791) (by decide +kernel)) (by decide +kernel), x_tb_in (List.mem_of_getElem? (i := 97) (by decide +kernel)) (by decide +kernel), rfl⟩
set_option maxRecDepth 100000 in
theorem cok_mX12_weight : x_cok mX12_weight 2 := ⟨ini_X12, x_tb_in (List.mem_of_getElem? (i := 1925) rfl) rfl, ⟨by decide, by decide, by decide +kernel⟩, by decide⟩
theorem vok_mX12_weight : x_vok mX12_weight 2 := ⟨cok_mX12_weight, x_tb_in (List.mem_of_getElem? (i := 1923) (by decide +kernel)) (by decide +kernel), x_tb_in (List.mem_of_getElem? (i := 1924) (by decide +kernel)) (by decide +kernel), rfl⟩
set_option maxRecDepth 100000 in
theorem cok_mX12_winner : x_cok mX12_winner 0 := ⟨ini_X12, x_tb_in (List.mem_of_getElem? (i := 1910) rfl) rfl, ⟨by decide, by decide, by decide +kernel⟩, by decide⟩
theorem vok_mX12_winner : x_vok mX12_winner 0 := ⟨cok_mX12_winner, x_tb_in (List.mem_of_getElem? (i := 1908) (by decide +kernel)) (by decide +kernel), x_tb_in (List.mem_of_getElem? (i := 1909) (by decide +kernel)) (by decide +kernel), rfl⟩
set_option maxRecDepth 100000 in
theorem cok_mX12_wordOf : x_cok mX12_wordOf 1 := ⟨ini_X12, x_tb_in (List.mem_of_getElem? (i := 1553) rfl) rfl, ⟨by decide, by decide, by decide +kernel⟩, by decide⟩
theorem stt_mX12_wordOf : Cond.static mX12_wordOf.1 ∈ x_tb := x_tb_in (List.mem_of_getElem? (i := 1552) (by decide +kernel)) (by decide +kernel)
set_option maxRecDepth 100000 in
theorem cok_mX12_worked : x_cok mX12_worked 3 := ⟨ini_X12, x_tb_in (List.mem_of_getElem? (i := 1743) rfl) rfl, ⟨by decide, by decide, by decide +kernel⟩, by decide⟩
theorem vok_mX12_worked : x_vok mX12_worked 3 := ⟨cok_mX12_worked, x_tb_in (List.mem_of_getElem? (i := 1742) (by decide +kernel)) (by decide +kernel), x_tb_in (List.mem_of_getElem? (i := 90) (by decide +kernel)) (by decide +kernel), rfl⟩
set_option maxRecDepth 100000 in
theorem cok_mX12_works : x_cok mX12_works 1 := ⟨ini_X12, x_tb_in (List.mem_of_getElem? (i := 1652) rfl) rfl, ⟨by decide, by decide, by decide +kernel⟩, by decide⟩
theorem vok_mX12_works : x_vok mX12_works 1 := ⟨cok_mX12_works, x_tb_in (List.mem_of_getElem? (i := 1651) (by decide +kernel)) (by decide +kernel), x_tb_in (List.mem_of_getElem? (i := 71) (by decide +kernel)) (by decide +kernel), rfl⟩
set_option maxRecDepth 100000 in
theorem cok_mX12_writes : x_cok mX12_writes 1 := ⟨ini_X12, x_tb_in (List.mem_of_getElem? (i := 1810) rfl) rfl, ⟨by decide, by decide, by decide +kernel⟩, by decide⟩
theorem vok_mX12_writes : x_vok mX12_writes 1 := ⟨cok_mX12_writes, x_tb_in (List.mem_of_getElem? (i := 1809) (by decide +kernel)) (by decide +kernel), x_tb_in (List.mem_of_getElem? (i := 100) (by decide +kernel)) (by decide +kernel), rfl⟩
set_option maxRecDepth 100000 in
theorem cok_mX12_yard : x_cok mX12_yard 0 := ⟨ini_X12, x_tb_in (List.mem_of_getElem? (i := 1945) rfl) rfl, ⟨by decide, by decide, by decide +kernel⟩, by decide⟩
theorem vok_mX12_yard : x_vok mX12_yard 0 := ⟨cok_mX12_yard, x_tb_in (List.mem_of_getElem? (i := 1943) (by decide +kernel)) (by decide +kernel), x_tb_in (List.mem_of_getElem? (i := 1944) (by decide +kernel)) (by decide +kernel), rfl⟩
set_option maxRecDepth 100000 in
theorem cok_mX12_years : x_cok mX12_years 2 := ⟨ini_X12, x_tb_in (List.mem_of_getElem? (i := 1814) rfl) rfl, ⟨by decide, by decide, by decide +kernel⟩, by decide⟩
theorem vok_mX12_years : x_vok mX12_years 2 := ⟨cok_mX12_years, x_tb_in (List.mem_of_getElem? (i := 1812) (by decide +kernel)) (by decide +kernel), x_tb_in (List.mem_of_getElem? (i := 1813) (by decide +kernel)) (by decide +kernel), rfl⟩
set_option maxRecDepth 100000 in
theorem cok_mX1_copyFrom : x_cok mX1_copyFrom 1 := ⟨ini_X1, x_tb_in (List.mem_of_getElem? (i := 612) rfl) rfl, ⟨by decide, by decide, by decide +kernel⟩, by decide⟩
theorem vok_mX1_copyFrom : x_vok mX1_copyFrom 1 := ⟨cok_mX1_copyFrom, x_tb_in (List.mem_of_getElem? (i := 610) (by decide +kernel)) (by decide +kernel), x_tb_in (List.mem_of_getElem? (i := 611) (by decide +kernel)) (by decide +kernel), rfl⟩
set_option maxRecDepth 100000 in
theorem cok_mX1_debtWritten : x_cok mX1_debtWritten 2 := ⟨ini_X1, x_tb_in (List.mem_of_getElem? (i := 1119) rfl) rfl, ⟨by decide, by decide, by decide +kernel⟩, by decide⟩
theorem vok_mX1_debtWritten : x_vok mX1_debtWritten 2 := ⟨cok_mX1_debtWritten, x_tb_in (List.mem_of_getElem? (i := 1117) (by decide +kernel)) (by decide +kernel), x_tb_in (List.mem_of_getElem? (i := 1118) (by decide +kernel)) (by decide +kernel), rfl⟩
set_option maxRecDepth 100000 in
theorem cok_mX1_draw : x_cok mX1_draw 1 := ⟨ini_X1, x_tb_in (List.mem_of_getElem? (i := 771) rfl) rfl, ⟨by decide, by decide, by decide +kernel⟩, by decide⟩
theorem vok_mX1_draw : x_vok mX1_draw 1 := ⟨cok_mX1_draw, x_tb_in (List.mem_of_getElem? (i := 769) (by decide +kernel)) (by decide +kernel), x_tb_in (List.mem_of_getElem? (i := 770) (by decide +kernel)) (by decide +kernel), rfl⟩
set_option maxRecDepth 100000 in
theorem cok_mX1_lieAt : x_cok mX1_lieAt 1 := ⟨ini_X1, x_tb_in (List.mem_of_getElem? (i := 705) rfl) rfl, ⟨by decide, by decide, by decide +kernel⟩, by decide⟩
theorem vok_mX1_lieAt : x_vok mX1_lieAt 1 := ⟨cok_mX1_lieAt, x_tb_in (List.mem_of_getElem? (i := 703) (by decide +kernel)) (by decide +kernel), x_tb_in (List.mem_of_getElem? (i := 704) (by decide +kernel)) (by decide +kernel), rfl⟩
set_option maxRecDepth 100000 in
theorem cok_mX1_paleOf : x_cok mX1_paleOf 1 := ⟨ini_X1, x_tb_in (List.mem_of_getElem? (i := 749) rfl) rfl, ⟨by decide, by decide, by decide +kernel⟩, by decide⟩
theorem vok_mX1_paleOf : x_vok mX1_paleOf 1 := ⟨cok_mX1_paleOf, x_tb_in (List.mem_of_getElem? (i := 747) (by decide +kernel)) (by decide +kernel), x_tb_in (List.mem_of_getElem? (i := 748) (by decide +kernel)) (by decide +kernel), rfl⟩
set_option maxRecDepth 100000 in
theorem cok_mX1_purseOf : x_cok mX1_purseOf 1 := ⟨ini_X1, x_tb_in (List.mem_of_getElem? (i := 753) rfl) rfl, ⟨by decide, by decide, by decide +kernel⟩, by decide⟩
theorem vok_mX1_purseOf : x_vok mX1_purseOf 1 := ⟨cok_mX1_purseOf, x_tb_in (List.mem_of_getElem? (i := 751) (by decide +kernel)) (by decide +kernel), x_tb_in (List.mem_of_getElem? (i := 752) (by decide +kernel)) (by decide +kernel), rfl⟩
set_option maxRecDepth 100000 in
theorem cok_mX1_writeDebt : x_cok mX1_writeDebt 2 := ⟨ini_X1, x_tb_in (List.mem_of_getElem? (i := 758) rfl) rfl, ⟨by decide, by decide, by decide +kernel⟩, by decide⟩
theorem vok_mX1_writeDebt : x_vok mX1_writeDebt 2 := ⟨cok_mX1_writeDebt, x_tb_in (List.mem_of_getElem? (i := 756) (by decide +kernel)) (by decide +kernel), x_tb_in (List.mem_of_getElem? (i := 757) (by decide +kernel)) (by decide +kernel), rfl⟩
set_option maxRecDepth 100000 in
theorem cok_mX2_canSetOff : x_cok mX2_canSetOff 3 := ⟨ini_X2, x_tb_in (List.mem_of_getElem? (i := 592) rfl) rfl, ⟨by decide, by decide, by decide +kernel⟩, by decide⟩
theorem vok_mX2_canSetOff : x_vok mX2_canSetOff 3 := ⟨cok_mX2_canSetOff, x_tb_in (List.mem_of_getElem? (i := 590) (by decide +kernel)) (by decide +kernel), x_tb_in (List.mem_of_getElem? (i := 591) (by decide +kernel)) (by decide +kernel), rfl⟩
set_option maxRecDepth 100000 in
theorem cok_mX2_doAsDrawn : x_cok mX2_doAsDrawn 1 := ⟨ini_X2, x_tb_in (List.mem_of_getElem? (i := 767) rfl) rfl, ⟨by decide, by decide, by decide +kernel⟩, by decide⟩
theorem vok_mX2_doAsDrawn : x_vok mX2_doAsDrawn 1 := ⟨cok_mX2_doAsDrawn, x_tb_in (List.mem_of_getElem? (i := 765) (by decide +kernel)) (by decide +kernel), x_tb_in (List.mem_of_getElem? (i := 766) (by decide +kernel)) (by decide +kernel), rfl⟩
set_option maxRecDepth 100000 in
theorem cok_mX2_fallsInDebt : x_cok mX2_fallsInDebt 2 := ⟨ini_X2, x_tb_in (List.mem_of_getElem? (i := 732) rfl) rfl, ⟨by decide, by decide, by decide +kernel⟩, by decide⟩
theorem vok_mX2_fallsInDebt : x_vok mX2_fallsInDebt 2 := ⟨cok_mX2_fallsInDebt, x_tb_in (List.mem_of_getElem? (i := 731) (by decide +kernel)) (by decide +kernel), x_tb_in (List.mem_of_getElem? (i := 8) (by decide +kernel)) (by decide +kernel), rfl⟩
set_option maxRecDepth 100000 in
theorem cok_mX2_passMinute : x_cok mX2_passMinute 1 := ⟨ini_X2, x_tb_in (List.mem_of_getElem? (i := 718) rfl) rfl, ⟨by decide, by decide, by decide +kernel⟩, by decide⟩
theorem vok_mX2_passMinute : x_vok mX2_passMinute 1 := ⟨cok_mX2_passMinute, x_tb_in (List.mem_of_getElem? (i := 716) (by decide +kernel)) (by decide +kernel), x_tb_in (List.mem_of_getElem? (i := 717) (by decide +kernel)) (by decide +kernel), rfl⟩
set_option maxRecDepth 100000 in
theorem cok_mX2_roll : x_cok mX2_roll 1 := ⟨ini_X2, x_tb_in (List.mem_of_getElem? (i := 722) rfl) rfl, ⟨by decide, by decide, by decide +kernel⟩, by decide⟩
theorem vok_mX2_roll : x_vok mX2_roll 1 := ⟨cok_mX2_roll, x_tb_in (List.mem_of_getElem? (i := 720) (by decide +kernel)) (by decide +kernel), x_tb_in (List.mem_of_getElem? (i := 721) (by decide +kernel)) (by decide +kernel), rfl⟩
set_option maxRecDepth 100000 in
theorem cok_mX2_setOff : x_cok mX2_setOff 3 := ⟨ini_X2, x_tb_in (List.mem_of_getElem? (i := 619) rfl) rfl, ⟨by decide, by decide, by decide +kernel⟩, by decide⟩
theorem vok_mX2_setOff : x_vok mX2_setOff 3 := ⟨cok_mX2_setOff, x_tb_in (List.mem_of_getElem? (i := 617) (by decide +kernel)) (by decide +kernel), x_tb_in (List.mem_of_getElem? (i := 618) (by decide +kernel)) (by decide +kernel), rfl⟩
set_option maxRecDepth 100000 in
theorem cok_mX2_setOffAsDrawn : x_cok mX2_setOffAsDrawn 1 := ⟨ini_X2, x_tb_in (List.mem_of_getElem? (i := 775) rfl) rfl, ⟨by decide, by decide, by decide +kernel⟩, by decide⟩
theorem vok_mX2_setOffAsDrawn : x_vok mX2_setOffAsDrawn 1 := ⟨cok_mX2_setOffAsDrawn, x_tb_in (List.mem_of_getElem? (i := 774) (by decide +kernel)) (by decide +kernel), x_tb_in (List.mem_of_getElem? (i := 9) (by decide +kernel)) (by decide +kernel), rfl⟩
set_option maxRecDepth 100000 in
theorem cok_mX2_tipOver : x_cok mX2_tipOver 1 := ⟨ini_X2, x_tb_in (List.mem_of_getElem? (i := 701) rfl) rfl, ⟨by decide, by decide, by decide +kernel⟩, by decide⟩
theorem vok_mX2_tipOver : x_vok mX2_tipOver 1 := ⟨cok_mX2_tipOver, x_tb_in (List.mem_of_getElem? (i := 699) (by decide +kernel)) (by decide +kernel), x_tb_in (List.mem_of_getElem? (i := 700) (by decide +kernel)) (by decide +kernel), rfl⟩
set_option maxRecDepth 100000 in
theorem cok_mX3_addHouse : x_cok mX3_addHouse 1 := ⟨ini_X3, x_tb_in (List.mem_of_getElem? (i := 552) rfl) rfl, ⟨by decide, by decide, by decide +kernel⟩, by decide⟩
theorem vok_mX3_addHouse : x_vok mX3_addHouse 1 := ⟨cok_mX3_addHouse, x_tb_in (List.mem_of_getElem? (i := 550) (by decide +kernel)) (by decide +kernel), x_tb_in (List.mem_of_getElem? (i := 551) (by decide +kernel)) (by decide +kernel), rfl⟩
set_option maxRecDepth 100000 in
theorem cok_mX3_addPusher : x_cok mX3_addPusher 1 := ⟨ini_X3, x_tb_in (List.mem_of_getElem? (i := 584) rfl) rfl, ⟨by decide, by decide, by decide +kernel⟩, by decide⟩
theorem vok_mX3_addPusher : x_vok mX3_addPusher 1 := ⟨cok_mX3_addPusher, x_tb_in (List.mem_of_getElem? (i := 582) (by decide +kernel)) (by decide +kernel), x_tb_in (List.mem_of_getElem? (i := 583) (by decide +kernel)) (by decide +kernel), rfl⟩
set_option maxRecDepth 100000 in
theorem cok_mX3_copyFrom : x_cok mX3_copyFrom 1 := ⟨ini_X3, x_tb_in (List.mem_of_getElem? (i := 1332) rfl) rfl, ⟨by decide, by decide, by decide +kernel⟩, by decide⟩
theorem vok_mX3_copyFrom : x_vok mX3_copyFrom 1 := ⟨cok_mX3_copyFrom, x_tb_in (List.mem_of_getElem? (i := 1330) (by decide +kernel)) (by decide +kernel), x_tb_in (List.mem_of_getElem? (i := 1331) (by decide +kernel)) (by decide +kernel), rfl⟩
set_option maxRecDepth 100000 in
theorem cok_mX3_hillOf : x_cok mX3_hillOf 1 := ⟨ini_X3, x_tb_in (List.mem_of_getElem? (i := 636) rfl) rfl, ⟨by decide, by decide, by decide +kernel⟩, by decide⟩
theorem vok_mX3_hillOf : x_vok mX3_hillOf 1 := ⟨cok_mX3_hillOf, x_tb_in (List.mem_of_getElem? (i := 634) (by decide +kernel)) (by decide +kernel), x_tb_in (List.mem_of_getElem? (i := 635) (by decide +kernel)) (by decide +kernel), rfl⟩
set_option maxRecDepth 100000 in
theorem cok_mX3_hourBy : x_cok mX3_hourBy 2 := ⟨ini_X3, x_tb_in (List.mem_of_getElem? (i := 740) rfl) rfl, ⟨by decide, by decide, by decide +kernel⟩, by decide⟩
theorem vok_mX3_hourBy : x_vok mX3_hourBy 2 := ⟨cok_mX3_hourBy, x_tb_in (List.mem_of_getElem? (i := 738) (by decide +kernel)) (by decide +kernel), x_tb_in (List.mem_of_getElem? (i := 739) (by decide +kernel)) (by decide +kernel), rfl⟩
set_option maxRecDepth 100000 in
theorem cok_mX3_isHouse : x_cok mX3_isHouse 1 := ⟨ini_X3, x_tb_in (List.mem_of_getElem? (i := 571) rfl) rfl, ⟨by decide, by decide, by decide +kernel⟩, by decide⟩
theorem vok_mX3_isHouse : x_vok mX3_isHouse 1 := ⟨cok_mX3_isHouse, x_tb_in (List.mem_of_getElem? (i := 569) (by decide +kernel)) (by decide +kernel), x_tb_in (List.mem_of_getElem? (i := 570) (by decide +kernel)) (by decide +kernel), rfl⟩
set_option maxRecDepth 100000 in
theorem cok_mX3_isPusher : x_cok mX3_isPusher 1 := ⟨ini_X3, x_tb_in (List.mem_of_getElem? (i := 596) rfl) rfl, ⟨by decide, by decide, by decide +kernel⟩, by decide⟩
theorem vok_mX3_isPusher : x_vok mX3_isPusher 1 := ⟨cok_mX3_isPusher, x_tb_in (List.mem_of_getElem? (i := 594) (by decide +kernel)) (by decide +kernel), x_tb_in (List.mem_of_getElem? (i := 595) (by decide +kernel)) (by decide +kernel), rfl⟩
set_option maxRecDepth 100000 in
theorem cok_mX3_laneBetween : x_cok mX3_laneBetween 2 := ⟨ini_X3, x_tb_in (List.mem_of_getElem? (i := 600) rfl) rfl, ⟨by decide, by decide, by decide +kernel⟩, by decide⟩
theorem vok_mX3_laneBetween : x_vok mX3_laneBetween 2 := ⟨cok_mX3_laneBetween, x_tb_in (List.mem_of_getElem? (i := 598) (by decide +kernel)) (by decide +kernel), x_tb_in (List.mem_of_getElem? (i := 599) (by decide +kernel)) (by decide +kernel), rfl⟩
set_option maxRecDepth 100000 in
theorem cok_mX3_measure : x_cok mX3_measure 0 := ⟨ini_X3, x_tb_in (List.mem_of_getElem? (i := 556) rfl) rfl, ⟨by decide, by decide, by decide +kernel⟩, by decide⟩
theorem vok_mX3_measure : x_vok mX3_measure 0 := ⟨cok_mX3_measure, x_tb_in (List.mem_of_getElem? (i := 555) (by decide +kernel)) (by decide +kernel), x_tb_in (List.mem_of_getElem? (i := 0) (by decide +kernel)) (by decide +kernel), rfl⟩
set_option maxRecDepth 100000 in
theorem cok_mX3_noteDown : x_cok mX3_noteDown 4 := ⟨ini_X3, x_tb_in (List.mem_of_getElem? (i := 1137) rfl) rfl, ⟨by decide, by decide, by decide +kernel⟩, by decide⟩
theorem vok_mX3_noteDown : x_vok mX3_noteDown 4 := ⟨cok_mX3_noteDown, x_tb_in (List.mem_of_getElem? (i := 1135) (by decide +kernel)) (by decide +kernel), x_tb_in (List.mem_of_getElem? (i := 1136) (by decide +kernel)) (by decide +kernel), rfl⟩
set_option maxRecDepth 100000 in
theorem cok_mX3_setLane : x_cok mX3_setLane 3 := ⟨ini_X3, x_tb_in (List.mem_of_getElem? (i := 575) rfl) rfl, ⟨by decide, by decide, by decide +kernel⟩, by decide⟩
theorem vok_mX3_setLane : x_vok mX3_setLane 3 := ⟨cok_mX3_setLane, x_tb_in (List.mem_of_getElem? (i := 573) (by decide +kernel)) (by decide +kernel), x_tb_in (List.mem_of_getElem? (i := 574) (by decide +kernel)) (by decide +kernel), rfl⟩
set_option maxRecDepth 100000 in
theorem cok_mX3_shorten : x_cok mX3_shorten 2 := ⟨ini_X3, x_tb_in (List.mem_of_getElem? (i := 560) rfl) rfl, ⟨by decide, by decide, by decide +kernel⟩, by decide⟩
theorem vok_mX3_shorten : x_vok mX3_shorten 2 := ⟨cok_mX3_shorten, x_tb_in (List.mem_of_getElem? (i := 559) (by decide +kernel)) (by decide +kernel), x_tb_in (List.mem_of_getElem? (i := 1) (by decide +kernel)) (by decide +kernel), rfl⟩
set_option maxRecDepth 100000 in
theorem cok_mX3_strengthOf : x_cok mX3_strengthOf 1 := ⟨ini_X3, x_tb_in (List.mem_of_getElem? (i := 648) rfl) rfl, ⟨by decide, by decide, by decide +kernel⟩, by decide⟩
theorem vok_mX3_strengthOf : x_vok mX3_strengthOf 1 := ⟨cok_mX3_strengthOf, x_tb_in (List.mem_of_getElem? (i := 646) (by decide +kernel)) (by decide +kernel), x_tb_in (List.mem_of_getElem? (i := 647) (by decide +kernel)) (by decide +kernel), rfl⟩
set_option maxRecDepth 100000 in
theorem cok_mX3_wayBetween : x_cok mX3_wayBetween 2 := ⟨ini_X3, x_tb_in (List.mem_of_getElem? (i := 681) rfl) rfl, ⟨by decide, by decide, by decide +kernel⟩, by decide⟩
theorem vok_mX3_wayBetween : x_vok mX3_wayBetween 2 := ⟨cok_mX3_wayBetween, x_tb_in (List.mem_of_getElem? (i := 679) (by decide +kernel)) (by decide +kernel), x_tb_in (List.mem_of_getElem? (i := 680) (by decide +kernel)) (by decide +kernel), rfl⟩
set_option maxRecDepth 100000 in
theorem cok_mX4_earning : x_cok mX4_earning 2 := ⟨ini_X4, x_tb_in (List.mem_of_getElem? (i := 736) rfl) rfl, ⟨by decide, by decide, by decide +kernel⟩, by decide⟩
theorem vok_mX4_earning : x_vok mX4_earning 2 := ⟨cok_mX4_earning, x_tb_in (List.mem_of_getElem? (i := 734) (by decide +kernel)) (by decide +kernel), x_tb_in (List.mem_of_getElem? (i := 735) (by decide +kernel)) (by decide +kernel), rfl⟩
set_option maxRecDepth 100000 in
theorem cok_mX4_hardness : x_cok mX4_hardness 4 := ⟨ini_X4, x_tb_in (List.mem_of_getElem? (i := 623) rfl) rfl, ⟨by decide, by decide, by decide +kernel⟩, by decide⟩
theorem vok_mX4_hardness : x_vok mX4_hardness 4 := ⟨cok_mX4_hardness, x_tb_in (List.mem_of_getElem? (i := 621) (by decide +kernel)) (by decide +kernel), x_tb_in (List.mem_of_getElem? (i := 622) (by decide +kernel)) (by decide +kernel), rfl⟩
set_option maxRecDepth 100000 in
theorem cok_mX4_joined : x_cok mX4_joined 3 := ⟨ini_X4, x_tb_in (List.mem_of_getElem? (i := 684) rfl) rfl, ⟨by decide, by decide, by decide +kernel⟩, by decide⟩
theorem stt_mX4_joined : Cond.static mX4_joined.1 ∈ x_tb := x_tb_in (List.mem_of_getElem? (i := 683) (by decide +kernel)) (by decide +kernel)
set_option maxRecDepth 100000 in
theorem cok_mX4_lay : x_cok mX4_lay 1 := ⟨ini_X4, x_tb_in (List.mem_of_getElem? (i := 673) rfl) rfl, ⟨by decide, by decide, by decide +kernel⟩, by decide⟩
theorem vok_mX4_lay : x_vok mX4_lay 1 := ⟨cok_mX4_lay, x_tb_in (List.mem_of_getElem? (i := 672) (by decide +kernel)) (by decide +kernel), x_tb_in (List.mem_of_getElem? (i := 6) (by decide +kernel)) (by decide +kernel), rfl⟩
set_option maxRecDepth 100000 in
theorem cok_mX4_lift : x_cok mX4_lift 0 := ⟨ini_X4, x_tb_in (List.mem_of_getElem? (i := 677) rfl) rfl, ⟨by decide, by decide, by decide +kernel⟩, by decide⟩
theorem vok_mX4_lift : x_vok mX4_lift 0 := ⟨cok_mX4_lift, x_tb_in (List.mem_of_getElem? (i := 676) (by decide +kernel)) (by decide +kernel), x_tb_in (List.mem_of_getElem? (i := 7) (by decide +kernel)) (by decide +kernel), rfl⟩
set_option maxRecDepth 100000 in
theorem cok_mX4_nameHere : x_cok mX4_nameHere 2 := ⟨ini_X4, x_tb_in (List.mem_of_getElem? (i := 643) rfl) rfl, ⟨by decide, by decide, by decide +kernel⟩, by decide⟩
theorem vok_mX4_nameHere : x_vok mX4_nameHere 2 := ⟨cok_mX4_nameHere, x_tb_in (List.mem_of_getElem? (i := 642) (by decide +kernel)) (by decide +kernel), x_tb_in (List.mem_of_getElem? (i := 4) (by decide +kernel)) (by decide +kernel), rfl⟩
set_option maxRecDepth 100000 in
theorem cok_mX4_rules : x_cok mX4_rules 1 := ⟨ini_X4, x_tb_in (List.mem_of_getElem? (i := 628) rfl) rfl, ⟨by decide, by decide, by decide +kernel⟩, by decide⟩
theorem vok_mX4_rules : x_vok mX4_rules 1 := ⟨cok_mX4_rules, x_tb_in (List.mem_of_getElem? (i := 627) (by decide +kernel)) (by decide +kernel), x_tb_in (List.mem_of_getElem? (i := 3) (by decide +kernel)) (by decide +kernel), rfl⟩
set_option maxRecDepth 100000 in
theorem cok_mX4_said : x_cok mX4_said 1 := ⟨ini_X4, x_tb_in (List.mem_of_getElem? (i := 653) rfl) rfl, ⟨by decide, by decide, by decide +kernel⟩, by decide⟩
theorem vok_mX4_said : x_vok mX4_said 1 := ⟨cok_mX4_said, x_tb_in (List.mem_of_getElem? (i := 652) (by decide +kernel)) (by decide +kernel), x_tb_in (List.mem_of_getElem? (i := 5) (by decide +kernel)) (by decide +kernel), rfl⟩
set_option maxRecDepth 100000 in
theorem cok_mX4_warmth : x_cok mX4_warmth 3 := ⟨ini_X4, x_tb_in (List.mem_of_getElem? (i := 1100) rfl) rfl, ⟨by decide, by decide, by decide +kernel⟩, by decide⟩
theorem vok_mX4_warmth : x_vok mX4_warmth 3 := ⟨cok_mX4_warmth, x_tb_in (List.mem_of_getElem? (i := 1098) (by decide +kernel)) (by decide +kernel), x_tb_in (List.mem_of_getElem? (i := 1099) (by decide +kernel)) (by decide +kernel), rfl⟩
set_option maxRecDepth 100000 in
theorem cok_mX4_wearing : x_cok mX4_wearing 1 := ⟨ini_X4, x_tb_in (List.mem_of_getElem? (i := 727) rfl) rfl, ⟨by decide, by decide, by decide +kernel⟩, by decide⟩
theorem vok_mX4_wearing : x_vok mX4_wearing 1 := ⟨cok_mX4_wearing, x_tb_in (List.mem_of_getElem? (i := 725) (by decide +kernel)) (by decide +kernel), x_tb_in (List.mem_of_getElem? (i := 726) (by decide +kernel)) (by decide +kernel), rfl⟩
set_option maxRecDepth 100000 in
theorem cok_mX5_copyFrom : x_cok mX5_copyFrom 1 := ⟨ini_X5, x_tb_in (List.mem_of_getElem? (i := 1337) rfl) rfl, ⟨by decide, by decide, by decide +kernel⟩, by decide⟩
theorem vok_mX5_copyFrom : x_vok mX5_copyFrom 1 := ⟨cok_mX5_copyFrom, x_tb_in (List.mem_of_getElem? (i := 1335) (by decide +kernel)) (by decide +kernel), x_tb_in (List.mem_of_getElem? (i := 1336) (by decide +kernel)) (by decide +kernel), rfl⟩
set_option maxRecDepth 100000 in
theorem cok_mX6_compares : x_cok mX6_compares 1 := ⟨ini_X6, x_tb_in (List.mem_of_getElem? (i := 1019) rfl) rfl, ⟨by decide, by decide, by decide +kernel⟩, by decide⟩
theorem stt_mX6_compares : Cond.static mX6_compares.1 ∈ x_tb := x_tb_in (List.mem_of_getElem? (i := 1018) (by decide +kernel)) (by decide +kernel)
set_option maxRecDepth 100000 in
theorem cok_mX6_expect : x_cok mX6_expect 1 := ⟨ini_X6, x_tb_in (List.mem_of_getElem? (i := 996) rfl) rfl, ⟨by decide, by decide, by decide +kernel⟩, by decide⟩
theorem vok_mX6_expect : x_vok mX6_expect 1 := ⟨cok_mX6_expect, x_tb_in (List.mem_of_getElem? (i := 995) (by decide +kernel)) (by decide +kernel), x_tb_in (List.mem_of_getElem? (i := 24) (by decide +kernel)) (by decide +kernel), rfl⟩
set_option maxRecDepth 100000 in
theorem cok_mX6_expectNumber : x_cok mX6_expectNumber 2 := ⟨ini_X6, x_tb_in (List.mem_of_getElem? (i := 976) rfl) rfl, ⟨by decide, by decide, by decide +kernel⟩, by decide⟩
theorem vok_mX6_expectNumber : x_vok mX6_expectNumber 2 := ⟨cok_mX6_expectNumber, x_tb_in (List.mem_of_getElem? (i := 975) (by decide +kernel)) (by decide +kernel), x_tb_in (List.mem_of_getElem? (i := 21) (by decide +kernel)) (by decide +kernel), rfl⟩
set_option maxRecDepth 100000 in
theorem cok_mX6_isNext : x_cok mX6_isNext 1 := ⟨ini_X6, x_tb_in (List.mem_of_getElem? (i := 984) rfl) rfl, ⟨by decide, by decide, by decide +kernel⟩, by decide⟩
theorem vok_mX6_isNext : x_vok mX6_isNext 1 := ⟨cok_mX6_isNext, x_tb_in (List.mem_of_getElem? (i := 983) (by decide +kernel)) (by decide +kernel), x_tb_in (List.mem_of_getElem? (i := 22) (by decide +kernel)) (by decide +kernel), rfl⟩
set_option maxRecDepth 100000 in
theorem cok_mX6_opens : x_cok mX6_opens 1 := ⟨ini_X6, x_tb_in (List.mem_of_getElem? (i := 992) rfl) rfl, ⟨by decide, by decide, by decide +kernel⟩, by decide⟩
theorem vok_mX6_opens : x_vok mX6_opens 1 := ⟨cok_mX6_opens, x_tb_in (List.mem_of_getElem? (i := 991) (by decide +kernel)) (by decide +kernel), x_tb_in (List.mem_of_getElem? (i := 23) (by decide +kernel)) (by decide +kernel), rfl⟩
set_option maxRecDepth 100000 in
theorem cok_mX6_read : x_cok mX6_read 1 := ⟨ini_X6, x_tb_in (List.mem_of_getElem? (i := 799) rfl) rfl, ⟨by decide, by decide, by decide +kernel⟩, by decide⟩
theorem vok_mX6_read : x_vok mX6_read 1 := ⟨cok_mX6_read, x_tb_in (List.mem_of_getElem? (i := 797) (by decide +kernel)) (by decide +kernel), x_tb_in (List.mem_of_getElem? (i := 798) (by decide +kernel)) (by decide +kernel), rfl⟩
set_option maxRecDepth 100000 in
theorem cok_mX6_readAsk : x_cok mX6_readAsk 1 := ⟨ini_X6, x_tb_in (List.mem_of_getElem? (i := 1016) rfl) rfl, ⟨by decide, by decide, by decide +kernel⟩, by decide⟩
theorem vok_mX6_readAsk : x_vok mX6_readAsk 1 := ⟨cok_mX6_readAsk, x_tb_in (List.mem_of_getElem? (i := 1015) (by decide +kernel)) (by decide +kernel), x_tb_in (List.mem_of_getElem? (i := 29) (by decide +kernel)) (by decide +kernel), rfl⟩
set_option maxRecDepth 100000 in
theorem cok_mX6_readBoth : x_cok mX6_readBoth 1 := ⟨ini_X6, x_tb_in (List.mem_of_getElem? (i := 1012) rfl) rfl, ⟨by decide, by decide, by decide +kernel⟩, by decide⟩
theorem vok_mX6_readBoth : x_vok mX6_readBoth 1 := ⟨cok_mX6_readBoth, x_tb_in (List.mem_of_getElem? (i := 1011) (by decide +kernel)) (by decide +kernel), x_tb_in (List.mem_of_getElem? (i := 28) (by decide +kernel)) (by decide +kernel), rfl⟩
set_option maxRecDepth 100000 in
theorem cok_mX6_readClause : x_cok mX6_readClause 0 := ⟨ini_X6, x_tb_in (List.mem_of_getElem? (i := 951) rfl) rfl, ⟨by decide, by decide, by decide +kernel⟩, by decide⟩
theorem vok_mX6_readClause : x_vok mX6_readClause 0 := ⟨cok_mX6_readClause, x_tb_in (List.mem_of_getElem? (i := 950) (by decide +kernel)) (by decide +kernel), x_tb_in (List.mem_of_getElem? (i := 16) (by decide +kernel)) (by decide +kernel), rfl⟩
set_option maxRecDepth 100000 in
theorem cok_mX6_readDeed : x_cok mX6_readDeed 1 := ⟨ini_X6, x_tb_in (List.mem_of_getElem? (i := 1041) rfl) rfl, ⟨by decide, by decide, by decide +kernel⟩, by decide⟩
theorem vok_mX6_readDeed : x_vok mX6_readDeed 1 := ⟨cok_mX6_readDeed, x_tb_in (List.mem_of_getElem? (i := 1040) (by decide +kernel)) (by decide +kernel), x_tb_in (List.mem_of_getElem? (i := 31) (by decide +kernel)) (by decide +kernel), rfl⟩
set_option maxRecDepth 100000 in
theorem cok_mX6_readEither : x_cok mX6_readEither 1 := ⟨ini_X6, x_tb_in (List.mem_of_getElem? (i := 1008) rfl) rfl, ⟨by decide, by decide, by decide +kernel⟩, by decide⟩
theorem vok_mX6_readEither : x_vok mX6_readEither 1 := ⟨cok_mX6_readEither, x_tb_in (List.mem_of_getElem? (i := 1007) (by decide +kernel)) (by decide +kernel), x_tb_in (List.mem_of_getElem? (i := 27) (by decide +kernel)) (by decide +kernel), rfl⟩
set_option maxRecDepth 100000 in
theorem cok_mX6_readFar : x_cok mX6_readFar 1 := ⟨ini_X6, x_tb_in (List.mem_of_getElem? (i := 1000) rfl) rfl, ⟨by decide, by decide, by decide +kernel⟩, by decide⟩
theorem vok_mX6_readFar : x_vok mX6_readFar 1 := ⟨cok_mX6_readFar, x_tb_in (List.mem_of_getElem? (i := 999) (by decide +kernel)) (by decide +kernel), x_tb_in (List.mem_of_getElem? (i := 25) (by decide +kernel)) (by decide +kernel), rfl⟩
set_option maxRecDepth 100000 in
theorem cok_mX6_readIf : x_cok mX6_readIf 1 := ⟨ini_X6, x_tb_in (List.mem_of_getElem? (i := 1004) rfl) rfl, ⟨by decide, by decide, by decide +kernel⟩, by decide⟩
theorem vok_mX6_readIf : x_vok mX6_readIf 1 := ⟨cok_mX6_readIf, x_tb_in (List.mem_of_getElem? (i := 1003) (by decide +kernel)) (by decide +kernel), x_tb_in (List.mem_of_getElem? (i := 26) (by decide +kernel)) (by decide +kernel), rfl⟩
set_option maxRecDepth 100000 in
theorem cok_mX6_readName : x_cok mX6_readName 0 := ⟨ini_X6, x_tb_in (List.mem_of_getElem? (i := 1027) rfl) rfl, ⟨by decide, by decide, by decide +kernel⟩, by decide⟩
theorem vok_mX6_readName : x_vok mX6_readName 0 := ⟨cok_mX6_readName, x_tb_in (List.mem_of_getElem? (i := 1026) (by decide +kernel)) (by decide +kernel), x_tb_in (List.mem_of_getElem? (i := 30) (by decide +kernel)) (by decide +kernel), rfl⟩
set_option maxRecDepth 100000 in
theorem cok_mX6_readOne : x_cok mX6_readOne 1 := ⟨ini_X6, x_tb_in (List.mem_of_getElem? (i := 972) rfl) rfl, ⟨by decide, by decide, by decide +kernel⟩, by decide⟩
theorem vok_mX6_readOne : x_vok mX6_readOne 1 := ⟨cok_mX6_readOne, x_tb_in (List.mem_of_getElem? (i := 971) (by decide +kernel)) (by decide +kernel), x_tb_in (List.mem_of_getElem? (i := 20) (by decide +kernel)) (by decide +kernel), rfl⟩
set_option maxRecDepth 100000 in
theorem cok_mX6_readProduct : x_cok mX6_readProduct 1 := ⟨ini_X6, x_tb_in (List.mem_of_getElem? (i := 968) rfl) rfl, ⟨by decide, by decide, by decide +kernel⟩, by decide⟩
theorem vok_mX6_readProduct : x_vok mX6_readProduct 1 := ⟨cok_mX6_readProduct, x_tb_in (List.mem_of_getElem? (i := 967) (by decide +kernel)) (by decide +kernel), x_tb_in (List.mem_of_getElem? (i := 19) (by decide +kernel)) (by decide +kernel), rfl⟩
set_option maxRecDepth 100000 in
theorem cok_mX6_readSum : x_cok mX6_readSum 1 := ⟨ini_X6, x_tb_in (List.mem_of_getElem? (i := 964) rfl) rfl, ⟨by decide, by decide, by decide +kernel⟩, by decide⟩
theorem vok_mX6_readSum : x_vok mX6_readSum 1 := ⟨cok_mX6_readSum, x_tb_in (List.mem_of_getElem? (i := 963) (by decide +kernel)) (by decide +kernel), x_tb_in (List.mem_of_getElem? (i := 18) (by decide +kernel)) (by decide +kernel), rfl⟩
set_option maxRecDepth 100000 in
theorem cok_mX6_refuse : x_cok mX6_refuse 1 := ⟨ini_X6, x_tb_in (List.mem_of_getElem? (i := 955) rfl) rfl, ⟨by decide, by decide, by decide +kernel⟩, by decide⟩
theorem vok_mX6_refuse : x_vok mX6_refuse 1 := ⟨cok_mX6_refuse, x_tb_in (List.mem_of_getElem? (i := 954) (by decide +kernel)) (by decide +kernel), x_tb_in (List.mem_of_getElem? (i := 17) (by decide +kernel)) (by decide +kernel), rfl⟩
set_option maxRecDepth 100000 in
theorem cok_mX7_copyFrom : x_cok mX7_copyFrom 1 := ⟨ini_X7, x_tb_in (List.mem_of_getElem? (i := 1342) rfl) rfl, ⟨by decide, by decide, by decide +kernel⟩, by decide⟩
theorem vok_mX7_copyFrom : x_vok mX7_copyFrom 1 := ⟨cok_mX7_copyFrom, x_tb_in (List.mem_of_getElem? (i := 1340) (by decide +kernel)) (by decide +kernel), x_tb_in (List.mem_of_getElem? (i := 1341) (by decide +kernel)) (by decide +kernel), rfl⟩
set_option maxRecDepth 100000 in
theorem cok_mX7_dayAt : x_cok mX7_dayAt 1 := ⟨ini_X7, x_tb_in (List.mem_of_getElem? (i := 608) rfl) rfl, ⟨by decide, by decide, by decide +kernel⟩, by decide⟩
theorem vok_mX7_dayAt : x_vok mX7_dayAt 1 := ⟨cok_mX7_dayAt, x_tb_in (List.mem_of_getElem? (i := 607) (by decide +kernel)) (by decide +kernel), x_tb_in (List.mem_of_getElem? (i := 2) (by decide +kernel)) (by decide +kernel), rfl⟩
set_option maxRecDepth 100000 in
theorem cok_mX7_keep : x_cok mX7_keep 1 := ⟨ini_X7, x_tb_in (List.mem_of_getElem? (i := 604) rfl) rfl, ⟨by decide, by decide, by decide +kernel⟩, by decide⟩
theorem vok_mX7_keep : x_vok mX7_keep 1 := ⟨cok_mX7_keep, x_tb_in (List.mem_of_getElem? (i := 602) (by decide +kernel)) (by decide +kernel), x_tb_in (List.mem_of_getElem? (i := 603) (by decide +kernel)) (by decide +kernel), rfl⟩
set_option maxRecDepth 100000 in
theorem cok_mX7_takeBack : x_cok mX7_takeBack 1 := ⟨ini_X7, x_tb_in (List.mem_of_getElem? (i := 1081) rfl) rfl, ⟨by decide, by decide, by decide +kernel⟩, by decide⟩
theorem vok_mX7_takeBack : x_vok mX7_takeBack 1 := ⟨cok_mX7_takeBack, x_tb_in (List.mem_of_getElem? (i := 1079) (by decide +kernel)) (by decide +kernel), x_tb_in (List.mem_of_getElem? (i := 1080) (by decide +kernel)) (by decide +kernel), rfl⟩
set_option maxRecDepth 100000 in
theorem cok_mX8_addFour : x_cok mX8_addFour 1 := ⟨ini_X8, x_tb_in (List.mem_of_getElem? (i := 787) rfl) rfl, ⟨by decide, by decide, by decide +kernel⟩, by decide⟩
theorem vok_mX8_addFour : x_vok mX8_addFour 1 := ⟨cok_mX8_addFour, x_tb_in (List.mem_of_getElem? (i := 785) (by decide +kernel)) (by decide +kernel), x_tb_in (List.mem_of_getElem? (i := 786) (by decide +kernel)) (by decide +kernel), rfl⟩
set_option maxRecDepth 100000 in
theorem cok_mX8_byteAt : x_cok mX8_byteAt 1 := ⟨ini_X8, x_tb_in (List.mem_of_getElem? (i := 811) rfl) rfl, ⟨by decide, by decide, by decide +kernel⟩, by decide⟩
theorem vok_mX8_byteAt : x_vok mX8_byteAt 1 := ⟨cok_mX8_byteAt, x_tb_in (List.mem_of_getElem? (i := 810) (by decide +kernel)) (by decide +kernel), x_tb_in (List.mem_of_getElem? (i := 10) (by decide +kernel)) (by decide +kernel), rfl⟩
set_option maxRecDepth 100000 in
theorem cok_mX8_cut : x_cok mX8_cut 0 := ⟨ini_X8, x_tb_in (List.mem_of_getElem? (i := 807) rfl) rfl, ⟨by decide, by decide, by decide +kernel⟩, by decide⟩
theorem vok_mX8_cut : x_vok mX8_cut 0 := ⟨cok_mX8_cut, x_tb_in (List.mem_of_getElem? (i := 805) (by decide +kernel)) (by decide +kernel), x_tb_in (List.mem_of_getElem? (i := 806) (by decide +kernel)) (by decide +kernel), rfl⟩
set_option maxRecDepth 100000 in
theorem cok_mX8_cutNumber : x_cok mX8_cutNumber 1 := ⟨ini_X8, x_tb_in (List.mem_of_getElem? (i := 882) rfl) rfl, ⟨by decide, by decide, by decide +kernel⟩, by decide⟩
theorem vok_mX8_cutNumber : x_vok mX8_cutNumber 1 := ⟨cok_mX8_cutNumber, x_tb_in (List.mem_of_getElem? (i := 881) (by decide +kernel)) (by decide +kernel), x_tb_in (List.mem_of_getElem? (i := 14) (by decide +kernel)) (by decide +kernel), rfl⟩
set_option maxRecDepth 100000 in
theorem cok_mX8_cutSign : x_cok mX8_cutSign 1 := ⟨ini_X8, x_tb_in (List.mem_of_getElem? (i := 887) rfl) rfl, ⟨by decide, by decide, by decide +kernel⟩, by decide⟩
theorem vok_mX8_cutSign : x_vok mX8_cutSign 1 := ⟨cok_mX8_cutSign, x_tb_in (List.mem_of_getElem? (i := 886) (by decide +kernel)) (by decide +kernel), x_tb_in (List.mem_of_getElem? (i := 15) (by decide +kernel)) (by decide +kernel), rfl⟩
set_option maxRecDepth 100000 in
theorem cok_mX8_cutWord : x_cok mX8_cutWord 1 := ⟨ini_X8, x_tb_in (List.mem_of_getElem? (i := 818) rfl) rfl, ⟨by decide, by decide, by decide +kernel⟩, by decide⟩
theorem vok_mX8_cutWord : x_vok mX8_cutWord 1 := ⟨cok_mX8_cutWord, x_tb_in (List.mem_of_getElem? (i := 817) (by decide +kernel)) (by decide +kernel), x_tb_in (List.mem_of_getElem? (i := 11) (by decide +kernel)) (by decide +kernel), rfl⟩
set_option maxRecDepth 100000 in
theorem cok_mX8_isDigit : x_cok mX8_isDigit 1 := ⟨ini_X8, x_tb_in (List.mem_of_getElem? (i := 878) rfl) rfl, ⟨by decide, by decide, by decide +kernel⟩, by decide⟩
theorem stt_mX8_isDigit : Cond.static mX8_isDigit.1 ∈ x_tb := x_tb_in (List.mem_of_getElem? (i := 877) (by decide +kernel)) (by decide +kernel)
set_option maxRecDepth 100000 in
theorem cok_mX8_isLetter : x_cok mX8_isLetter 1 := ⟨ini_X8, x_tb_in (List.mem_of_getElem? (i := 814) rfl) rfl, ⟨by decide, by decide, by decide +kernel⟩, by decide⟩
theorem stt_mX8_isLetter : Cond.static mX8_isLetter.1 ∈ x_tb := x_tb_in (List.mem_of_getElem? (i := 813) (by decide +kernel)) (by decide +kernel)
set_option maxRecDepth 100000 in
theorem cok_mX8_kindAt : x_cok mX8_kindAt 1 := ⟨ini_X8, x_tb_in (List.mem_of_getElem? (i := 947) rfl) rfl, ⟨by decide, by decide, by decide +kernel⟩, by decide⟩
theorem vok_mX8_kindAt : x_vok mX8_kindAt 1 := ⟨cok_mX8_kindAt, x_tb_in (List.mem_of_getElem? (i := 945) (by decide +kernel)) (by decide +kernel), x_tb_in (List.mem_of_getElem? (i := 946) (by decide +kernel)) (by decide +kernel), rfl⟩
set_option maxRecDepth 100000 in
theorem cok_mX8_note : x_cok mX8_note 3 := ⟨ini_X8, x_tb_in (List.mem_of_getElem? (i := 875) rfl) rfl, ⟨by decide, by decide, by decide +kernel⟩, by decide⟩
theorem vok_mX8_note : x_vok mX8_note 3 := ⟨cok_mX8_note, x_tb_in (List.mem_of_getElem? (i := 874) (by decide +kernel)) (by decide +kernel), x_tb_in (List.mem_of_getElem? (i := 13) (by decide +kernel)) (by decide +kernel), rfl⟩
set_option maxRecDepth 100000 in
theorem cok_mX8_placeAt : x_cok mX8_placeAt 1 := ⟨ini_X8, x_tb_in (List.mem_of_getElem? (i := 959) rfl) rfl, ⟨by decide, by decide, by decide +kernel⟩, by decide⟩
theorem vok_mX8_placeAt : x_vok mX8_placeAt 1 := ⟨cok_mX8_placeAt, x_tb_in (List.mem_of_getElem? (i := 957) (by decide +kernel)) (by decide +kernel), x_tb_in (List.mem_of_getElem? (i := 958) (by decide +kernel)) (by decide +kernel), rfl⟩
set_option maxRecDepth 100000 in
theorem cok_mX8_valueAt : x_cok mX8_valueAt 1 := ⟨ini_X8, x_tb_in (List.mem_of_getElem? (i := 980) rfl) rfl, ⟨by decide, by decide, by decide +kernel⟩, by decide⟩
theorem vok_mX8_valueAt : x_vok mX8_valueAt 1 := ⟨cok_mX8_valueAt, x_tb_in (List.mem_of_getElem? (i := 978) (by decide +kernel)) (by decide +kernel), x_tb_in (List.mem_of_getElem? (i := 979) (by decide +kernel)) (by decide +kernel), rfl⟩
set_option maxRecDepth 100000 in
theorem cok_mX8_wordOf : x_cok mX8_wordOf 2 := ⟨ini_X8, x_tb_in (List.mem_of_getElem? (i := 822) rfl) rfl, ⟨by decide, by decide, by decide +kernel⟩, by decide⟩
theorem vok_mX8_wordOf : x_vok mX8_wordOf 2 := ⟨cok_mX8_wordOf, x_tb_in (List.mem_of_getElem? (i := 821) (by decide +kernel)) (by decide +kernel), x_tb_in (List.mem_of_getElem? (i := 12) (by decide +kernel)) (by decide +kernel), rfl⟩
set_option maxRecDepth 100000 in
theorem cok_mX9_addClause : x_cok mX9_addClause 4 := ⟨ini_X9, x_tb_in (List.mem_of_getElem? (i := 1037) rfl) rfl, ⟨by decide, by decide, by decide +kernel⟩, by decide⟩
theorem vok_mX9_addClause : x_vok mX9_addClause 4 := ⟨cok_mX9_addClause, x_tb_in (List.mem_of_getElem? (i := 1035) (by decide +kernel)) (by decide +kernel), x_tb_in (List.mem_of_getElem? (i := 1036) (by decide +kernel)) (by decide +kernel), rfl⟩
set_option maxRecDepth 100000 in
theorem cok_mX9_ask : x_cok mX9_ask 2 := ⟨ini_X9, x_tb_in (List.mem_of_getElem? (i := 988) rfl) rfl, ⟨by decide, by decide, by decide +kernel⟩, by decide⟩
theorem vok_mX9_ask : x_vok mX9_ask 2 := ⟨cok_mX9_ask, x_tb_in (List.mem_of_getElem? (i := 986) (by decide +kernel)) (by decide +kernel), x_tb_in (List.mem_of_getElem? (i := 987) (by decide +kernel)) (by decide +kernel), rfl⟩
set_option maxRecDepth 100000 in
theorem cok_mX9_empty : x_cok mX9_empty 0 := ⟨ini_X9, x_tb_in (List.mem_of_getElem? (i := 803) rfl) rfl, ⟨by decide, by decide, by decide +kernel⟩, by decide⟩
theorem vok_mX9_empty : x_vok mX9_empty 0 := ⟨cok_mX9_empty, x_tb_in (List.mem_of_getElem? (i := 801) (by decide +kernel)) (by decide +kernel), x_tb_in (List.mem_of_getElem? (i := 802) (by decide +kernel)) (by decide +kernel), rfl⟩
set_option maxRecDepth 100000 in
theorem cok_mX9_givenAt : x_cok mX9_givenAt 1 := ⟨ini_X9, x_tb_in (List.mem_of_getElem? (i := 665) rfl) rfl, ⟨by decide, by decide, by decide +kernel⟩, by decide⟩
theorem vok_mX9_givenAt : x_vok mX9_givenAt 1 := ⟨cok_mX9_givenAt, x_tb_in (List.mem_of_getElem? (i := 663) (by decide +kernel)) (by decide +kernel), x_tb_in (List.mem_of_getElem? (i := 664) (by decide +kernel)) (by decide +kernel), rfl⟩
set_option maxRecDepth 100000 in
theorem cok_mX9_goOnHere : x_cok mX9_goOnHere 1 := ⟨ini_X9, x_tb_in (List.mem_of_getElem? (i := 1023) rfl) rfl, ⟨by decide, by decide, by decide +kernel⟩, by decide⟩
theorem vok_mX9_goOnHere : x_vok mX9_goOnHere 1 := ⟨cok_mX9_goOnHere, x_tb_in (List.mem_of_getElem? (i := 1021) (by decide +kernel)) (by decide +kernel), x_tb_in (List.mem_of_getElem? (i := 1022) (by decide +kernel)) (by decide +kernel), rfl⟩
set_option maxRecDepth 100000 in
theorem cok_mX9_hasLaw : x_cok mX9_hasLaw 1 := ⟨ini_X9, x_tb_in (List.mem_of_getElem? (i := 632) rfl) rfl, ⟨by decide, by decide, by decide +kernel⟩, by decide⟩
theorem vok_mX9_hasLaw : x_vok mX9_hasLaw 1 := ⟨cok_mX9_hasLaw, x_tb_in (List.mem_of_getElem? (i := 630) (by decide +kernel)) (by decide +kernel), x_tb_in (List.mem_of_getElem? (i := 631) (by decide +kernel)) (by decide +kernel), rfl⟩
set_option maxRecDepth 100000 in
theorem cok_mX9_lawEnd : x_cok mX9_lawEnd 1 := ⟨ini_X9, x_tb_in (List.mem_of_getElem? (i := 657) rfl) rfl, ⟨by decide, by decide, by decide +kernel⟩, by decide⟩
theorem vok_mX9_lawEnd : x_vok mX9_lawEnd 1 := ⟨cok_mX9_lawEnd, x_tb_in (List.mem_of_getElem? (i := 655) (by decide +kernel)) (by decide +kernel), x_tb_in (List.mem_of_getElem? (i := 656) (by decide +kernel)) (by decide +kernel), rfl⟩
set_option maxRecDepth 100000 in
theorem cok_mX9_lawStart : x_cok mX9_lawStart 1 := ⟨ini_X9, x_tb_in (List.mem_of_getElem? (i := 661) rfl) rfl, ⟨by decide, by decide, by decide +kernel⟩, by decide⟩
theorem vok_mX9_lawStart : x_vok mX9_lawStart 1 := ⟨cok_mX9_lawStart, x_tb_in (List.mem_of_getElem? (i := 659) (by decide +kernel)) (by decide +kernel), x_tb_in (List.mem_of_getElem? (i := 660) (by decide +kernel)) (by decide +kernel), rfl⟩
set_option maxRecDepth 100000 in
theorem cok_mX9_setLaw : x_cok mX9_setLaw 2 := ⟨ini_X9, x_tb_in (List.mem_of_getElem? (i := 1033) rfl) rfl, ⟨by decide, by decide, by decide +kernel⟩, by decide⟩
theorem vok_mX9_setLaw : x_vok mX9_setLaw 2 := ⟨cok_mX9_setLaw, x_tb_in (List.mem_of_getElem? (i := 1031) (by decide +kernel)) (by decide +kernel), x_tb_in (List.mem_of_getElem? (i := 1032) (by decide +kernel)) (by decide +kernel), rfl⟩
set_option maxRecDepth 100000 in
theorem cok_mX9_stepAt : x_cok mX9_stepAt 1 := ⟨ini_X9, x_tb_in (List.mem_of_getElem? (i := 669) rfl) rfl, ⟨by decide, by decide, by decide +kernel⟩, by decide⟩
theorem vok_mX9_stepAt : x_vok mX9_stepAt 1 := ⟨cok_mX9_stepAt, x_tb_in (List.mem_of_getElem? (i := 667) (by decide +kernel)) (by decide +kernel), x_tb_in (List.mem_of_getElem? (i := 668) (by decide +kernel)) (by decide +kernel), rfl⟩
end
section
section XO2
variable {d : Nat} {μ : x_M} {N0 : Nat} {Q : x_S → Option Value → Prop} {N pc : Nat} {L L' : List (Nat × Value)} {st : List Value} {σ : x_S}
theorem o_aloadN {k : Nat} (j : Nat) (hd : decode μ.2.1 pc = .ok (.aload k, 2)) (hL : L[j]? = some (k, .null)) (h : x_Wg d μ N0 Q N (pc + 2) L (.null :: st) σ) : x_Wg d μ N0 Q N pc L st σ := by
  intro l G p e s m args below meth c C h0 h1 h2 H locs ls hW hS hl
  exact lv_aloadN C.1 C.2.1 hd (x_lat hl hL) (h l G p e s m args below meth c C h0 h1 h2 H locs ls hW hS hl)
theorem o_astoreN {k : Nat} (hd : decode μ.2.1 pc = .ok (.astore k, 2)) (hn : k < μ.2.2.1) (hL : x_st1 k .null L = L') (h : x_Wg d μ N0 Q N (pc + 2) L' st σ) : x_Wg d μ N0 Q N pc L (.null :: st) σ := by
  intro l G p e s m args below meth c C h0 h1 h2 H locs ls hW hS hl
  exact lv_astoreN C.1 C.2.1 hd hl hn (x_st1_map rfl hL) (fun ls' hl' => h l G p e s m args below meth c C h0 h1 h2 H locs ls' hW hS hl')
theorem o_aloadR {k : Nat} {r : Option Nat} (j : Nat) (hd : decode μ.2.1 pc = .ok (.aload k, 2)) (hL : L[j]? = some (k, x_rf r)) (h : x_Wg d μ N0 Q N (pc + 2) L (x_rf r :: st) σ) : x_Wg d μ N0 Q N pc L st σ := by
  cases r with
  | none => exact o_aloadN j hd hL h
  | some c => exact o_aload j hd hL h
theorem o_astoreR {k : Nat} {r : Option Nat} (hd : decode μ.2.1 pc = .ok (.astore k, 2)) (hn : k < μ.2.2.1) (hL : x_st1 k (x_rf r) L = L') (h : x_Wg d μ N0 Q N (pc + 2) L' st σ) : x_Wg d μ N0 Q N pc L (x_rf r :: st) σ := by
  cases r with
  | none => exact o_astoreN hd hn hL h
  | some c => exact o_astore hd hn hL h
end XO2
theorem x_neS {x : Int32} {n : Int32} {z : Int} (hz : n.toInt = z) (h : ¬ x = n) : ¬ z = x.toInt := fun q => x_ne hz h q.symm
end
section
section XCT
variable {d : Nat} {μ : x_M} {N0 : Nat} {Q : x_S → Option Value → Prop} {N pc : Nat} {L L' : List (Nat × Value)} {st st' : List Value} {σ : x_S}
theorem x_el_nw {G : x_G} {c a : Nat} (h : a ≠ c) : x_el G (x_nw σ c) a = x_el G σ a := by
  have h1 : (x_nw σ c).1 a = σ.1 a := by funext b; simp [x_nw, h]
  have h2 : (x_nw σ c).2.1 a = σ.2.1 a := by funext b; simp [x_nw, h]
  have h3 : (x_nw σ c).2.2 a = σ.2.2 a := by funext b; simp [x_nw, h]
  have h4 : ∀ ty b, x_av ty (x_nw σ c) a b = x_av ty σ a b := by
    intro ty b
    unfold x_av
    split
    · rw [h1]
    · rw [h2]
    · rw [h3]
  unfold x_el
  simp only [h1, h2, h3, h4]
def x_okty (ty : FieldType) : Bool := match ty with
  | .int => true
  | .long => true
  | .array _ => true
  | .object _ => true
  | _ => false
theorem x_dflt {z c k : Nat} {ty : FieldType} (h : x_okty ty = true) : x_ad z (x_av ty (x_nw σ c) c k) = defaultValue ty := by
  cases ty <;> first | (simp [x_okty] at h; done) | (simp [x_av, x_nw, x_ad, x_rf, defaultValue])
theorem x_tyok {t : Nat} {C : String} {T : u_T} {n : Nat} (hc : vwCl[t]? = some (C, T, n)) : ∀ k, k < n → x_okty (x_ty t k) = true := by
  match t, hc with
  | 0, hc => cases hc; decide +kernel
  | 1, hc => cases hc; decide +kernel
  | 2, hc => cases hc; decide +kernel
  | 3, hc => cases hc; decide +kernel
  | 4, hc => cases hc; decide +kernel
  | 5, hc => cases hc; decide +kernel
  | 6, hc => cases hc; decide +kernel
  | 7, hc => cases hc; decide +kernel
  | 8, hc => cases hc; decide +kernel
  | 9, hc => cases hc; decide +kernel
  | 10, hc => cases hc; decide +kernel
  | 11, hc => cases hc; decide +kernel
  | 12, hc => cases hc; decide +kernel
  | t + 13, hc => simp [vwCl] at hc
/-- the new cell's address -/
theorem x_newat {l : Launch} {G : x_G} {p : Program} {e : Env} {R : Room} {s T : State} {m : MethodId} {args : Array Value} {below : List Frame} {meth : Method} {c : Code} {k q : Nat} {H1 : Heap} {locs : List Loc} {en : va_E} (X : x_Cx l G p e s m args meth c μ N0) (Y : Stand p l e R s m args below meth c T locs (N - N0 + 1) k) (hT : T.heap = H1) (h0 : N0 ≤ N)
    (hP : va_P G.1 vwCl (x_ws G N σ ++ [(q, en)]) H1) (hD : va_D (x_A G) (x_ws G N σ ++ [(q, en)])) : q = G.2.2.1 + N := by
  have h1 : T.heap.size ≤ s.heap.size + (N - N0 + 1) := Y.same.2.2.1
  have h2 : s.heap.size = G.2.2.1 + N0 := X.2.2.2.2.2.2.2.2.2
  rw [hT, h2] at h1
  have hlen : (x_ws G N σ).length = N := by unfold x_ws; rw [List.length_map, List.length_range]
  have hq : (x_ws G N σ ++ [(q, en)])[N]? = some (q, en) := by rw [List.getElem?_append_right (by omega), hlen, Nat.sub_self]; rfl
  have h3 := (hP N _ hq).lt
  have h3 : q < H1.size := h3
  have h4 : G.2.2.1 ≤ q := hD.2 N _ hq
  rcases Nat.lt_or_ge q (G.2.2.1 + N) with h5 | h5
  · exfalso
    have h6 : q - G.2.2.1 < N := by omega
    have h7 : (x_ws G N σ ++ [(q, en)])[q - G.2.2.1]? = some (G.2.2.1 + (q - G.2.2.1), x_el G σ (q - G.2.2.1)) := by rw [List.getElem?_append_left (by omega)]; exact x_ws_at h6
    have h8 := hD.1 _ _ _ _ h7 hq (by show G.2.2.1 + (q - G.2.2.1) = q; omega)
    omega
  · omega
set_option maxHeartbeats 4000000 in
theorem o_new {t n i : Nat} {C : String} {T : u_T} (hd : decode μ.2.1 pc = .ok (.new i, 3)) (hw : Cond.classLink μ.1.cls i C ∈ x_tb) (hi : Cond.instantiable C n ∈ x_tb) (hii : Cond.initialized C ∈ x_tb) (hs : x_sh N = (t, n)) (hc : vwCl[t]? = some (C, T, n)) (hb : N + 1 ≤ N0 + μ.2.2.2.2.1) (hbs : x_sl N + n ≤ x_sl N0 + μ.2.2.2.2.2)
    (h : x_Wg d μ N0 Q (N + 1) (pc + 3) L (.ref N :: st) (x_nw σ N)) : x_Wg d μ N0 Q N pc L st σ := by
  intro l G p e s m args below meth c X h0 h1 h2 H locs ls hW hS hl
  have hsl : x_sl (N + 1) = x_sl N + n := by show x_sl N + (x_sh N).2 = _; rw [hs]
  have hle := x_sl_le h0
  refine va_new (Ts := x_w μ) (ci := t) (fs := (List.range n).map (fun k => x_ad G.2.2.1 (x_av (x_ty t k) (x_nw σ N) N k))) X.1 X.2.1 X.2.2.2.2.2.2.2.1 (fun w h => List.mem_cons_of_mem _ (x_inX hc w h)) (x_ty t) (x_tyX hc) X.2.2.2.2.1 (x_word X hw) (x_word X hi) (x_word X hii) X.2.2.2.2.2.2.2.2.1.1 hW x_D hS (fun q hq => by show G.2.2.1 ≤ q; have := X.2.2.2.2.2.2.2.2.2; omega) hc ?_ (by show N - N0 + 1 ≤ μ.2.2.2.2.1; omega) (by show x_sl N - x_sl N0 + n ≤ μ.2.2.2.2.2; omega) hd ?_
  · intro j hj
    show _ = vp_V _ j
    unfold vp_V
    rw [List.getD_eq_getElem?_getD, List.getElem?_map, List.getElem?_range hj]
    exact (x_dflt (x_tyok hc j hj)).symm
  · intro q H1 hP1 hD1 hS1 T0 hT0 Y
    have hq := x_newat X Y hT0 h0 hP1 hD1
    subst hq
    rw [x_ws_new (σ' := x_nw σ N) (by rw [x_el_o hs (x_t13 hc)]) (fun a ha => x_el_nw (by omega))] at hP1
    have k := h l G p e s m args below meth c X (by omega) hb (by rw [hsl]; exact hbs) H1 locs ls hP1 hS1 hl
    rw [show N + 1 - N0 = N - N0 + 1 by omega, hsl, show x_sl N + n - x_sl N0 = x_sl N - x_sl N0 + n by omega] at k
    exact k T0 hT0 Y
theorem x_arrcls {ty : FieldType} {s : State} {cA cB : ClassId} (hty : ∀ C, ty ≠ .object C) (h1 : va_RA s cA ty) (h2 : va_RA s cB ty) : cA = cB := by
  cases ty <;> first | exact Option.some.inj (h1.symm.trans h2) | exact absurd rfl (hty _)
set_option maxHeartbeats 4000000 in
theorem o_newaI {n : Nat} {i : Int32} (hd : decode μ.2.1 pc = .ok (.newarray .int, 2)) (hw : Cond.arrayClass .int ∈ x_tb) (hs : x_sh N = (20, n)) (hn : ¬ i < 0) (hi : i.toNatClampNeg = n) (hsz : n ≤ 10000) (hb : N + 1 ≤ N0 + μ.2.2.2.2.1) (hbs : x_sl N + n ≤ x_sl N0 + μ.2.2.2.2.2)
    (h : x_Wg d μ N0 Q (N + 1) (pc + 2) L (.ref N :: st) (x_nw σ N)) : x_Wg d μ N0 Q N pc L (.int i :: st) σ := by
  intro l G p e s m args below meth c X h0 h1 h2 H locs ls hW hS hl
  have hsl : x_sl (N + 1) = x_sl N + n := by show x_sl N + (x_sh N).2 = _; rw [hs]
  have hle := x_sl_le h0
  have hby : n * componentBytes .int ≤ 536870912 := by
    have h8 : componentBytes .int ≤ 8 := by decide
    have := Nat.mul_le_mul hsz h8
    omega
  refine va_newa (atype := .int) (ty := .int) (a0 := (n, .inl (fun _ => 0))) (N' := n) X.1 X.2.1 (x_word X hw) rfl X.2.2.2.2.2.2.2.2.1.1 hW x_D hS (fun q hq => by show G.2.2.1 ≤ q; have := X.2.2.2.2.2.2.2.2.2; omega) (fun _ => rfl) hn hi hby (by show N - N0 + 1 ≤ μ.2.2.2.2.1; omega) (by show x_sl N - x_sl N0 + n ≤ μ.2.2.2.2.2; omega) hd ?_
  intro q cA H1 hK1 hP1 hD1 hS1 T0 hT0 Y
  have hq := x_newat X Y hT0 h0 hP1 hD1
  subst hq
  have hcA : cA = G.2.1 0 := x_arrcls (ty := .int) (fun _ => nofun) (hK1.2 5 _ rfl).2 (X.2.2.2.2.2.2.2.2.1.1.2 0 _ rfl).2
  subst hcA
  rw [x_ws_new (σ' := x_nw σ N) (by rw [x_el_i hs]; simp [x_nw]) (fun a ha => x_el_nw (by omega))] at hP1
  have k := h l G p e s m args below meth c X (by omega) hb (by rw [hsl]; exact hbs) H1 locs ls hP1 hS1 hl
  rw [show N + 1 - N0 = N - N0 + 1 by omega, hsl, show x_sl N + n - x_sl N0 = x_sl N - x_sl N0 + n by omega] at k
  exact k T0 hT0 Y
set_option maxHeartbeats 4000000 in
theorem o_newaB {n : Nat} {i : Int32} (hd : decode μ.2.1 pc = .ok (.newarray .byte, 2)) (hw : Cond.arrayClass .byte ∈ x_tb) (hs : x_sh N = (21, n)) (hn : ¬ i < 0) (hi : i.toNatClampNeg = n) (hsz : n ≤ 10000) (hb : N + 1 ≤ N0 + μ.2.2.2.2.1) (hbs : x_sl N + n ≤ x_sl N0 + μ.2.2.2.2.2)
    (h : x_Wg d μ N0 Q (N + 1) (pc + 2) L (.ref N :: st) (x_nw σ N)) : x_Wg d μ N0 Q N pc L (.int i :: st) σ := by
  intro l G p e s m args below meth c X h0 h1 h2 H locs ls hW hS hl
  have hsl : x_sl (N + 1) = x_sl N + n := by show x_sl N + (x_sh N).2 = _; rw [hs]
  have hle := x_sl_le h0
  have hby : n * componentBytes .byte ≤ 536870912 := by
    have h8 : componentBytes .byte ≤ 8 := by decide
    have := Nat.mul_le_mul hsz h8
    omega
  refine va_newa (atype := .byte) (ty := .byte) (a0 := (n, .inl (fun _ => 0))) (N' := n) X.1 X.2.1 (x_word X hw) rfl X.2.2.2.2.2.2.2.2.1.1 hW x_D hS (fun q hq => by show G.2.2.1 ≤ q; have := X.2.2.2.2.2.2.2.2.2; omega) (fun _ => rfl) hn hi hby (by show N - N0 + 1 ≤ μ.2.2.2.2.1; omega) (by show x_sl N - x_sl N0 + n ≤ μ.2.2.2.2.2; omega) hd ?_
  intro q cA H1 hK1 hP1 hD1 hS1 T0 hT0 Y
  have hq := x_newat X Y hT0 h0 hP1 hD1
  subst hq
  have hcA : cA = G.2.1 1 := x_arrcls (ty := .byte) (fun _ => nofun) (hK1.2 5 _ rfl).2 (X.2.2.2.2.2.2.2.2.1.1.2 1 _ rfl).2
  subst hcA
  rw [x_ws_new (σ' := x_nw σ N) (by rw [x_el_b hs]; simp [x_nw]) (fun a ha => x_el_nw (by omega))] at hP1
  have k := h l G p e s m args below meth c X (by omega) hb (by rw [hsl]; exact hbs) H1 locs ls hP1 hS1 hl
  rw [show N + 1 - N0 = N - N0 + 1 by omega, hsl, show x_sl N + n - x_sl N0 = x_sl N - x_sl N0 + n by omega] at k
  exact k T0 hT0 Y
set_option maxHeartbeats 4000000 in
theorem o_newaJ {n : Nat} {i : Int32} (hd : decode μ.2.1 pc = .ok (.newarray .long, 2)) (hw : Cond.arrayClass .long ∈ x_tb) (hs : x_sh N = (22, n)) (hn : ¬ i < 0) (hi : i.toNatClampNeg = n) (hsz : n ≤ 10000) (hb : N + 1 ≤ N0 + μ.2.2.2.2.1) (hbs : x_sl N + n ≤ x_sl N0 + μ.2.2.2.2.2)
    (h : x_Wg d μ N0 Q (N + 1) (pc + 2) L (.ref N :: st) (x_nw σ N)) : x_Wg d μ N0 Q N pc L (.int i :: st) σ := by
  intro l G p e s m args below meth c X h0 h1 h2 H locs ls hW hS hl
  have hsl : x_sl (N + 1) = x_sl N + n := by show x_sl N + (x_sh N).2 = _; rw [hs]
  have hle := x_sl_le h0
  have hby : n * componentBytes .long ≤ 536870912 := by
    have h8 : componentBytes .long ≤ 8 := by decide
    have := Nat.mul_le_mul hsz h8
    omega
  refine va_newa (atype := .long) (ty := .long) (a0 := (n, .inr (.inl (fun _ => 0)))) (N' := n) X.1 X.2.1 (x_word X hw) rfl X.2.2.2.2.2.2.2.2.1.1 hW x_D hS (fun q hq => by show G.2.2.1 ≤ q; have := X.2.2.2.2.2.2.2.2.2; omega) (fun _ => rfl) hn hi hby (by show N - N0 + 1 ≤ μ.2.2.2.2.1; omega) (by show x_sl N - x_sl N0 + n ≤ μ.2.2.2.2.2; omega) hd ?_
  intro q cA H1 hK1 hP1 hD1 hS1 T0 hT0 Y
  have hq := x_newat X Y hT0 h0 hP1 hD1
  subst hq
  have hcA : cA = G.2.1 2 := x_arrcls (ty := .long) (fun _ => nofun) (hK1.2 5 _ rfl).2 (X.2.2.2.2.2.2.2.2.1.1.2 2 _ rfl).2
  subst hcA
  rw [x_ws_new (σ' := x_nw σ N) (by rw [x_el_l hs]; simp [x_nw]) (fun a ha => x_el_nw (by omega))] at hP1
  have k := h l G p e s m args below meth c X (by omega) hb (by rw [hsl]; exact hbs) H1 locs ls hP1 hS1 hl
  rw [show N + 1 - N0 = N - N0 + 1 by omega, hsl, show x_sl N + n - x_sl N0 = x_sl N - x_sl N0 + n by omega] at k
  exact k T0 hT0 Y
set_option maxHeartbeats 4000000 in
theorem o_anewaT {n j : Nat} {i : Int32} (hd : decode μ.2.1 pc = .ok (.anewarray j, 3)) (hw : Cond.classLink μ.1.cls j "NoonOnABarrow$Text" ∈ x_tb) (hs : x_sh N = (23, n)) (hn : ¬ i < 0) (hi : i.toNatClampNeg = n) (hsz : n ≤ 10000) (hb : N + 1 ≤ N0 + μ.2.2.2.2.1) (hbs : x_sl N + n ≤ x_sl N0 + μ.2.2.2.2.2)
    (h : x_Wg d μ N0 Q (N + 1) (pc + 3) L (.ref N :: st) (x_nw σ N)) : x_Wg d μ N0 Q N pc L (.int i :: st) σ := by
  intro l G p e s m args below meth c X h0 h1 h2 H locs ls hW hS hl
  have hsl : x_sl (N + 1) = x_sl N + n := by show x_sl N + (x_sh N).2 = _; rw [hs]
  have hle := x_sl_le h0
  refine va_newq (N' := n) (C := "NoonOnABarrow$Text") X.1 X.2.1 X.2.2.2.2.1 (x_word X hw) X.2.2.2.2.2.2.2.2.1.2.2.2.2.2.2.2.2.2.1 X.2.2.2.2.2.2.2.2.1.1 hW x_D hS (fun q hq => by show G.2.2.1 ≤ q; have := X.2.2.2.2.2.2.2.2.2; omega) hn hi (by omega) (by show N - N0 + 1 ≤ μ.2.2.2.2.1; omega) (by show x_sl N - x_sl N0 + n ≤ μ.2.2.2.2.2; omega) hd ?_
  intro q cA H1 hK1 hP1 hD1 hS1 T0 hT0 Y
  have hq := x_newat X Y hT0 h0 hP1 hD1
  subst hq
  have hcA : cA = G.2.1 3 := by
    obtain ⟨_, _, _, _, _, f1⟩ := (hK1.2 5 _ rfl).2
    obtain ⟨_, _, _, _, _, f2⟩ := (X.2.2.2.2.2.2.2.2.1.1.2 3 _ rfl).2
    exact Option.some.inj (f1.symm.trans f2)
  subst hcA
  rw [x_ws_new (σ' := x_nw σ N) (by rw [x_el_t hs]; simp [x_nw]) (fun a ha => x_el_nw (by omega))] at hP1
  have k := h l G p e s m args below meth c X (by omega) hb (by rw [hsl]; exact hbs) H1 locs ls hP1 hS1 hl
  rw [show N + 1 - N0 = N - N0 + 1 by omega, hsl, show x_sl N + n - x_sl N0 = x_sl N - x_sl N0 + n by omega] at k
  exact k T0 hT0 Y
theorem o_aastT {o v n n1 t : Nat} {i : Int32} {q : vw_C} (hd : decode μ.2.1 pc = .ok (.aastore, 1)) (hs : x_sh o = (23, n)) (ho : o < N) (hi : vp_in i n) (hv : x_sh v = (t, n1)) (hvN : v < N) (hc : vwCl[t]? = some q) (hq : q.1 = "NoonOnABarrow$Text") (h : x_Wg d μ N0 Q N (pc + 1) L st (x_wr σ o i.toNatClampNeg (some v))) : x_Wg d μ N0 Q N pc L (.ref v :: .int i :: .ref o :: st) σ := by
  intro l G p e s m args below meth c X h0 h1 h2 H locs ls hW hS hl
  refine va_astq (H0 := s.heap) (r := q) X.1 X.2.1 X.2.2.2.2.2.2.2.2.1.1 hW x_D hS o 3 v t (by rw [x_ws_at ho, x_el_t hs]) (by rw [hq]; rfl) (by rw [x_ws_at hvN, x_el_o hv (x_t13 hc)]) hc hi hd (fun H1 locs1 hP1 hD1 hS1 => ?_)
  refine h l G p e s m args below meth c X h0 h1 h2 H1 locs1 ls ?_ hS1 hl
  rw [x_ws_set (σ' := x_wr σ o i.toNatClampNeg (some v)) ho] at hP1
  · exact hP1
  · rw [x_el_t hs]
    congr 7
    funext b
    simp only [x_wr, va_up]
    by_cases hb : b = i.toNatClampNeg
    · simp [hb]
    · simp [hb]
  · intro a ha; exact x_el_wr ha
set_option maxHeartbeats 4000000 in
theorem o_anewaD {n j : Nat} {i : Int32} (hd : decode μ.2.1 pc = .ok (.anewarray j, 3)) (hw : Cond.classLink μ.1.cls j "NoonOnABarrow$Day" ∈ x_tb) (hs : x_sh N = (24, n)) (hn : ¬ i < 0) (hi : i.toNatClampNeg = n) (hsz : n ≤ 10000) (hb : N + 1 ≤ N0 + μ.2.2.2.2.1) (hbs : x_sl N + n ≤ x_sl N0 + μ.2.2.2.2.2)
    (h : x_Wg d μ N0 Q (N + 1) (pc + 3) L (.ref N :: st) (x_nw σ N)) : x_Wg d μ N0 Q N pc L (.int i :: st) σ := by
  intro l G p e s m args below meth c X h0 h1 h2 H locs ls hW hS hl
  have hsl : x_sl (N + 1) = x_sl N + n := by show x_sl N + (x_sh N).2 = _; rw [hs]
  have hle := x_sl_le h0
  refine va_newq (N' := n) (C := "NoonOnABarrow$Day") X.1 X.2.1 X.2.2.2.2.1 (x_word X hw) X.2.2.2.2.2.2.2.2.1.2.2.2.2.2.2.2.2.2.2 X.2.2.2.2.2.2.2.2.1.1 hW x_D hS (fun q hq => by show G.2.2.1 ≤ q; have := X.2.2.2.2.2.2.2.2.2; omega) hn hi (by omega) (by show N - N0 + 1 ≤ μ.2.2.2.2.1; omega) (by show x_sl N - x_sl N0 + n ≤ μ.2.2.2.2.2; omega) hd ?_
  intro q cA H1 hK1 hP1 hD1 hS1 T0 hT0 Y
  have hq := x_newat X Y hT0 h0 hP1 hD1
  subst hq
  have hcA : cA = G.2.1 4 := by
    obtain ⟨_, _, _, _, _, f1⟩ := (hK1.2 5 _ rfl).2
    obtain ⟨_, _, _, _, _, f2⟩ := (X.2.2.2.2.2.2.2.2.1.1.2 4 _ rfl).2
    exact Option.some.inj (f1.symm.trans f2)
  subst hcA
  rw [x_ws_new (σ' := x_nw σ N) (by rw [x_el_d hs]; simp [x_nw]) (fun a ha => x_el_nw (by omega))] at hP1
  have k := h l G p e s m args below meth c X (by omega) hb (by rw [hsl]; exact hbs) H1 locs ls hP1 hS1 hl
  rw [show N + 1 - N0 = N - N0 + 1 by omega, hsl, show x_sl N + n - x_sl N0 = x_sl N - x_sl N0 + n by omega] at k
  exact k T0 hT0 Y
theorem o_aastD {o v n n1 t : Nat} {i : Int32} {q : vw_C} (hd : decode μ.2.1 pc = .ok (.aastore, 1)) (hs : x_sh o = (24, n)) (ho : o < N) (hi : vp_in i n) (hv : x_sh v = (t, n1)) (hvN : v < N) (hc : vwCl[t]? = some q) (hq : q.1 = "NoonOnABarrow$Day") (h : x_Wg d μ N0 Q N (pc + 1) L st (x_wr σ o i.toNatClampNeg (some v))) : x_Wg d μ N0 Q N pc L (.ref v :: .int i :: .ref o :: st) σ := by
  intro l G p e s m args below meth c X h0 h1 h2 H locs ls hW hS hl
  refine va_astq (H0 := s.heap) (r := q) X.1 X.2.1 X.2.2.2.2.2.2.2.2.1.1 hW x_D hS o 4 v t (by rw [x_ws_at ho, x_el_d hs]) (by rw [hq]; rfl) (by rw [x_ws_at hvN, x_el_o hv (x_t13 hc)]) hc hi hd (fun H1 locs1 hP1 hD1 hS1 => ?_)
  refine h l G p e s m args below meth c X h0 h1 h2 H1 locs1 ls ?_ hS1 hl
  rw [x_ws_set (σ' := x_wr σ o i.toNatClampNeg (some v)) ho] at hP1
  · exact hP1
  · rw [x_el_d hs]
    congr 7
    funext b
    simp only [x_wr, va_up]
    by_cases hb : b = i.toNatClampNeg
    · simp [hb]
    · simp [hb]
  · intro a ha; exact x_el_wr ha
/-- a final field in its class's constructor -/
theorem o_putF {o t n k i r : Nat} {C : String} {T : u_T} {ty : FieldType} (hd : decode μ.2.1 pc = .ok (.putfield i, 3)) (hs : x_sh o = (t, n)) (ho : o < N) (hc : vwCl[t]? = some (C, T, n)) (hk : k < n) (hf : (T k).2.2.2 = true) (hin : μ.1.name = "<init>") (hde : (T k).1 = μ.1.cls) (ht : x_ty t k = ty) (hty : (∃ C1, ty = .object C1) ∨ ∃ t1, ty = .array t1) (hw : Cond.fieldLink μ.1.cls i (T k).1 (T k).2.1 (T k).2.2.1 ∈ x_tb) (h : x_Wg d μ N0 Q N (pc + 3) L st (x_wr σ o k (some r))) : x_Wg d μ N0 Q N pc L (.ref r :: .ref o :: st) σ := by
  intro l G p e s m args below meth c X h0 h1 h2 H locs ls hW hS hl
  have hv : narrow ty (.ref (G.2.2.1 + r)) = .ref (G.2.2.1 + r) ∧ fits ty (.ref (G.2.2.1 + r)) = true := by rcases hty with ⟨_, rfl⟩ | ⟨_, rfl⟩ <;> exact ⟨rfl, rfl⟩
  refine va_putF (Ts := x_w μ) (v := .ref (G.2.2.1 + r)) (H0 := s.heap) X.1 X.2.1 X.2.2.2.2.2.2.2.1 (fun w h => List.mem_cons_of_mem _ (x_inX hc w h)) (x_ty t) (x_tyX hc) (x_nmX hc) X.2.2.2.2.1 X.2.2.2.2.2.2.2.2.1.1 hW x_D hS o (by rw [x_ws_at ho, x_el_o hs (x_t13 hc)]) hc k hk (x_word X hw) (fun _ h => h) hf (X.2.2.2.2.2.2.1.trans hin) hde (ty := ty) (by rw [x_tyX hc k hk, ht]) hv.1 hv.2 (by rw [List.length_map, List.length_range]; exact hk) hd (fun H1 locs1 hP1 hD1 hS1 => ?_)
  refine h l G p e s m args below meth c X h0 h1 h2 H1 locs1 ls ?_ hS1 hl
  rw [x_ws_set (σ' := x_wr σ o k (some r)) ho] at hP1
  · exact hP1
  · rw [x_el_o hs (x_t13 hc)]
    congr 2
    symm
    apply x_fs_set
    · rw [ht]; rcases hty with ⟨_, rfl⟩ | ⟨_, rfl⟩ <;> simp [x_av, x_wr, x_rf, x_ad]
    · intro j hj
      unfold x_av
      split <;> simp [x_wr, hj]
  · intro a ha; exact x_el_wr ha
theorem o_objInit {i o : Nat} (hd : decode μ.2.1 pc = .ok (.invokespecial i, 3)) (hw : Cond.methodLink μ.1.cls i Lib.objectInit ∈ x_tb) (hq : Cond.instanceMethod Lib.objectInit ∈ x_tb ∧ Cond.code Lib.objectInit ⟨#[0xb1]⟩ 1 none ∈ x_tb) (hcat : (st.map fun v => v.category).sum ≤ 8) (h : x_Wg (d + 1) μ N0 Q N (pc + 3) L st σ) : x_Wg (d + 1) μ N0 Q N pc L (.ref o :: st) σ := by
  intro l G p e s m args below meth c X h0 h1 h2 H locs ls hW hS hl
  exact W.objInit X.1 X.2.1 X.2.2.2.2.1 (x_word X hw) (x_word X hq.1) (x_word X hq.2) rfl (hl.1.trans X.2.2.2.1.symm) rfl hd (by show 1 ≤ d + 1; omega) (by show 2 * 0 + ((st.map (x_ad G.2.2.1)).map fun v => v.category).sum + 12 ≤ 40 * (d + 1); rw [x_cats]; omega) (h l G p e s m args below meth c X h0 h1 h2 H locs ls hW hS hl)
set_option maxHeartbeats 4000000 in
theorem o_callI {y : MethodName} {cc : ByteArray} {mL mc ms n i o : Nat} {vs : List Value} {μ' : x_M} (hμ : μ' = (y, cc, mL, none, mc, ms)) (hd : decode μ.2.1 pc = .ok (.invokespecial i, 3)) (hl' : Cond.methodLink μ.1.cls i μ'.1 ∈ x_tb) (hk : x_cok μ' n) (kin : Cond.instanceMethod μ'.1 ∈ x_tb) (hnm : μ'.1.name = "<init>") (hst : st' = vs.reverse ++ .ref o :: st) (hn : vs.length = n) (hcat : (st.map fun v => v.category).sum ≤ 8) (hb : N + mc ≤ N0 + μ.2.2.2.2.1) (hbs : x_sl N + ms ≤ x_sl N0 + μ.2.2.2.2.2) (hsl : x_sl (N + mc) = x_sl N + ms)
    (h : x_Mt d μ' N (.ref o :: vs) σ (fun σ' v => x_Wg (d + 1) μ N0 Q (N + mc) (pc + 3) L (v.toList ++ st) σ')) : x_Wg (d + 1) μ N0 Q N pc L st' σ := by
  intro l G p e s m args below meth c X h0 h1 h2 H locs ls hW hS hl T hT Y
  have hsz := x_size X Y hT h0 hW hS
  have hle := x_sl_le h0
  subst hμ
  obtain ⟨ki, kc, kd, km⟩ := hk
  have hrun := va_runI (H := H) (locs := locs) (cells := N - N0) (slots := x_sl N - x_sl N0) (R := x_rm (d + 1) μ) (below := below) (meth := meth) (b := G.2.2.1 + o) (As := vs.map (x_ad G.2.2.1)) (rest := st.map (x_ad G.2.2.1)) (g := F0 m pc ls (st'.map (x_ad G.2.2.1))) (index := i) (n := n) (nL := μ.2.2.1) (e := e) (own := μ.1.cls) ⟨X.1, X.2.1, X.2.2.2.1, X.2.2.2.2.1, X.2.2.2.2.2.2.2.1⟩ (h l G)
    (cwI n X.2.2.2.2.2.2.2.1 (x_good kc) rfl rfl rfl (x_word X ki) (x_word X hl') (x_word X kin) hnm kd ⟨by show d + 1 ≤ d + 1; omega, by have km : mL ≤ 21 := km; show 8 + (mL + 11) + 40 * d ≤ 40 * (d + 1); omega⟩)
    ⟨x_blind, fun U hU hV => ⟨rfl, x_enter X hsz hW hS hU hV⟩⟩
    rfl (by rw [List.length_map]; exact hn) hl.1 (by rw [hst]; simp [x_ad]) (lv_room (by rw [x_cats]; exact hcat)) hd ⟨by show N - N0 + mc ≤ μ.2.2.2.2.1; omega, by show x_sl N - x_sl N0 + ms ≤ μ.2.2.2.2.2; omega⟩
  refine x_run hrun hS (fun v σ' H1 locs1 hK hW1 hS1 => ?_) T hT Y
  rw [x_toL]
  have k := hK l G p e s m args below meth c X (by omega) hb (by rw [hsl]; exact hbs) H1 locs1 ls hW1 hS1 hl
  rw [show N + mc - N0 = N - N0 + mc by omega, hsl, show x_sl N + ms - x_sl N0 = x_sl N - x_sl N0 + ms by omega] at k
  exact k
set_option maxHeartbeats 4000000 in
theorem o_callIN {y : MethodName} {cc : ByteArray} {mL mc ms n i o : Nat} {hn0 : String} {vs : List Value} {μ' : x_M} (hμ : μ' = (y, cc, mL, none, mc, ms)) (hd : decode μ.2.1 pc = .ok (.invokespecial i, 3)) (hl' : (μ.1.cls, i, μ'.1, hn0) ∈ x_nm) (hk : x_cok μ' n) (kin : Cond.instanceMethod μ'.1 ∈ x_tb) (hnm : μ'.1.name = "<init>") (hst : st' = vs.reverse ++ .ref o :: st) (hn : vs.length = n) (hcat : (st.map fun v => v.category).sum ≤ 8) (hb : N + mc ≤ N0 + μ.2.2.2.2.1) (hbs : x_sl N + ms ≤ x_sl N0 + μ.2.2.2.2.2) (hsl : x_sl (N + mc) = x_sl N + ms)
    (h : x_Mt d μ' N (.ref o :: vs) σ (fun σ' v => x_Wg (d + 1) μ N0 Q (N + mc) (pc + 3) L (v.toList ++ st) σ')) : x_Wg (d + 1) μ N0 Q N pc L st' σ := by
  intro l G p e s m args below meth c X h0 h1 h2 H locs ls hW hS hl T hT Y
  have hsz := x_size X Y hT h0 hW hS
  have hle := x_sl_le h0
  subst hμ
  obtain ⟨ki, kc, kd, km⟩ := hk
  have hrun := va_runIN (H := H) (locs := locs) (cells := N - N0) (slots := x_sl N - x_sl N0) (R := x_rm (d + 1) μ) (below := below) (meth := meth) (b := G.2.2.1 + o) (As := vs.map (x_ad G.2.2.1)) (rest := st.map (x_ad G.2.2.1)) (g := F0 m pc ls (st'.map (x_ad G.2.2.1))) (index := i) (n := n) (nL := μ.2.2.1) (e := e) (own := μ.1.cls) (host := hn0) ⟨X.1, X.2.1, X.2.2.2.1, X.2.2.2.2.1, X.2.2.2.2.2.2.2.1⟩ (h l G)
    (⟨va_cnB n X.2.2.2.2.2.2.2.1 (x_good kc) rfl rfl rfl (X.2.2.2.2.2.2.2.2.1.2.2.2.2.2.2.2.1 _ hl') (x_word X ki) kd ⟨by show d + 1 ≤ d + 1; omega, by have km : mL ≤ 21 := km; show 8 + (mL + 11) + 40 * d ≤ 40 * (d + 1); omega⟩, hnm, x_word X kin⟩)
    ⟨x_blind, fun U hU hV => ⟨rfl, x_enter X hsz hW hS hU hV⟩⟩
    rfl (by rw [List.length_map]; exact hn) hl.1 (by rw [hst]; simp [x_ad]) (lv_room (by rw [x_cats]; exact hcat)) hd ⟨by show N - N0 + mc ≤ μ.2.2.2.2.1; omega, by show x_sl N - x_sl N0 + ms ≤ μ.2.2.2.2.2; omega⟩
  refine x_run hrun hS (fun v σ' H1 locs1 hK hW1 hS1 => ?_) T hT Y
  rw [x_toL]
  have k := hK l G p e s m args below meth c X (by omega) hb (by rw [hsl]; exact hbs) H1 locs1 ls hW1 hS1 hl
  rw [show N + mc - N0 = N - N0 + mc by omega, hsl, show x_sl N + ms - x_sl N0 = x_sl N - x_sl N0 + ms by omega] at k
  exact k
end XCT
end
section
def mX11_init : x_M := (yX11_init, cX11_init, 2, none, 344, 12964)
def mX12_init : x_M := (yX12_init, cX12_init, 2, none, 30, 13004)
def mX0_init : x_M := (yX0_init, cX0_init, 3, none, 1, 8)
def mX1_init : x_M := (yX1_init, cX1_init, 1, none, 3, 106)
def mX2_init : x_M := (yX2_init, cX2_init, 3, none, 0, 0)
def mX3_init : x_M := (yX3_init, cX3_init, 1, none, 11, 186)
def mX4_init : x_M := (yX4_init, cX4_init, 2, none, 2, 96)
def mX5_init : x_M := (yX5_init, cX5_init, 1, none, 2, 16)
def mX6_init : x_M := (yX6_init, cX6_init, 2, none, 9, 714)
def mX7_init : x_M := (yX7_init, cX7_init, 2, none, 121, 3540)
def mX8_init : x_M := (yX8_init, cX8_init, 1, none, 4, 1203)
def mX9_init : x_M := (yX9_init, cX9_init, 1, none, 8, 704)
def mX10_init : x_M := (yX10_init, cX10_init, 3, none, 5, 224)
theorem lc_116 : Cond.initialized "NoonOnABarrow$Land" ∈ x_tb := x_tb_in (List.mem_of_getElem? (i := 116) (by decide +kernel)) (by decide +kernel)
theorem lc_117 : Cond.initialized "NoonOnABarrow$Pairs" ∈ x_tb := x_tb_in (List.mem_of_getElem? (i := 117) (by decide +kernel)) (by decide +kernel)
theorem lc_118 : Cond.initialized "NoonOnABarrow$Day" ∈ x_tb := x_tb_in (List.mem_of_getElem? (i := 118) (by decide +kernel)) (by decide +kernel)
theorem lc_119 : Cond.initialized "NoonOnABarrow$Steps" ∈ x_tb := x_tb_in (List.mem_of_getElem? (i := 119) (by decide +kernel)) (by decide +kernel)
theorem lc_120 : Cond.initialized "NoonOnABarrow$Text" ∈ x_tb := x_tb_in (List.mem_of_getElem? (i := 120) (by decide +kernel)) (by decide +kernel)
theorem lc_121 : Cond.initialized "NoonOnABarrow$Tape" ∈ x_tb := x_tb_in (List.mem_of_getElem? (i := 121) (by decide +kernel)) (by decide +kernel)
theorem lc_122 : Cond.initialized "NoonOnABarrow$Reader" ∈ x_tb := x_tb_in (List.mem_of_getElem? (i := 122) (by decide +kernel)) (by decide +kernel)
theorem lc_123 : Cond.initialized "NoonOnABarrow$Laws" ∈ x_tb := x_tb_in (List.mem_of_getElem? (i := 123) (by decide +kernel)) (by decide +kernel)
theorem lc_124 : Cond.initialized "NoonOnABarrow$Doings" ∈ x_tb := x_tb_in (List.mem_of_getElem? (i := 124) (by decide +kernel)) (by decide +kernel)
theorem lc_125 : Cond.initialized "NoonOnABarrow$Ways" ∈ x_tb := x_tb_in (List.mem_of_getElem? (i := 125) (by decide +kernel)) (by decide +kernel)
theorem lc_126 : Cond.initialized "NoonOnABarrow$Counsel" ∈ x_tb := x_tb_in (List.mem_of_getElem? (i := 126) (by decide +kernel)) (by decide +kernel)
theorem lc_141 : Cond.methodLink "NoonOnABarrow" 1 Lib.objectInit ∈ x_tb := x_tb_in (List.mem_of_getElem? (i := 141) (by decide +kernel)) (by decide +kernel)
theorem lc_144 : Cond.classLink "NoonOnABarrow" 7 "NoonOnABarrow$Land" ∈ x_tb := x_tb_in (List.mem_of_getElem? (i := 144) (by decide +kernel)) (by decide +kernel)
theorem lc_145 : Cond.instantiable "NoonOnABarrow$Land" 9 ∈ x_tb := x_tb_in (List.mem_of_getElem? (i := 145) (by decide +kernel)) (by decide +kernel)
theorem lc_149 : Cond.methodLink "NoonOnABarrow$Land" 3 Lib.objectInit ∈ x_tb := x_tb_in (List.mem_of_getElem? (i := 149) (by decide +kernel)) (by decide +kernel)
theorem lc_150 : Cond.classLink "NoonOnABarrow$Land" 27 "NoonOnABarrow$Pairs" ∈ x_tb := x_tb_in (List.mem_of_getElem? (i := 150) (by decide +kernel)) (by decide +kernel)
theorem lc_151 : Cond.instantiable "NoonOnABarrow$Pairs" 3 ∈ x_tb := x_tb_in (List.mem_of_getElem? (i := 151) (by decide +kernel)) (by decide +kernel)
theorem lc_155 : Cond.methodLink "NoonOnABarrow$Pairs" 3 Lib.objectInit ∈ x_tb := x_tb_in (List.mem_of_getElem? (i := 155) (by decide +kernel)) (by decide +kernel)
theorem lc_156 : Cond.fieldLink "NoonOnABarrow$Pairs" 9 "NoonOnABarrow$Pairs" "house" "[I" ∈ x_tb := x_tb_in (List.mem_of_getElem? (i := 156) (by decide +kernel)) (by decide +kernel)
theorem lc_160 : Cond.fieldLink "NoonOnABarrow$Pairs" 15 "NoonOnABarrow$Pairs" "number" "[I" ∈ x_tb := x_tb_in (List.mem_of_getElem? (i := 160) (by decide +kernel)) (by decide +kernel)
theorem lc_176 : Cond.arrayClass .int ∈ x_tb := x_tb_in (List.mem_of_getElem? (i := 176) (by decide +kernel)) (by decide +kernel)
theorem lc_185 : Cond.fieldLink "NoonOnABarrow$Land" 9 "NoonOnABarrow$Land" "hill" "[I" ∈ x_tb := x_tb_in (List.mem_of_getElem? (i := 185) (by decide +kernel)) (by decide +kernel)
theorem lc_187 : Cond.fieldLink "NoonOnABarrow$Land" 15 "NoonOnABarrow$Land" "weight" "[I" ∈ x_tb := x_tb_in (List.mem_of_getElem? (i := 187) (by decide +kernel)) (by decide +kernel)
theorem lc_190 : Cond.fieldLink "NoonOnABarrow$Land" 18 "NoonOnABarrow$Land" "strength" "[I" ∈ x_tb := x_tb_in (List.mem_of_getElem? (i := 190) (by decide +kernel)) (by decide +kernel)
theorem lc_191 : Cond.fieldLink "NoonOnABarrow$Land" 21 "NoonOnABarrow$Land" "lane" "[I" ∈ x_tb := x_tb_in (List.mem_of_getElem? (i := 191) (by decide +kernel)) (by decide +kernel)
theorem lc_192 : Cond.fieldLink "NoonOnABarrow$Land" 24 "NoonOnABarrow$Land" "way" "[I" ∈ x_tb := x_tb_in (List.mem_of_getElem? (i := 192) (by decide +kernel)) (by decide +kernel)
theorem lc_193 : Cond.fieldLink "NoonOnABarrow$Land" 30 "NoonOnABarrow$Land" "wanted" "LNoonOnABarrow$Pairs;" ∈ x_tb := x_tb_in (List.mem_of_getElem? (i := 193) (by decide +kernel)) (by decide +kernel)
theorem lc_197 : Cond.fieldLink "NoonOnABarrow$Land" 34 "NoonOnABarrow$Land" "felt" "LNoonOnABarrow$Pairs;" ∈ x_tb := x_tb_in (List.mem_of_getElem? (i := 197) (by decide +kernel)) (by decide +kernel)
theorem lc_219 : Cond.classLink "NoonOnABarrow" 16 "NoonOnABarrow$Day" ∈ x_tb := x_tb_in (List.mem_of_getElem? (i := 219) (by decide +kernel)) (by decide +kernel)
theorem lc_220 : Cond.instantiable "NoonOnABarrow$Day" 11 ∈ x_tb := x_tb_in (List.mem_of_getElem? (i := 220) (by decide +kernel)) (by decide +kernel)
theorem lc_224 : Cond.methodLink "NoonOnABarrow$Day" 3 Lib.objectInit ∈ x_tb := x_tb_in (List.mem_of_getElem? (i := 224) (by decide +kernel)) (by decide +kernel)
theorem lc_230 : Cond.fieldLink "NoonOnABarrow$Day" 9 "NoonOnABarrow$Day" "to" "I" ∈ x_tb := x_tb_in (List.mem_of_getElem? (i := 230) (by decide +kernel)) (by decide +kernel)
theorem lc_237 : Cond.fieldLink "NoonOnABarrow$Day" 15 "NoonOnABarrow$Day" "pusher" "I" ∈ x_tb := x_tb_in (List.mem_of_getElem? (i := 237) (by decide +kernel)) (by decide +kernel)
theorem lc_240 : Cond.fieldLink "NoonOnABarrow$Day" 18 "NoonOnABarrow$Day" "wheels" "I" ∈ x_tb := x_tb_in (List.mem_of_getElem? (i := 240) (by decide +kernel)) (by decide +kernel)
theorem lc_248 : Cond.fieldLink "NoonOnABarrow$Day" 21 "NoonOnABarrow$Day" "x" "I" ∈ x_tb := x_tb_in (List.mem_of_getElem? (i := 248) (by decide +kernel)) (by decide +kernel)
theorem lc_250 : Cond.fieldLink "NoonOnABarrow$Day" 24 "NoonOnABarrow$Day" "purse" "[I" ∈ x_tb := x_tb_in (List.mem_of_getElem? (i := 250) (by decide +kernel)) (by decide +kernel)
theorem lc_252 : Cond.fieldLink "NoonOnABarrow$Day" 28 "NoonOnABarrow$Day" "pale" "[I" ∈ x_tb := x_tb_in (List.mem_of_getElem? (i := 252) (by decide +kernel)) (by decide +kernel)
theorem lc_256 : Cond.fieldLink "NoonOnABarrow$Day" 31 "NoonOnABarrow$Day" "book" "[I" ∈ x_tb := x_tb_in (List.mem_of_getElem? (i := 256) (by decide +kernel)) (by decide +kernel)
theorem lc_280 : Cond.classLink "NoonOnABarrow" 23 "NoonOnABarrow$Steps" ∈ x_tb := x_tb_in (List.mem_of_getElem? (i := 280) (by decide +kernel)) (by decide +kernel)
theorem lc_281 : Cond.instantiable "NoonOnABarrow$Steps" 3 ∈ x_tb := x_tb_in (List.mem_of_getElem? (i := 281) (by decide +kernel)) (by decide +kernel)
theorem lc_282 : Cond.methodLink "NoonOnABarrow" 25 yX7_init ∈ x_tb := x_tb_in (List.mem_of_getElem? (i := 282) (by decide +kernel)) (by decide +kernel)
theorem lc_285 : Cond.methodLink "NoonOnABarrow$Steps" 3 Lib.objectInit ∈ x_tb := x_tb_in (List.mem_of_getElem? (i := 285) (by decide +kernel)) (by decide +kernel)
theorem lc_286 : Cond.classLink "NoonOnABarrow$Steps" 9 "NoonOnABarrow$Day" ∈ x_tb := x_tb_in (List.mem_of_getElem? (i := 286) (by decide +kernel)) (by decide +kernel)
theorem lc_289 : Cond.fieldLink "NoonOnABarrow$Steps" 11 "NoonOnABarrow$Steps" "days" "[LNoonOnABarrow$Day;" ∈ x_tb := x_tb_in (List.mem_of_getElem? (i := 289) (by decide +kernel)) (by decide +kernel)
theorem lc_300 : Cond.classLink "NoonOnABarrow" 30 "NoonOnABarrow$Text" ∈ x_tb := x_tb_in (List.mem_of_getElem? (i := 300) (by decide +kernel)) (by decide +kernel)
theorem lc_302 : Cond.instantiable "NoonOnABarrow$Text" 10 ∈ x_tb := x_tb_in (List.mem_of_getElem? (i := 302) (by decide +kernel)) (by decide +kernel)
theorem lc_306 : Cond.methodLink "NoonOnABarrow$Text" 3 Lib.objectInit ∈ x_tb := x_tb_in (List.mem_of_getElem? (i := 306) (by decide +kernel)) (by decide +kernel)
theorem lc_307 : Cond.fieldLink "NoonOnABarrow$Text" 9 "NoonOnABarrow$Text" "kind" "[I" ∈ x_tb := x_tb_in (List.mem_of_getElem? (i := 307) (by decide +kernel)) (by decide +kernel)
theorem lc_309 : Cond.fieldLink "NoonOnABarrow$Text" 15 "NoonOnABarrow$Text" "one" "[I" ∈ x_tb := x_tb_in (List.mem_of_getElem? (i := 309) (by decide +kernel)) (by decide +kernel)
theorem lc_311 : Cond.fieldLink "NoonOnABarrow$Text" 18 "NoonOnABarrow$Text" "two" "[I" ∈ x_tb := x_tb_in (List.mem_of_getElem? (i := 311) (by decide +kernel)) (by decide +kernel)
theorem lc_313 : Cond.fieldLink "NoonOnABarrow$Text" 21 "NoonOnABarrow$Text" "three" "[I" ∈ x_tb := x_tb_in (List.mem_of_getElem? (i := 313) (by decide +kernel)) (by decide +kernel)
theorem lc_318 : Cond.fieldLink "NoonOnABarrow$Text" 24 "NoonOnABarrow$Text" "lawFrom" "[I" ∈ x_tb := x_tb_in (List.mem_of_getElem? (i := 318) (by decide +kernel)) (by decide +kernel)
theorem lc_319 : Cond.fieldLink "NoonOnABarrow$Text" 27 "NoonOnABarrow$Text" "lawTo" "[I" ∈ x_tb := x_tb_in (List.mem_of_getElem? (i := 319) (by decide +kernel)) (by decide +kernel)
theorem lc_320 : Cond.fieldLink "NoonOnABarrow$Text" 30 "NoonOnABarrow$Text" "steps" "[I" ∈ x_tb := x_tb_in (List.mem_of_getElem? (i := 320) (by decide +kernel)) (by decide +kernel)
theorem lc_321 : Cond.fieldLink "NoonOnABarrow$Text" 33 "NoonOnABarrow$Text" "givens" "[I" ∈ x_tb := x_tb_in (List.mem_of_getElem? (i := 321) (by decide +kernel)) (by decide +kernel)
theorem lc_345 : Cond.classLink "NoonOnABarrow" 59 "NoonOnABarrow$Tape" ∈ x_tb := x_tb_in (List.mem_of_getElem? (i := 345) (by decide +kernel)) (by decide +kernel)
theorem lc_346 : Cond.instantiable "NoonOnABarrow$Tape" 6 ∈ x_tb := x_tb_in (List.mem_of_getElem? (i := 346) (by decide +kernel)) (by decide +kernel)
theorem lc_350 : Cond.methodLink "NoonOnABarrow$Tape" 3 Lib.objectInit ∈ x_tb := x_tb_in (List.mem_of_getElem? (i := 350) (by decide +kernel)) (by decide +kernel)
theorem lc_351 : Cond.fieldLink "NoonOnABarrow$Tape" 9 "NoonOnABarrow$Tape" "bytes" "[I" ∈ x_tb := x_tb_in (List.mem_of_getElem? (i := 351) (by decide +kernel)) (by decide +kernel)
theorem lc_354 : Cond.fieldLink "NoonOnABarrow$Tape" 15 "NoonOnABarrow$Tape" "kinds" "[I" ∈ x_tb := x_tb_in (List.mem_of_getElem? (i := 354) (by decide +kernel)) (by decide +kernel)
theorem lc_355 : Cond.fieldLink "NoonOnABarrow$Tape" 18 "NoonOnABarrow$Tape" "values" "[I" ∈ x_tb := x_tb_in (List.mem_of_getElem? (i := 355) (by decide +kernel)) (by decide +kernel)
theorem lc_356 : Cond.fieldLink "NoonOnABarrow$Tape" 21 "NoonOnABarrow$Tape" "places" "[I" ∈ x_tb := x_tb_in (List.mem_of_getElem? (i := 356) (by decide +kernel)) (by decide +kernel)
theorem lc_371 : Cond.classLink "NoonOnABarrow" 66 "NoonOnABarrow$Reader" ∈ x_tb := x_tb_in (List.mem_of_getElem? (i := 371) (by decide +kernel)) (by decide +kernel)
theorem lc_372 : Cond.instantiable "NoonOnABarrow$Reader" 6 ∈ x_tb := x_tb_in (List.mem_of_getElem? (i := 372) (by decide +kernel)) (by decide +kernel)
theorem lc_373 : Cond.methodLink "NoonOnABarrow" 68 yX6_init ∈ x_tb := x_tb_in (List.mem_of_getElem? (i := 373) (by decide +kernel)) (by decide +kernel)
theorem lc_376 : Cond.methodLink "NoonOnABarrow$Reader" 3 Lib.objectInit ∈ x_tb := x_tb_in (List.mem_of_getElem? (i := 376) (by decide +kernel)) (by decide +kernel)
theorem lc_377 : Cond.classLink "NoonOnABarrow$Reader" 22 "NoonOnABarrow$Text" ∈ x_tb := x_tb_in (List.mem_of_getElem? (i := 377) (by decide +kernel)) (by decide +kernel)
theorem lc_379 : Cond.fieldLink "NoonOnABarrow$Reader" 18 "NoonOnABarrow$Reader" "tape" "LNoonOnABarrow$Tape;" ∈ x_tb := x_tb_in (List.mem_of_getElem? (i := 379) (by decide +kernel)) (by decide +kernel)
theorem lc_380 : Cond.fieldLink "NoonOnABarrow$Reader" 25 "NoonOnABarrow$Reader" "text" "LNoonOnABarrow$Text;" ∈ x_tb := x_tb_in (List.mem_of_getElem? (i := 380) (by decide +kernel)) (by decide +kernel)
theorem lc_383 : Cond.fieldLink "NoonOnABarrow$Reader" 9 "NoonOnABarrow$Reader" "fault" "I" ∈ x_tb := x_tb_in (List.mem_of_getElem? (i := 383) (by decide +kernel)) (by decide +kernel)
theorem lc_385 : Cond.fieldLink "NoonOnABarrow$Reader" 15 "NoonOnABarrow$Reader" "place" "I" ∈ x_tb := x_tb_in (List.mem_of_getElem? (i := 385) (by decide +kernel)) (by decide +kernel)
theorem lc_400 : Cond.classLink "NoonOnABarrow" 75 "NoonOnABarrow$Laws" ∈ x_tb := x_tb_in (List.mem_of_getElem? (i := 400) (by decide +kernel)) (by decide +kernel)
theorem lc_401 : Cond.instantiable "NoonOnABarrow$Laws" 5 ∈ x_tb := x_tb_in (List.mem_of_getElem? (i := 401) (by decide +kernel)) (by decide +kernel)
theorem lc_402 : Cond.methodLink "NoonOnABarrow" 77 yX4_init ∈ x_tb := x_tb_in (List.mem_of_getElem? (i := 402) (by decide +kernel)) (by decide +kernel)
theorem lc_405 : Cond.methodLink "NoonOnABarrow$Laws" 3 Lib.objectInit ∈ x_tb := x_tb_in (List.mem_of_getElem? (i := 405) (by decide +kernel)) (by decide +kernel)
theorem lc_406 : Cond.fieldLink "NoonOnABarrow$Laws" 18 "NoonOnABarrow$Laws" "land" "LNoonOnABarrow$Land;" ∈ x_tb := x_tb_in (List.mem_of_getElem? (i := 406) (by decide +kernel)) (by decide +kernel)
theorem lc_407 : Cond.fieldLink "NoonOnABarrow$Laws" 9 "NoonOnABarrow$Laws" "named" "[I" ∈ x_tb := x_tb_in (List.mem_of_getElem? (i := 407) (by decide +kernel)) (by decide +kernel)
theorem lc_408 : Cond.fieldLink "NoonOnABarrow$Laws" 15 "NoonOnABarrow$Laws" "stack" "[I" ∈ x_tb := x_tb_in (List.mem_of_getElem? (i := 408) (by decide +kernel)) (by decide +kernel)
theorem lc_423 : Cond.classLink "NoonOnABarrow" 84 "NoonOnABarrow$Doings" ∈ x_tb := x_tb_in (List.mem_of_getElem? (i := 423) (by decide +kernel)) (by decide +kernel)
theorem lc_424 : Cond.instantiable "NoonOnABarrow$Doings" 2 ∈ x_tb := x_tb_in (List.mem_of_getElem? (i := 424) (by decide +kernel)) (by decide +kernel)
theorem lc_425 : Cond.methodLink "NoonOnABarrow" 86 yX2_init ∈ x_tb := x_tb_in (List.mem_of_getElem? (i := 425) (by decide +kernel)) (by decide +kernel)
theorem lc_428 : Cond.methodLink "NoonOnABarrow$Doings" 3 Lib.objectInit ∈ x_tb := x_tb_in (List.mem_of_getElem? (i := 428) (by decide +kernel)) (by decide +kernel)
theorem lc_429 : Cond.fieldLink "NoonOnABarrow$Doings" 9 "NoonOnABarrow$Doings" "land" "LNoonOnABarrow$Land;" ∈ x_tb := x_tb_in (List.mem_of_getElem? (i := 429) (by decide +kernel)) (by decide +kernel)
theorem lc_430 : Cond.fieldLink "NoonOnABarrow$Doings" 15 "NoonOnABarrow$Doings" "laws" "LNoonOnABarrow$Laws;" ∈ x_tb := x_tb_in (List.mem_of_getElem? (i := 430) (by decide +kernel)) (by decide +kernel)
theorem lc_436 : Cond.classLink "NoonOnABarrow" 93 "NoonOnABarrow$Ways" ∈ x_tb := x_tb_in (List.mem_of_getElem? (i := 436) (by decide +kernel)) (by decide +kernel)
theorem lc_437 : Cond.instantiable "NoonOnABarrow$Ways" 10 ∈ x_tb := x_tb_in (List.mem_of_getElem? (i := 437) (by decide +kernel)) (by decide +kernel)
theorem lc_438 : Cond.methodLink "NoonOnABarrow" 95 yX10_init ∈ x_tb := x_tb_in (List.mem_of_getElem? (i := 438) (by decide +kernel)) (by decide +kernel)
theorem lc_441 : Cond.methodLink "NoonOnABarrow$Ways" 3 Lib.objectInit ∈ x_tb := x_tb_in (List.mem_of_getElem? (i := 441) (by decide +kernel)) (by decide +kernel)
theorem lc_442 : Cond.fieldLink "NoonOnABarrow$Ways" 27 "NoonOnABarrow$Ways" "land" "LNoonOnABarrow$Land;" ∈ x_tb := x_tb_in (List.mem_of_getElem? (i := 442) (by decide +kernel)) (by decide +kernel)
theorem lc_443 : Cond.fieldLink "NoonOnABarrow$Ways" 31 "NoonOnABarrow$Ways" "laws" "LNoonOnABarrow$Laws;" ∈ x_tb := x_tb_in (List.mem_of_getElem? (i := 443) (by decide +kernel)) (by decide +kernel)
theorem lc_444 : Cond.fieldLink "NoonOnABarrow$Ways" 11 "NoonOnABarrow$Ways" "queue" "[I" ∈ x_tb := x_tb_in (List.mem_of_getElem? (i := 444) (by decide +kernel)) (by decide +kernel)
theorem lc_445 : Cond.fieldLink "NoonOnABarrow$Ways" 15 "NoonOnABarrow$Ways" "earlier" "[I" ∈ x_tb := x_tb_in (List.mem_of_getElem? (i := 445) (by decide +kernel)) (by decide +kernel)
theorem lc_448 : Cond.fieldLink "NoonOnABarrow$Ways" 18 "NoonOnABarrow$Ways" "cost" "[I" ∈ x_tb := x_tb_in (List.mem_of_getElem? (i := 448) (by decide +kernel)) (by decide +kernel)
theorem lc_449 : Cond.fieldLink "NoonOnABarrow$Ways" 21 "NoonOnABarrow$Ways" "rest" "[I" ∈ x_tb := x_tb_in (List.mem_of_getElem? (i := 449) (by decide +kernel)) (by decide +kernel)
theorem lc_450 : Cond.fieldLink "NoonOnABarrow$Ways" 24 "NoonOnABarrow$Ways" "leastWay" "[I" ∈ x_tb := x_tb_in (List.mem_of_getElem? (i := 450) (by decide +kernel)) (by decide +kernel)
theorem lc_474 : Cond.classLink "NoonOnABarrow" 100 "NoonOnABarrow$Counsel" ∈ x_tb := x_tb_in (List.mem_of_getElem? (i := 474) (by decide +kernel)) (by decide +kernel)
theorem lc_475 : Cond.instantiable "NoonOnABarrow$Counsel" 3 ∈ x_tb := x_tb_in (List.mem_of_getElem? (i := 475) (by decide +kernel)) (by decide +kernel)
theorem lc_476 : Cond.methodLink "NoonOnABarrow" 102 yX0_init ∈ x_tb := x_tb_in (List.mem_of_getElem? (i := 476) (by decide +kernel)) (by decide +kernel)
theorem lc_479 : Cond.methodLink "NoonOnABarrow$Counsel" 3 Lib.objectInit ∈ x_tb := x_tb_in (List.mem_of_getElem? (i := 479) (by decide +kernel)) (by decide +kernel)
theorem lc_480 : Cond.fieldLink "NoonOnABarrow$Counsel" 15 "NoonOnABarrow$Counsel" "land" "LNoonOnABarrow$Land;" ∈ x_tb := x_tb_in (List.mem_of_getElem? (i := 480) (by decide +kernel)) (by decide +kernel)
theorem lc_481 : Cond.fieldLink "NoonOnABarrow$Counsel" 19 "NoonOnABarrow$Counsel" "laws" "LNoonOnABarrow$Laws;" ∈ x_tb := x_tb_in (List.mem_of_getElem? (i := 481) (by decide +kernel)) (by decide +kernel)
theorem lc_482 : Cond.fieldLink "NoonOnABarrow$Counsel" 9 "NoonOnABarrow$Counsel" "row" "[I" ∈ x_tb := x_tb_in (List.mem_of_getElem? (i := 482) (by decide +kernel)) (by decide +kernel)
theorem lc_490 : Cond.fieldLink "NoonOnABarrow" 10 "NoonOnABarrow" "land" "LNoonOnABarrow$Land;" ∈ x_tb := x_tb_in (List.mem_of_getElem? (i := 490) (by decide +kernel)) (by decide +kernel)
theorem lc_491 : Cond.fieldLink "NoonOnABarrow" 19 "NoonOnABarrow" "day" "LNoonOnABarrow$Day;" ∈ x_tb := x_tb_in (List.mem_of_getElem? (i := 491) (by decide +kernel)) (by decide +kernel)
theorem lc_492 : Cond.fieldLink "NoonOnABarrow" 26 "NoonOnABarrow" "steps" "LNoonOnABarrow$Steps;" ∈ x_tb := x_tb_in (List.mem_of_getElem? (i := 492) (by decide +kernel)) (by decide +kernel)
theorem lc_493 : Cond.fieldLink "NoonOnABarrow" 32 "NoonOnABarrow" "texts" "[LNoonOnABarrow$Text;" ∈ x_tb := x_tb_in (List.mem_of_getElem? (i := 493) (by decide +kernel)) (by decide +kernel)
theorem lc_494 : Cond.fieldLink "NoonOnABarrow" 37 "NoonOnABarrow" "told" "I" ∈ x_tb := x_tb_in (List.mem_of_getElem? (i := 494) (by decide +kernel)) (by decide +kernel)
theorem lc_495 : Cond.fieldLink "NoonOnABarrow" 41 "NoonOnABarrow" "ruling" "I" ∈ x_tb := x_tb_in (List.mem_of_getElem? (i := 495) (by decide +kernel)) (by decide +kernel)
theorem lc_496 : Cond.fieldLink "NoonOnABarrow" 44 "NoonOnABarrow" "imageLand" "LNoonOnABarrow$Land;" ∈ x_tb := x_tb_in (List.mem_of_getElem? (i := 496) (by decide +kernel)) (by decide +kernel)
theorem lc_497 : Cond.fieldLink "NoonOnABarrow" 47 "NoonOnABarrow" "imageDay" "LNoonOnABarrow$Day;" ∈ x_tb := x_tb_in (List.mem_of_getElem? (i := 497) (by decide +kernel)) (by decide +kernel)
theorem lc_498 : Cond.fieldLink "NoonOnABarrow" 50 "NoonOnABarrow" "imageSteps" "LNoonOnABarrow$Steps;" ∈ x_tb := x_tb_in (List.mem_of_getElem? (i := 498) (by decide +kernel)) (by decide +kernel)
theorem lc_499 : Cond.fieldLink "NoonOnABarrow" 53 "NoonOnABarrow" "imageTold" "I" ∈ x_tb := x_tb_in (List.mem_of_getElem? (i := 499) (by decide +kernel)) (by decide +kernel)
theorem lc_500 : Cond.fieldLink "NoonOnABarrow" 56 "NoonOnABarrow" "imageRuling" "I" ∈ x_tb := x_tb_in (List.mem_of_getElem? (i := 500) (by decide +kernel)) (by decide +kernel)
theorem lc_501 : Cond.fieldLink "NoonOnABarrow" 62 "NoonOnABarrow" "tape" "LNoonOnABarrow$Tape;" ∈ x_tb := x_tb_in (List.mem_of_getElem? (i := 501) (by decide +kernel)) (by decide +kernel)
theorem lc_502 : Cond.fieldLink "NoonOnABarrow" 71 "NoonOnABarrow" "reader" "LNoonOnABarrow$Reader;" ∈ x_tb := x_tb_in (List.mem_of_getElem? (i := 502) (by decide +kernel)) (by decide +kernel)
theorem lc_503 : Cond.fieldLink "NoonOnABarrow" 80 "NoonOnABarrow" "laws" "LNoonOnABarrow$Laws;" ∈ x_tb := x_tb_in (List.mem_of_getElem? (i := 503) (by decide +kernel)) (by decide +kernel)
theorem lc_504 : Cond.fieldLink "NoonOnABarrow" 89 "NoonOnABarrow" "doings" "LNoonOnABarrow$Doings;" ∈ x_tb := x_tb_in (List.mem_of_getElem? (i := 504) (by decide +kernel)) (by decide +kernel)
theorem lc_505 : Cond.fieldLink "NoonOnABarrow" 96 "NoonOnABarrow" "ways" "LNoonOnABarrow$Ways;" ∈ x_tb := x_tb_in (List.mem_of_getElem? (i := 505) (by decide +kernel)) (by decide +kernel)
theorem lc_506 : Cond.fieldLink "NoonOnABarrow" 103 "NoonOnABarrow" "counsel" "LNoonOnABarrow$Counsel;" ∈ x_tb := x_tb_in (List.mem_of_getElem? (i := 506) (by decide +kernel)) (by decide +kernel)
theorem lc_507 : Cond.fieldLink "NoonOnABarrow" 107 "NoonOnABarrow" "guess" "LNoonOnABarrow$Day;" ∈ x_tb := x_tb_in (List.mem_of_getElem? (i := 507) (by decide +kernel)) (by decide +kernel)
theorem lc_1042 : Cond.arrayClass .byte ∈ x_tb := x_tb_in (List.mem_of_getElem? (i := 1042) (by decide +kernel)) (by decide +kernel)
theorem lc_1356 : Cond.methodLink "NoonOnABarrowModel" 1 Lib.objectInit ∈ x_tb := x_tb_in (List.mem_of_getElem? (i := 1356) (by decide +kernel)) (by decide +kernel)
theorem lc_1357 : Cond.methodLink "NoonOnABarrowModel" 109 yX12_copies ∈ x_tb := x_tb_in (List.mem_of_getElem? (i := 1357) (by decide +kernel)) (by decide +kernel)
theorem lc_1361 : Cond.fieldLink "NoonOnABarrowModel" 7 "NoonOnABarrowModel" "a" "[I" ∈ x_tb := x_tb_in (List.mem_of_getElem? (i := 1361) (by decide +kernel)) (by decide +kernel)
theorem lc_1362 : Cond.fieldLink "NoonOnABarrowModel" 13 "NoonOnABarrowModel" "image" "[I" ∈ x_tb := x_tb_in (List.mem_of_getElem? (i := 1362) (by decide +kernel)) (by decide +kernel)
theorem lc_1363 : Cond.fieldLink "NoonOnABarrowModel" 16 "NoonOnABarrowModel" "tape" "[B" ∈ x_tb := x_tb_in (List.mem_of_getElem? (i := 1363) (by decide +kernel)) (by decide +kernel)
theorem lc_1365 : Cond.fieldLink "NoonOnABarrowModel" 20 "NoonOnABarrowModel" "fault" "I" ∈ x_tb := x_tb_in (List.mem_of_getElem? (i := 1365) (by decide +kernel)) (by decide +kernel)
theorem lc_1366 : Cond.fieldLink "NoonOnABarrowModel" 24 "NoonOnABarrowModel" "faultAt" "I" ∈ x_tb := x_tb_in (List.mem_of_getElem? (i := 1366) (by decide +kernel)) (by decide +kernel)
theorem lc_1367 : Cond.fieldLink "NoonOnABarrowModel" 27 "NoonOnABarrowModel" "clauses" "[I" ∈ x_tb := x_tb_in (List.mem_of_getElem? (i := 1367) (by decide +kernel)) (by decide +kernel)
theorem lc_1368 : Cond.fieldLink "NoonOnABarrowModel" 30 "NoonOnABarrowModel" "clauseWord" "[I" ∈ x_tb := x_tb_in (List.mem_of_getElem? (i := 1368) (by decide +kernel)) (by decide +kernel)
theorem lc_1369 : Cond.fieldLink "NoonOnABarrowModel" 33 "NoonOnABarrowModel" "clauseAt" "[I" ∈ x_tb := x_tb_in (List.mem_of_getElem? (i := 1369) (by decide +kernel)) (by decide +kernel)
theorem lc_1370 : Cond.fieldLink "NoonOnABarrowModel" 36 "NoonOnABarrowModel" "clauseOne" "[I" ∈ x_tb := x_tb_in (List.mem_of_getElem? (i := 1370) (by decide +kernel)) (by decide +kernel)
theorem lc_1371 : Cond.fieldLink "NoonOnABarrowModel" 39 "NoonOnABarrowModel" "clauseTwo" "[I" ∈ x_tb := x_tb_in (List.mem_of_getElem? (i := 1371) (by decide +kernel)) (by decide +kernel)
theorem lc_1372 : Cond.fieldLink "NoonOnABarrowModel" 42 "NoonOnABarrowModel" "clauseThree" "[I" ∈ x_tb := x_tb_in (List.mem_of_getElem? (i := 1372) (by decide +kernel)) (by decide +kernel)
theorem lc_1373 : Cond.fieldLink "NoonOnABarrowModel" 45 "NoonOnABarrowModel" "order" "[I" ∈ x_tb := x_tb_in (List.mem_of_getElem? (i := 1373) (by decide +kernel)) (by decide +kernel)
theorem lc_1374 : Cond.fieldLink "NoonOnABarrowModel" 48 "NoonOnABarrowModel" "value" "[I" ∈ x_tb := x_tb_in (List.mem_of_getElem? (i := 1374) (by decide +kernel)) (by decide +kernel)
theorem lc_1384 : Cond.fieldLink "NoonOnABarrowModel" 51 "NoonOnABarrowModel" "frame" "[I" ∈ x_tb := x_tb_in (List.mem_of_getElem? (i := 1384) (by decide +kernel)) (by decide +kernel)
theorem lc_1385 : Cond.fieldLink "NoonOnABarrowModel" 54 "NoonOnABarrowModel" "compare" "[I" ∈ x_tb := x_tb_in (List.mem_of_getElem? (i := 1385) (by decide +kernel)) (by decide +kernel)
theorem lc_1387 : Cond.fieldLink "NoonOnABarrowModel" 57 "NoonOnABarrowModel" "wait" "[I" ∈ x_tb := x_tb_in (List.mem_of_getElem? (i := 1387) (by decide +kernel)) (by decide +kernel)
theorem lc_1388 : Cond.fieldLink "NoonOnABarrowModel" 60 "NoonOnABarrowModel" "waitFrame" "[I" ∈ x_tb := x_tb_in (List.mem_of_getElem? (i := 1388) (by decide +kernel)) (by decide +kernel)
theorem lc_1390 : Cond.fieldLink "NoonOnABarrowModel" 63 "NoonOnABarrowModel" "openAt" "[I" ∈ x_tb := x_tb_in (List.mem_of_getElem? (i := 1390) (by decide +kernel)) (by decide +kernel)
theorem lc_1393 : Cond.fieldLink "NoonOnABarrowModel" 66 "NoonOnABarrowModel" "newWord" "[I" ∈ x_tb := x_tb_in (List.mem_of_getElem? (i := 1393) (by decide +kernel)) (by decide +kernel)
theorem lc_1394 : Cond.fieldLink "NoonOnABarrowModel" 69 "NoonOnABarrowModel" "newAt" "[I" ∈ x_tb := x_tb_in (List.mem_of_getElem? (i := 1394) (by decide +kernel)) (by decide +kernel)
theorem lc_1395 : Cond.fieldLink "NoonOnABarrowModel" 72 "NoonOnABarrowModel" "newOne" "[I" ∈ x_tb := x_tb_in (List.mem_of_getElem? (i := 1395) (by decide +kernel)) (by decide +kernel)
theorem lc_1396 : Cond.fieldLink "NoonOnABarrowModel" 75 "NoonOnABarrowModel" "newTwo" "[I" ∈ x_tb := x_tb_in (List.mem_of_getElem? (i := 1396) (by decide +kernel)) (by decide +kernel)
theorem lc_1397 : Cond.fieldLink "NoonOnABarrowModel" 78 "NoonOnABarrowModel" "newThree" "[I" ∈ x_tb := x_tb_in (List.mem_of_getElem? (i := 1397) (by decide +kernel)) (by decide +kernel)
theorem lc_1399 : Cond.fieldLink "NoonOnABarrowModel" 81 "NoonOnABarrowModel" "newOrder" "[I" ∈ x_tb := x_tb_in (List.mem_of_getElem? (i := 1399) (by decide +kernel)) (by decide +kernel)
theorem lc_1400 : Cond.fieldLink "NoonOnABarrowModel" 84 "NoonOnABarrowModel" "newValue" "[I" ∈ x_tb := x_tb_in (List.mem_of_getElem? (i := 1400) (by decide +kernel)) (by decide +kernel)
theorem lc_1401 : Cond.fieldLink "NoonOnABarrowModel" 87 "NoonOnABarrowModel" "far" "[I" ∈ x_tb := x_tb_in (List.mem_of_getElem? (i := 1401) (by decide +kernel)) (by decide +kernel)
theorem lc_1402 : Cond.fieldLink "NoonOnABarrowModel" 90 "NoonOnABarrowModel" "w" "[I" ∈ x_tb := x_tb_in (List.mem_of_getElem? (i := 1402) (by decide +kernel)) (by decide +kernel)
theorem lc_1403 : Cond.fieldLink "NoonOnABarrowModel" 93 "NoonOnABarrowModel" "name" "[I" ∈ x_tb := x_tb_in (List.mem_of_getElem? (i := 1403) (by decide +kernel)) (by decide +kernel)
theorem lc_1404 : Cond.fieldLink "NoonOnABarrowModel" 96 "NoonOnABarrowModel" "pile" "[J" ∈ x_tb := x_tb_in (List.mem_of_getElem? (i := 1404) (by decide +kernel)) (by decide +kernel)
theorem lc_1405 : Cond.fieldLink "NoonOnABarrowModel" 100 "NoonOnABarrowModel" "yet" "[I" ∈ x_tb := x_tb_in (List.mem_of_getElem? (i := 1405) (by decide +kernel)) (by decide +kernel)
theorem lc_1406 : Cond.fieldLink "NoonOnABarrowModel" 103 "NoonOnABarrowModel" "pushing" "[I" ∈ x_tb := x_tb_in (List.mem_of_getElem? (i := 1406) (by decide +kernel)) (by decide +kernel)
theorem lc_1407 : Cond.fieldLink "NoonOnABarrowModel" 106 "NoonOnABarrowModel" "had" "[I" ∈ x_tb := x_tb_in (List.mem_of_getElem? (i := 1407) (by decide +kernel)) (by decide +kernel)
theorem lc_1503 : Cond.arrayClass .long ∈ x_tb := x_tb_in (List.mem_of_getElem? (i := 1503) (by decide +kernel)) (by decide +kernel)
theorem lc_obj : Cond.instanceMethod Lib.objectInit ∈ x_tb ∧ Cond.code Lib.objectInit ⟨#[0xb1]⟩ 1 none ∈ x_tb := ⟨x_tb_in (List.mem_of_getElem? (i := 142) (by decide +kernel)) (by decide +kernel), x_tb_in (List.mem_of_getElem? (i := 143) (by decide +kernel)) (by decide +kernel)⟩
set_option maxRecDepth 100000 in
theorem cok_mX11_init : x_cok mX11_init 0 := ⟨x_tb_in (List.mem_of_getElem? (i := 115) (by decide +kernel)) (by decide +kernel), x_tb_in (List.mem_of_getElem? (i := 140) rfl) rfl, ⟨by decide, by decide, by decide +kernel⟩, by decide⟩
theorem lc_ins_mX11_init : Cond.instanceMethod mX11_init.1 ∈ x_tb := x_tb_in (List.mem_of_getElem? (i := 139) (by decide +kernel)) (by decide +kernel)
set_option maxRecDepth 100000 in
theorem cok_mX12_init : x_cok mX12_init 0 := ⟨x_tb_in (List.mem_of_getElem? (i := 127) (by decide +kernel)) (by decide +kernel), x_tb_in (List.mem_of_getElem? (i := 1355) rfl) rfl, ⟨by decide, by decide, by decide +kernel⟩, by decide⟩
theorem lc_ins_mX12_init : Cond.instanceMethod mX12_init.1 ∈ x_tb := x_tb_in (List.mem_of_getElem? (i := 1354) (by decide +kernel)) (by decide +kernel)
set_option maxRecDepth 100000 in
theorem cok_mX0_init : x_cok mX0_init 2 := ⟨x_tb_in (List.mem_of_getElem? (i := 126) (by decide +kernel)) (by decide +kernel), x_tb_in (List.mem_of_getElem? (i := 478) rfl) rfl, ⟨by decide, by decide, by decide +kernel⟩, by decide⟩
theorem lc_ins_mX0_init : Cond.instanceMethod mX0_init.1 ∈ x_tb := x_tb_in (List.mem_of_getElem? (i := 477) (by decide +kernel)) (by decide +kernel)
set_option maxRecDepth 100000 in
theorem cok_mX1_init : x_cok mX1_init 0 := ⟨x_tb_in (List.mem_of_getElem? (i := 118) (by decide +kernel)) (by decide +kernel), x_tb_in (List.mem_of_getElem? (i := 223) rfl) rfl, ⟨by decide, by decide, by decide +kernel⟩, by decide⟩
theorem lc_ins_mX1_init : Cond.instanceMethod mX1_init.1 ∈ x_tb := x_tb_in (List.mem_of_getElem? (i := 222) (by decide +kernel)) (by decide +kernel)
set_option maxRecDepth 100000 in
theorem cok_mX2_init : x_cok mX2_init 2 := ⟨x_tb_in (List.mem_of_getElem? (i := 124) (by decide +kernel)) (by decide +kernel), x_tb_in (List.mem_of_getElem? (i := 427) rfl) rfl, ⟨by decide, by decide, by decide +kernel⟩, by decide⟩
theorem lc_ins_mX2_init : Cond.instanceMethod mX2_init.1 ∈ x_tb := x_tb_in (List.mem_of_getElem? (i := 426) (by decide +kernel)) (by decide +kernel)
set_option maxRecDepth 100000 in
theorem cok_mX3_init : x_cok mX3_init 0 := ⟨x_tb_in (List.mem_of_getElem? (i := 116) (by decide +kernel)) (by decide +kernel), x_tb_in (List.mem_of_getElem? (i := 148) rfl) rfl, ⟨by decide, by decide, by decide +kernel⟩, by decide⟩
theorem lc_ins_mX3_init : Cond.instanceMethod mX3_init.1 ∈ x_tb := x_tb_in (List.mem_of_getElem? (i := 147) (by decide +kernel)) (by decide +kernel)
set_option maxRecDepth 100000 in
theorem cok_mX4_init : x_cok mX4_init 1 := ⟨x_tb_in (List.mem_of_getElem? (i := 123) (by decide +kernel)) (by decide +kernel), x_tb_in (List.mem_of_getElem? (i := 404) rfl) rfl, ⟨by decide, by decide, by decide +kernel⟩, by decide⟩
theorem lc_ins_mX4_init : Cond.instanceMethod mX4_init.1 ∈ x_tb := x_tb_in (List.mem_of_getElem? (i := 403) (by decide +kernel)) (by decide +kernel)
set_option maxRecDepth 100000 in
theorem cok_mX5_init : x_cok mX5_init 0 := ⟨x_tb_in (List.mem_of_getElem? (i := 117) (by decide +kernel)) (by decide +kernel), x_tb_in (List.mem_of_getElem? (i := 154) rfl) rfl, ⟨by decide, by decide, by decide +kernel⟩, by decide⟩
theorem lc_ins_mX5_init : Cond.instanceMethod mX5_init.1 ∈ x_tb := x_tb_in (List.mem_of_getElem? (i := 153) (by decide +kernel)) (by decide +kernel)
set_option maxRecDepth 100000 in
theorem cok_mX6_init : x_cok mX6_init 1 := ⟨x_tb_in (List.mem_of_getElem? (i := 122) (by decide +kernel)) (by decide +kernel), x_tb_in (List.mem_of_getElem? (i := 375) rfl) rfl, ⟨by decide, by decide, by decide +kernel⟩, by decide⟩
theorem lc_ins_mX6_init : Cond.instanceMethod mX6_init.1 ∈ x_tb := x_tb_in (List.mem_of_getElem? (i := 374) (by decide +kernel)) (by decide +kernel)
set_option maxRecDepth 100000 in
theorem cok_mX7_init : x_cok mX7_init 0 := ⟨x_tb_in (List.mem_of_getElem? (i := 119) (by decide +kernel)) (by decide +kernel), x_tb_in (List.mem_of_getElem? (i := 284) rfl) rfl, ⟨by decide, by decide, by decide +kernel⟩, by decide⟩
theorem lc_ins_mX7_init : Cond.instanceMethod mX7_init.1 ∈ x_tb := x_tb_in (List.mem_of_getElem? (i := 283) (by decide +kernel)) (by decide +kernel)
set_option maxRecDepth 100000 in
theorem cok_mX8_init : x_cok mX8_init 0 := ⟨x_tb_in (List.mem_of_getElem? (i := 121) (by decide +kernel)) (by decide +kernel), x_tb_in (List.mem_of_getElem? (i := 349) rfl) rfl, ⟨by decide, by decide, by decide +kernel⟩, by decide⟩
theorem lc_ins_mX8_init : Cond.instanceMethod mX8_init.1 ∈ x_tb := x_tb_in (List.mem_of_getElem? (i := 348) (by decide +kernel)) (by decide +kernel)
set_option maxRecDepth 100000 in
theorem cok_mX9_init : x_cok mX9_init 0 := ⟨x_tb_in (List.mem_of_getElem? (i := 120) (by decide +kernel)) (by decide +kernel), x_tb_in (List.mem_of_getElem? (i := 305) rfl) rfl, ⟨by decide, by decide, by decide +kernel⟩, by decide⟩
theorem lc_ins_mX9_init : Cond.instanceMethod mX9_init.1 ∈ x_tb := x_tb_in (List.mem_of_getElem? (i := 304) (by decide +kernel)) (by decide +kernel)
set_option maxRecDepth 100000 in
theorem cok_mX10_init : x_cok mX10_init 2 := ⟨x_tb_in (List.mem_of_getElem? (i := 125) (by decide +kernel)) (by decide +kernel), x_tb_in (List.mem_of_getElem? (i := 440) rfl) rfl, ⟨by decide, by decide, by decide +kernel⟩, by decide⟩
theorem lc_ins_mX10_init : Cond.instanceMethod mX10_init.1 ∈ x_tb := x_tb_in (List.mem_of_getElem? (i := 439) (by decide +kernel)) (by decide +kernel)
theorem o_nameS {d : Nat} {μ : x_M} {N0 N pc : Nat} {Q : x_S → Option Value → Prop} {L : List (Nat × Value)} {st : List Value} {σ : x_S} (h : ∀ σ1, σ1 = σ → x_Wg d μ N0 Q N pc L st σ1) : x_Wg d μ N0 Q N pc L st σ := h σ rfl
end
section
set_option maxRecDepth 20000 in
theorem e_X11_init {d : Nat} {N0 : Nat} {Q : x_S → Option Value → Prop} {o : Nat} (ho : x_sh o = (11, 18)) {σ : x_S} (h : x_sh N0 = (3, 9) ∧ N0 + 1 ≤ N0 + 344 ∧ x_sl N0 + 9 ≤ x_sl N0 + 12964 ∧ (N0 + 1 + 11 ≤ N0 + 344 ∧ x_sl (N0 + 1) + 186 ≤ x_sl N0 + 12964 ∧ x_sl (N0 + 1 + 11) = x_sl (N0 + 1) + 186 ∧ (x_Mt d mX3_init (N0 + 1) [.ref N0] (x_nw σ N0) (fun u1 r => r = none ∧ (o < N0 + 12 ∧ (∀ u2, u2 = x_wr u1 o 0 (some N0) → (x_sh (N0 + 12) = (1, 11) ∧ N0 + 12 + 1 ≤ N0 + 344 ∧ x_sl (N0 + 12) + 11 ≤ x_sl N0 + 12964 ∧ (N0 + 13 + 3 ≤ N0 + 344 ∧ x_sl (N0 + 13) + 106 ≤ x_sl N0 + 12964 ∧ x_sl (N0 + 13 + 3) = x_sl (N0 + 13) + 106 ∧ (x_Mt d mX1_init (N0 + 13) [.ref (N0 + 12)] (x_nw u2 (N0 + 12)) (fun u3 r => r = none ∧ (o < N0 + 16 ∧ (∀ u4, u4 = x_wr u3 o 1 (some (N0 + 12)) → (x_sh (N0 + 16) = (7, 3) ∧ N0 + 16 + 1 ≤ N0 + 344 ∧ x_sl (N0 + 16) + 3 ≤ x_sl N0 + 12964 ∧ (N0 + 17 + 121 ≤ N0 + 344 ∧ x_sl (N0 + 17) + 3540 ≤ x_sl N0 + 12964 ∧ x_sl (N0 + 17 + 121) = x_sl (N0 + 17) + 3540 ∧ (x_Mt d mX7_init (N0 + 17) [.ref (N0 + 16)] (x_nw u4 (N0 + 16)) (fun u5 r => r = none ∧ (o < N0 + 138 ∧ (∀ u6, u6 = x_wr u5 o 2 (some (N0 + 16)) → (x_sh (N0 + 138) = (23, 4) ∧ N0 + 138 + 1 ≤ N0 + 344 ∧ x_sl (N0 + 138) + 4 ≤ x_sl N0 + 12964 ∧ (o < N0 + 139 ∧ (∀ u7, u7 = x_wr (x_nw u6 (N0 + 138)) o 3 (some (N0 + 138)) → (x_Wg (d + 1) mX11_init N0 Q (N0 + 139) 47 [(0, .ref o), (1, .int 0)] [] u7)))))))))))))))))))))) : x_Mt (d + 1) mX11_init N0 [.ref o] σ Q := by
  refine x_of (by decide) (Nat.le_of_ble_eq_true rfl) ?_
  show x_Wg (d + 1) mX11_init N0 Q N0 0 [(0, .ref o)] [] σ
  refine o_aload_n (k := 0) 0 (by decide +kernel) rfl ?_
  refine o_objInit (i := 1) (by decide +kernel) lc_141 lc_obj (Nat.le_of_ble_eq_true rfl) ?_
  refine o_aload_n (k := 0) 0 (by decide +kernel) rfl ?_
  obtain ⟨a1, a2, a3, h⟩ := h
  refine o_new (t := 3) (i := 7) (by decide +kernel) lc_144 lc_145 lc_116 a1 rfl a2 a3 ?_
  refine o_dup (by decide +kernel) rfl ?_
  obtain ⟨a1, a2, a3, h⟩ := h
  refine o_callIN (o := N0) (μ' := mX3_init) (i := 9) (hn0 := "NoonOnABarrow") (vs := []) rfl (by decide +kernel) (by decide +kernel) cok_mX3_init lc_ins_mX3_init rfl rfl rfl (Nat.le_of_ble_eq_true rfl) a1 a2 a3 ?_
  refine x_Mt.mono h (fun u1 r h => ?_)
  obtain ⟨hr, h⟩ := h
  subst hr
  obtain ⟨a1, h⟩ := h
  refine o_putF (t := 11) (k := 0) (i := 10) (by decide +kernel) ho a1 rfl (by decide) rfl rfl rfl rfl (Or.inl ⟨_, rfl⟩) lc_490 ?_
  refine o_nameS (fun u2 eu2 => ?_)
  replace h := h u2 eu2
  refine o_aload_n (k := 0) 0 (by decide +kernel) rfl ?_
  obtain ⟨a1, a2, a3, h⟩ := h
  refine o_new (t := 1) (i := 16) (by decide +kernel) lc_219 lc_220 lc_118 a1 rfl a2 a3 ?_
  refine o_dup (by decide +kernel) rfl ?_
  obtain ⟨a1, a2, a3, h⟩ := h
  refine o_callIN (o := N0 + 12) (μ' := mX1_init) (i := 18) (hn0 := "NoonOnABarrow") (vs := []) rfl (by decide +kernel) (by decide +kernel) cok_mX1_init lc_ins_mX1_init rfl rfl rfl (Nat.le_of_ble_eq_true rfl) a1 a2 a3 ?_
  refine x_Mt.mono h (fun u3 r h => ?_)
  obtain ⟨hr, h⟩ := h
  subst hr
  obtain ⟨a1, h⟩ := h
  refine o_putF (t := 11) (k := 1) (i := 19) (by decide +kernel) ho a1 rfl (by decide) rfl rfl rfl rfl (Or.inl ⟨_, rfl⟩) lc_491 ?_
  refine o_nameS (fun u4 eu4 => ?_)
  replace h := h u4 eu4
  refine o_aload_n (k := 0) 0 (by decide +kernel) rfl ?_
  obtain ⟨a1, a2, a3, h⟩ := h
  refine o_new (t := 7) (i := 23) (by decide +kernel) lc_280 lc_281 lc_119 a1 rfl a2 a3 ?_
  refine o_dup (by decide +kernel) rfl ?_
  obtain ⟨a1, a2, a3, h⟩ := h
  refine o_callI (o := N0 + 16) (μ' := mX7_init) (i := 25) (vs := []) rfl (by decide +kernel) lc_282 cok_mX7_init lc_ins_mX7_init rfl rfl rfl (Nat.le_of_ble_eq_true rfl) a1 a2 a3 ?_
  refine x_Mt.mono h (fun u5 r h => ?_)
  obtain ⟨hr, h⟩ := h
  subst hr
  obtain ⟨a1, h⟩ := h
  refine o_putF (t := 11) (k := 2) (i := 26) (by decide +kernel) ho a1 rfl (by decide) rfl rfl rfl rfl (Or.inl ⟨_, rfl⟩) lc_492 ?_
  refine o_nameS (fun u6 eu6 => ?_)
  replace h := h u6 eu6
  refine o_aload_n (k := 0) 0 (by decide +kernel) rfl ?_
  refine o_iconst (n := 4) (v := 4) (by decide +kernel) (by decide) ?_
  obtain ⟨a1, a2, a3, h⟩ := h
  refine o_anewaT (j := 30) (by decide +kernel) lc_300 a1 (by decide) (by decide) (by decide) a2 a3 ?_
  obtain ⟨a1, h⟩ := h
  refine o_putF (t := 11) (k := 3) (i := 32) (by decide +kernel) ho a1 rfl (by decide) rfl rfl rfl rfl (Or.inr ⟨_, rfl⟩) lc_493 ?_
  refine o_nameS (fun u7 eu7 => ?_)
  replace h := h u7 eu7
  refine o_iconst (n := 0) (v := 0) (by decide +kernel) (by decide) ?_
  refine o_istore_n (k := 1) (L' := [(1, .int 0), (0, .ref o)]) (by decide +kernel) (by decide) rfl ?_
  refine o_sub [1, 0] rfl ?_
  exact h
set_option maxRecDepth 20000 in
theorem k_X11_init_47 {d : Nat} {N0 N : Nat} {Q : x_S → Option Value → Prop} {o : Nat} (ho : x_sh o = (11, 18)) {v1 : Int32} {σ : x_S} (h : o < N ∧ (∃ c1, σ.2.2 o 3 = some c1 ∧ (x_sh c1 = (23, 4) ∧ c1 < N ∧ ((4 ≤ v1 → o < N ∧ (∀ u2, u2 = x_wi σ o 4 0 → (o < N ∧ (∀ u3, u3 = x_wi u2 o 5 (-1) → (x_sh N = (3, 9) ∧ N + 1 ≤ N0 + 344 ∧ x_sl N + 9 ≤ x_sl N0 + 12964 ∧ (N + 1 + 11 ≤ N0 + 344 ∧ x_sl (N + 1) + 186 ≤ x_sl N0 + 12964 ∧ x_sl (N + 1 + 11) = x_sl (N + 1) + 186 ∧ (x_Mt d mX3_init (N + 1) [.ref N] (x_nw u3 N) (fun u4 r => r = none ∧ (o < N + 12 ∧ (∀ u5, u5 = x_wr u4 o 6 (some N) → (x_sh (N + 12) = (1, 11) ∧ N + 12 + 1 ≤ N0 + 344 ∧ x_sl (N + 12) + 11 ≤ x_sl N0 + 12964 ∧ (N + 13 + 3 ≤ N0 + 344 ∧ x_sl (N + 13) + 106 ≤ x_sl N0 + 12964 ∧ x_sl (N + 13 + 3) = x_sl (N + 13) + 106 ∧ (x_Mt d mX1_init (N + 13) [.ref (N + 12)] (x_nw u5 (N + 12)) (fun u6 r => r = none ∧ (o < N + 16 ∧ (∀ u7, u7 = x_wr u6 o 7 (some (N + 12)) → (x_sh (N + 16) = (7, 3) ∧ N + 16 + 1 ≤ N0 + 344 ∧ x_sl (N + 16) + 3 ≤ x_sl N0 + 12964 ∧ (N + 17 + 121 ≤ N0 + 344 ∧ x_sl (N + 17) + 3540 ≤ x_sl N0 + 12964 ∧ x_sl (N + 17 + 121) = x_sl (N + 17) + 3540 ∧ (x_Mt d mX7_init (N + 17) [.ref (N + 16)] (x_nw u7 (N + 16)) (fun u8 r => r = none ∧ (o < N + 138 ∧ (∀ u9, u9 = x_wr u8 o 8 (some (N + 16)) → (o < N + 138 ∧ (∀ u10, u10 = x_wi u9 o 9 0 → (o < N + 138 ∧ (∀ u11, u11 = x_wi u10 o 10 (-1) → (x_sh (N + 138) = (8, 6) ∧ N + 138 + 1 ≤ N0 + 344 ∧ x_sl (N + 138) + 6 ≤ x_sl N0 + 12964 ∧ (N + 139 + 4 ≤ N0 + 344 ∧ x_sl (N + 139) + 1203 ≤ x_sl N0 + 12964 ∧ x_sl (N + 139 + 4) = x_sl (N + 139) + 1203 ∧ (x_Mt d mX8_init (N + 139) [.ref (N + 138)] (x_nw u11 (N + 138)) (fun u12 r => r = none ∧ (o < N + 143 ∧ (∀ u13, u13 = x_wr u12 o 11 (some (N + 138)) → (x_sh (N + 143) = (6, 6) ∧ N + 143 + 1 ≤ N0 + 344 ∧ x_sl (N + 143) + 6 ≤ x_sl N0 + 12964 ∧ (o < N + 144 ∧ (∃ c14, (x_nw u13 (N + 143)).2.2 o 11 = some c14 ∧ (N + 144 + 9 ≤ N0 + 344 ∧ x_sl (N + 144) + 714 ≤ x_sl N0 + 12964 ∧ x_sl (N + 144 + 9) = x_sl (N + 144) + 714 ∧ (x_Mt d mX6_init (N + 144) [.ref (N + 143), .ref c14] (x_nw u13 (N + 143)) (fun u15 r => r = none ∧ (o < N + 153 ∧ (∀ u16, u16 = x_wr u15 o 12 (some (N + 143)) → (x_sh (N + 153) = (4, 5) ∧ N + 153 + 1 ≤ N0 + 344 ∧ x_sl (N + 153) + 5 ≤ x_sl N0 + 12964 ∧ (o < N + 154 ∧ (∃ c17, (x_nw u16 (N + 153)).2.2 o 0 = some c17 ∧ (N + 154 + 2 ≤ N0 + 344 ∧ x_sl (N + 154) + 96 ≤ x_sl N0 + 12964 ∧ x_sl (N + 154 + 2) = x_sl (N + 154) + 96 ∧ (x_Mt d mX4_init (N + 154) [.ref (N + 153), .ref c17] (x_nw u16 (N + 153)) (fun u18 r => r = none ∧ (o < N + 156 ∧ (∀ u19, u19 = x_wr u18 o 13 (some (N + 153)) → (x_sh (N + 156) = (2, 2) ∧ N + 156 + 1 ≤ N0 + 344 ∧ x_sl (N + 156) + 2 ≤ x_sl N0 + 12964 ∧ (o < N + 157 ∧ (∃ c20, (x_nw u19 (N + 156)).2.2 o 0 = some c20 ∧ (o < N + 157 ∧ (∃ c21, (x_nw u19 (N + 156)).2.2 o 13 = some c21 ∧ (N + 157 + 0 ≤ N0 + 344 ∧ x_sl (N + 157) + 0 ≤ x_sl N0 + 12964 ∧ x_sl (N + 157 + 0) = x_sl (N + 157) + 0 ∧ (x_Mt d mX2_init (N + 157) [.ref (N + 156), .ref c20, .ref c21] (x_nw u19 (N + 156)) (fun u22 r => r = none ∧ (o < N + 157 ∧ (∀ u23, u23 = x_wr u22 o 14 (some (N + 156)) → (x_sh (N + 157) = (10, 10) ∧ N + 157 + 1 ≤ N0 + 344 ∧ x_sl (N + 157) + 10 ≤ x_sl N0 + 12964 ∧ (o < N + 158 ∧ (∃ c24, (x_nw u23 (N + 157)).2.2 o 0 = some c24 ∧ (o < N + 158 ∧ (∃ c25, (x_nw u23 (N + 157)).2.2 o 13 = some c25 ∧ (N + 158 + 5 ≤ N0 + 344 ∧ x_sl (N + 158) + 224 ≤ x_sl N0 + 12964 ∧ x_sl (N + 158 + 5) = x_sl (N + 158) + 224 ∧ (x_Mt d mX10_init (N + 158) [.ref (N + 157), .ref c24, .ref c25] (x_nw u23 (N + 157)) (fun u26 r => r = none ∧ (o < N + 163 ∧ (∀ u27, u27 = x_wr u26 o 15 (some (N + 157)) → (x_sh (N + 163) = (0, 3) ∧ N + 163 + 1 ≤ N0 + 344 ∧ x_sl (N + 163) + 3 ≤ x_sl N0 + 12964 ∧ (o < N + 164 ∧ (∃ c28, (x_nw u27 (N + 163)).2.2 o 0 = some c28 ∧ (o < N + 164 ∧ (∃ c29, (x_nw u27 (N + 163)).2.2 o 13 = some c29 ∧ (N + 164 + 1 ≤ N0 + 344 ∧ x_sl (N + 164) + 8 ≤ x_sl N0 + 12964 ∧ x_sl (N + 164 + 1) = x_sl (N + 164) + 8 ∧ (x_Mt d mX0_init (N + 164) [.ref (N + 163), .ref c28, .ref c29] (x_nw u27 (N + 163)) (fun u30 r => r = none ∧ (o < N + 165 ∧ (∀ u31, u31 = x_wr u30 o 16 (some (N + 163)) → (x_sh (N + 165) = (1, 11) ∧ N + 165 + 1 ≤ N0 + 344 ∧ x_sl (N + 165) + 11 ≤ x_sl N0 + 12964 ∧ (N + 166 + 3 ≤ N0 + 344 ∧ x_sl (N + 166) + 106 ≤ x_sl N0 + 12964 ∧ x_sl (N + 166 + 3) = x_sl (N + 166) + 106 ∧ (x_Mt d mX1_init (N + 166) [.ref (N + 165)] (x_nw u31 (N + 165)) (fun u32 r => r = none ∧ (o < N + 169 ∧ (∀ u33, u33 = x_wr u32 o 17 (some (N + 165)) → (N + 169 = N0 + 344 ∧ Q u33 none))))))))))))))))))))))))))))))))))))))))))))))))))))))))))))))))))))))))))))))))))))) ∧ (¬ 4 ≤ v1 → o < N ∧ (∃ c34, σ.2.2 o 3 = some c34 ∧ (x_sh N = (9, 10) ∧ N + 1 ≤ N0 + 344 ∧ x_sl N + 10 ≤ x_sl N0 + 12964 ∧ (N + 1 + 8 ≤ N0 + 344 ∧ x_sl (N + 1) + 704 ≤ x_sl N0 + 12964 ∧ x_sl (N + 1 + 8) = x_sl (N + 1) + 704 ∧ (x_Mt d mX9_init (N + 1) [.ref N] (x_nw σ N) (fun u35 r => r = none ∧ (x_sh c34 = (23, 4) ∧ c34 < N + 9 ∧ vp_in v1 4 ∧ x_sh N = (9, 10) ∧ N < N + 9 ∧ (∀ u36, u36 = x_wr u35 c34 v1.toNatClampNeg (some N) → (∀ y37, y37 = v1 + 1 → (x_Wg (d + 1) mX11_init N0 Q (N + 9) 47 [(0, .ref o), (1, .int y37)] [] u36)))))))))))))) : x_Wg (d + 1) mX11_init N0 Q N 47 [(0, .ref o), (1, .int v1)] [] σ := by
  refine o_iload_n (k := 1) 1 (by decide +kernel) rfl ?_
  refine o_aload_n (k := 0) 0 (by decide +kernel) rfl ?_
  obtain ⟨a1, c1, ec1, h⟩ := h
  refine o_get (v := .ref c1) (t := 11) (k := 3) (i := 32) (by decide +kernel) ho a1 rfl (by decide) lc_493 (by simp [x_av, x_ty, tyX11, ec1, x_rf]) ?_
  obtain ⟨a1, a2, h⟩ := h
  refine o_alen (v := 4) (by decide +kernel) a1 (by decide) a2 (by decide) ?_
  refine o_icmp_ge (off := 22) 75 (by decide +kernel) (by decide) (fun q => ?_) (fun q => ?_)
  · replace h := h.1 q
    refine o_aload_n (k := 0) 0 (by decide +kernel) rfl ?_
    refine o_iconst (n := 0) (v := 0) (by decide +kernel) (by decide) ?_
    obtain ⟨a1, h⟩ := h
    refine o_putI (t := 11) (k := 4) (i := 37) (by decide +kernel) ho a1 rfl (by decide) rfl rfl lc_494 ?_
    refine o_nameS (fun u2 eu2 => ?_)
    replace h := h u2 eu2
    refine o_aload_n (k := 0) 0 (by decide +kernel) rfl ?_
    refine o_iconst (n := -1) (v := (-1)) (by decide +kernel) (by decide) ?_
    obtain ⟨a1, h⟩ := h
    refine o_putI (t := 11) (k := 5) (i := 41) (by decide +kernel) ho a1 rfl (by decide) rfl rfl lc_495 ?_
    refine o_nameS (fun u3 eu3 => ?_)
    replace h := h u3 eu3
    refine o_aload_n (k := 0) 0 (by decide +kernel) rfl ?_
    obtain ⟨a1, a2, a3, h⟩ := h
    refine o_new (t := 3) (i := 7) (by decide +kernel) lc_144 lc_145 lc_116 a1 rfl a2 a3 ?_
    refine o_dup (by decide +kernel) rfl ?_
    obtain ⟨a1, a2, a3, h⟩ := h
    refine o_callIN (o := N) (μ' := mX3_init) (i := 9) (hn0 := "NoonOnABarrow") (vs := []) rfl (by decide +kernel) (by decide +kernel) cok_mX3_init lc_ins_mX3_init rfl rfl rfl (Nat.le_of_ble_eq_true rfl) a1 a2 a3 ?_
    refine x_Mt.mono h (fun u4 r h => ?_)
    obtain ⟨hr, h⟩ := h
    subst hr
    obtain ⟨a1, h⟩ := h
    refine o_putF (t := 11) (k := 6) (i := 44) (by decide +kernel) ho a1 rfl (by decide) rfl rfl rfl rfl (Or.inl ⟨_, rfl⟩) lc_496 ?_
    refine o_nameS (fun u5 eu5 => ?_)
    replace h := h u5 eu5
    refine o_aload_n (k := 0) 0 (by decide +kernel) rfl ?_
    obtain ⟨a1, a2, a3, h⟩ := h
    refine o_new (t := 1) (i := 16) (by decide +kernel) lc_219 lc_220 lc_118 a1 rfl a2 a3 ?_
    refine o_dup (by decide +kernel) rfl ?_
    obtain ⟨a1, a2, a3, h⟩ := h
    refine o_callIN (o := N + 12) (μ' := mX1_init) (i := 18) (hn0 := "NoonOnABarrow") (vs := []) rfl (by decide +kernel) (by decide +kernel) cok_mX1_init lc_ins_mX1_init rfl rfl rfl (Nat.le_of_ble_eq_true rfl) a1 a2 a3 ?_
    refine x_Mt.mono h (fun u6 r h => ?_)
    obtain ⟨hr, h⟩ := h
    subst hr
    obtain ⟨a1, h⟩ := h
    refine o_putF (t := 11) (k := 7) (i := 47) (by decide +kernel) ho a1 rfl (by decide) rfl rfl rfl rfl (Or.inl ⟨_, rfl⟩) lc_497 ?_
    refine o_nameS (fun u7 eu7 => ?_)
    replace h := h u7 eu7
    refine o_aload_n (k := 0) 0 (by decide +kernel) rfl ?_
    obtain ⟨a1, a2, a3, h⟩ := h
    refine o_new (t := 7) (i := 23) (by decide +kernel) lc_280 lc_281 lc_119 a1 rfl a2 a3 ?_
    refine o_dup (by decide +kernel) rfl ?_
    obtain ⟨a1, a2, a3, h⟩ := h
    refine o_callI (o := N + 16) (μ' := mX7_init) (i := 25) (vs := []) rfl (by decide +kernel) lc_282 cok_mX7_init lc_ins_mX7_init rfl rfl rfl (Nat.le_of_ble_eq_true rfl) a1 a2 a3 ?_
    refine x_Mt.mono h (fun u8 r h => ?_)
    obtain ⟨hr, h⟩ := h
    subst hr
    obtain ⟨a1, h⟩ := h
    refine o_putF (t := 11) (k := 8) (i := 50) (by decide +kernel) ho a1 rfl (by decide) rfl rfl rfl rfl (Or.inl ⟨_, rfl⟩) lc_498 ?_
    refine o_nameS (fun u9 eu9 => ?_)
    replace h := h u9 eu9
    refine o_aload_n (k := 0) 0 (by decide +kernel) rfl ?_
    refine o_iconst (n := 0) (v := 0) (by decide +kernel) (by decide) ?_
    obtain ⟨a1, h⟩ := h
    refine o_putI (t := 11) (k := 9) (i := 53) (by decide +kernel) ho a1 rfl (by decide) rfl rfl lc_499 ?_
    refine o_nameS (fun u10 eu10 => ?_)
    replace h := h u10 eu10
    refine o_aload_n (k := 0) 0 (by decide +kernel) rfl ?_
    refine o_iconst (n := -1) (v := (-1)) (by decide +kernel) (by decide) ?_
    obtain ⟨a1, h⟩ := h
    refine o_putI (t := 11) (k := 10) (i := 56) (by decide +kernel) ho a1 rfl (by decide) rfl rfl lc_500 ?_
    refine o_nameS (fun u11 eu11 => ?_)
    replace h := h u11 eu11
    refine o_aload_n (k := 0) 0 (by decide +kernel) rfl ?_
    obtain ⟨a1, a2, a3, h⟩ := h
    refine o_new (t := 8) (i := 59) (by decide +kernel) lc_345 lc_346 lc_121 a1 rfl a2 a3 ?_
    refine o_dup (by decide +kernel) rfl ?_
    obtain ⟨a1, a2, a3, h⟩ := h
    refine o_callIN (o := N + 138) (μ' := mX8_init) (i := 61) (hn0 := "NoonOnABarrow") (vs := []) rfl (by decide +kernel) (by decide +kernel) cok_mX8_init lc_ins_mX8_init rfl rfl rfl (Nat.le_of_ble_eq_true rfl) a1 a2 a3 ?_
    refine x_Mt.mono h (fun u12 r h => ?_)
    obtain ⟨hr, h⟩ := h
    subst hr
    obtain ⟨a1, h⟩ := h
    refine o_putF (t := 11) (k := 11) (i := 62) (by decide +kernel) ho a1 rfl (by decide) rfl rfl rfl rfl (Or.inl ⟨_, rfl⟩) lc_501 ?_
    refine o_nameS (fun u13 eu13 => ?_)
    replace h := h u13 eu13
    refine o_aload_n (k := 0) 0 (by decide +kernel) rfl ?_
    obtain ⟨a1, a2, a3, h⟩ := h
    refine o_new (t := 6) (i := 66) (by decide +kernel) lc_371 lc_372 lc_122 a1 rfl a2 a3 ?_
    refine o_dup (by decide +kernel) rfl ?_
    refine o_aload_n (k := 0) 0 (by decide +kernel) rfl ?_
    obtain ⟨a1, c14, ec14, h⟩ := h
    refine o_get (v := .ref c14) (t := 11) (k := 11) (i := 62) (by decide +kernel) ho a1 rfl (by decide) lc_501 (by simp [x_av, x_ty, tyX11, ec14, x_rf]) ?_
    obtain ⟨a1, a2, a3, h⟩ := h
    refine o_callI (o := N + 143) (μ' := mX6_init) (i := 68) (vs := [.ref c14]) rfl (by decide +kernel) lc_373 cok_mX6_init lc_ins_mX6_init rfl rfl rfl (Nat.le_of_ble_eq_true rfl) a1 a2 a3 ?_
    refine x_Mt.mono h (fun u15 r h => ?_)
    obtain ⟨hr, h⟩ := h
    subst hr
    obtain ⟨a1, h⟩ := h
    refine o_putF (t := 11) (k := 12) (i := 71) (by decide +kernel) ho a1 rfl (by decide) rfl rfl rfl rfl (Or.inl ⟨_, rfl⟩) lc_502 ?_
    refine o_nameS (fun u16 eu16 => ?_)
    replace h := h u16 eu16
    refine o_aload_n (k := 0) 0 (by decide +kernel) rfl ?_
    obtain ⟨a1, a2, a3, h⟩ := h
    refine o_new (t := 4) (i := 75) (by decide +kernel) lc_400 lc_401 lc_123 a1 rfl a2 a3 ?_
    refine o_dup (by decide +kernel) rfl ?_
    refine o_aload_n (k := 0) 0 (by decide +kernel) rfl ?_
    obtain ⟨a1, c17, ec17, h⟩ := h
    refine o_get (v := .ref c17) (t := 11) (k := 0) (i := 10) (by decide +kernel) ho a1 rfl (by decide) lc_490 (by simp [x_av, x_ty, tyX11, ec17, x_rf]) ?_
    obtain ⟨a1, a2, a3, h⟩ := h
    refine o_callI (o := N + 153) (μ' := mX4_init) (i := 77) (vs := [.ref c17]) rfl (by decide +kernel) lc_402 cok_mX4_init lc_ins_mX4_init rfl rfl rfl (Nat.le_of_ble_eq_true rfl) a1 a2 a3 ?_
    refine x_Mt.mono h (fun u18 r h => ?_)
    obtain ⟨hr, h⟩ := h
    subst hr
    obtain ⟨a1, h⟩ := h
    refine o_putF (t := 11) (k := 13) (i := 80) (by decide +kernel) ho a1 rfl (by decide) rfl rfl rfl rfl (Or.inl ⟨_, rfl⟩) lc_503 ?_
    refine o_nameS (fun u19 eu19 => ?_)
    replace h := h u19 eu19
    refine o_aload_n (k := 0) 0 (by decide +kernel) rfl ?_
    obtain ⟨a1, a2, a3, h⟩ := h
    refine o_new (t := 2) (i := 84) (by decide +kernel) lc_423 lc_424 lc_124 a1 rfl a2 a3 ?_
    refine o_dup (by decide +kernel) rfl ?_
    refine o_aload_n (k := 0) 0 (by decide +kernel) rfl ?_
    obtain ⟨a1, c20, ec20, h⟩ := h
    refine o_get (v := .ref c20) (t := 11) (k := 0) (i := 10) (by decide +kernel) ho a1 rfl (by decide) lc_490 (by simp [x_av, x_ty, tyX11, ec20, x_rf]) ?_
    refine o_aload_n (k := 0) 0 (by decide +kernel) rfl ?_
    obtain ⟨a1, c21, ec21, h⟩ := h
    refine o_get (v := .ref c21) (t := 11) (k := 13) (i := 80) (by decide +kernel) ho a1 rfl (by decide) lc_503 (by simp [x_av, x_ty, tyX11, ec21, x_rf]) ?_
    obtain ⟨a1, a2, a3, h⟩ := h
    refine o_callI (o := N + 156) (μ' := mX2_init) (i := 86) (vs := [.ref c20, .ref c21]) rfl (by decide +kernel) lc_425 cok_mX2_init lc_ins_mX2_init rfl rfl rfl (Nat.le_of_ble_eq_true rfl) a1 a2 a3 ?_
    refine x_Mt.mono h (fun u22 r h => ?_)
    obtain ⟨hr, h⟩ := h
    subst hr
    obtain ⟨a1, h⟩ := h
    refine o_putF (t := 11) (k := 14) (i := 89) (by decide +kernel) ho a1 rfl (by decide) rfl rfl rfl rfl (Or.inl ⟨_, rfl⟩) lc_504 ?_
    refine o_nameS (fun u23 eu23 => ?_)
    replace h := h u23 eu23
    refine o_aload_n (k := 0) 0 (by decide +kernel) rfl ?_
    obtain ⟨a1, a2, a3, h⟩ := h
    refine o_new (t := 10) (i := 93) (by decide +kernel) lc_436 lc_437 lc_125 a1 rfl a2 a3 ?_
    refine o_dup (by decide +kernel) rfl ?_
    refine o_aload_n (k := 0) 0 (by decide +kernel) rfl ?_
    obtain ⟨a1, c24, ec24, h⟩ := h
    refine o_get (v := .ref c24) (t := 11) (k := 0) (i := 10) (by decide +kernel) ho a1 rfl (by decide) lc_490 (by simp [x_av, x_ty, tyX11, ec24, x_rf]) ?_
    refine o_aload_n (k := 0) 0 (by decide +kernel) rfl ?_
    obtain ⟨a1, c25, ec25, h⟩ := h
    refine o_get (v := .ref c25) (t := 11) (k := 13) (i := 80) (by decide +kernel) ho a1 rfl (by decide) lc_503 (by simp [x_av, x_ty, tyX11, ec25, x_rf]) ?_
    obtain ⟨a1, a2, a3, h⟩ := h
    refine o_callI (o := N + 157) (μ' := mX10_init) (i := 95) (vs := [.ref c24, .ref c25]) rfl (by decide +kernel) lc_438 cok_mX10_init lc_ins_mX10_init rfl rfl rfl (Nat.le_of_ble_eq_true rfl) a1 a2 a3 ?_
    refine x_Mt.mono h (fun u26 r h => ?_)
    obtain ⟨hr, h⟩ := h
    subst hr
    obtain ⟨a1, h⟩ := h
    refine o_putF (t := 11) (k := 15) (i := 96) (by decide +kernel) ho a1 rfl (by decide) rfl rfl rfl rfl (Or.inl ⟨_, rfl⟩) lc_505 ?_
    refine o_nameS (fun u27 eu27 => ?_)
    replace h := h u27 eu27
    refine o_aload_n (k := 0) 0 (by decide +kernel) rfl ?_
    obtain ⟨a1, a2, a3, h⟩ := h
    refine o_new (t := 0) (i := 100) (by decide +kernel) lc_474 lc_475 lc_126 a1 rfl a2 a3 ?_
    refine o_dup (by decide +kernel) rfl ?_
    refine o_aload_n (k := 0) 0 (by decide +kernel) rfl ?_
    obtain ⟨a1, c28, ec28, h⟩ := h
    refine o_get (v := .ref c28) (t := 11) (k := 0) (i := 10) (by decide +kernel) ho a1 rfl (by decide) lc_490 (by simp [x_av, x_ty, tyX11, ec28, x_rf]) ?_
    refine o_aload_n (k := 0) 0 (by decide +kernel) rfl ?_
    obtain ⟨a1, c29, ec29, h⟩ := h
    refine o_get (v := .ref c29) (t := 11) (k := 13) (i := 80) (by decide +kernel) ho a1 rfl (by decide) lc_503 (by simp [x_av, x_ty, tyX11, ec29, x_rf]) ?_
    obtain ⟨a1, a2, a3, h⟩ := h
    refine o_callI (o := N + 163) (μ' := mX0_init) (i := 102) (vs := [.ref c28, .ref c29]) rfl (by decide +kernel) lc_476 cok_mX0_init lc_ins_mX0_init rfl rfl rfl (Nat.le_of_ble_eq_true rfl) a1 a2 a3 ?_
    refine x_Mt.mono h (fun u30 r h => ?_)
    obtain ⟨hr, h⟩ := h
    subst hr
    obtain ⟨a1, h⟩ := h
    refine o_putF (t := 11) (k := 16) (i := 103) (by decide +kernel) ho a1 rfl (by decide) rfl rfl rfl rfl (Or.inl ⟨_, rfl⟩) lc_506 ?_
    refine o_nameS (fun u31 eu31 => ?_)
    replace h := h u31 eu31
    refine o_aload_n (k := 0) 0 (by decide +kernel) rfl ?_
    obtain ⟨a1, a2, a3, h⟩ := h
    refine o_new (t := 1) (i := 16) (by decide +kernel) lc_219 lc_220 lc_118 a1 rfl a2 a3 ?_
    refine o_dup (by decide +kernel) rfl ?_
    obtain ⟨a1, a2, a3, h⟩ := h
    refine o_callIN (o := N + 165) (μ' := mX1_init) (i := 18) (hn0 := "NoonOnABarrow") (vs := []) rfl (by decide +kernel) (by decide +kernel) cok_mX1_init lc_ins_mX1_init rfl rfl rfl (Nat.le_of_ble_eq_true rfl) a1 a2 a3 ?_
    refine x_Mt.mono h (fun u32 r h => ?_)
    obtain ⟨hr, h⟩ := h
    subst hr
    obtain ⟨a1, h⟩ := h
    refine o_putF (t := 11) (k := 17) (i := 107) (by decide +kernel) ho a1 rfl (by decide) rfl rfl rfl rfl (Or.inl ⟨_, rfl⟩) lc_507 ?_
    refine o_nameS (fun u33 eu33 => ?_)
    replace h := h u33 eu33
    exact o_vret rfl (by decide +kernel) h.1 h.2
  · replace h := h.2 q
    refine o_aload_n (k := 0) 0 (by decide +kernel) rfl ?_
    obtain ⟨a1, c34, ec34, h⟩ := h
    refine o_get (v := .ref c34) (t := 11) (k := 3) (i := 32) (by decide +kernel) ho a1 rfl (by decide) lc_493 (by simp [x_av, x_ty, tyX11, ec34, x_rf]) ?_
    refine o_iload_n (k := 1) 1 (by decide +kernel) rfl ?_
    obtain ⟨a1, a2, a3, h⟩ := h
    refine o_new (t := 9) (i := 30) (by decide +kernel) lc_300 lc_302 lc_120 a1 rfl a2 a3 ?_
    refine o_dup (by decide +kernel) rfl ?_
    obtain ⟨a1, a2, a3, h⟩ := h
    refine o_callIN (o := N) (μ' := mX9_init) (i := 36) (hn0 := "NoonOnABarrow") (vs := []) rfl (by decide +kernel) (by decide +kernel) cok_mX9_init lc_ins_mX9_init rfl rfl rfl (Nat.le_of_ble_eq_true rfl) a1 a2 a3 ?_
    refine x_Mt.mono h (fun u35 r h => ?_)
    obtain ⟨hr, h⟩ := h
    subst hr
    obtain ⟨a1, a2, a3, a4, a5, h⟩ := h
    refine o_aastT (t := 9) (by decide +kernel) a1 a2 a3 a4 a5 rfl rfl ?_
    refine o_nameS (fun u36 eu36 => ?_)
    replace h := h u36 eu36
    obtain ⟨y37, ey37⟩ : ∃ y : Int32, y = v1 + 1 := ⟨_, rfl⟩
    replace h := h y37 ey37
    refine o_iinc (i := 1) (n := 1) (v := y37) (L' := [(1, .int y37), (0, .ref o)]) 1 (by decide +kernel) rfl (by rw [ey37]; rfl) (by decide) rfl ?_
    refine o_goto (off := -25) 47 (by decide +kernel) (by decide) ?_
    refine o_sub [1, 0] rfl ?_
    exact h
set_option maxRecDepth 20000 in
theorem e_X12_init {d : Nat} {N0 : Nat} {Q : x_S → Option Value → Prop} {o : Nat} (ho : x_sh o = (12, 47)) {σ : x_S} (h : x_sh N0 = (20, 3670) ∧ N0 + 1 ≤ N0 + 30 ∧ x_sl N0 + 3670 ≤ x_sl N0 + 13004 ∧ (o < N0 + 1 ∧ (∀ u1, u1 = x_wr (x_nw σ N0) o 0 (some N0) → (x_sh (N0 + 1) = (20, 3670) ∧ N0 + 1 + 1 ≤ N0 + 30 ∧ x_sl (N0 + 1) + 3670 ≤ x_sl N0 + 13004 ∧ (o < N0 + 2 ∧ (∀ u2, u2 = x_wr (x_nw u1 (N0 + 1)) o 1 (some (N0 + 1)) → (x_sh (N0 + 2) = (21, 300) ∧ N0 + 2 + 1 ≤ N0 + 30 ∧ x_sl (N0 + 2) + 300 ≤ x_sl N0 + 13004 ∧ (o < N0 + 3 ∧ (∀ u3, u3 = x_wr (x_nw u2 (N0 + 2)) o 2 (some (N0 + 2)) → (o < N0 + 3 ∧ (∀ u4, u4 = x_wi u3 o 4 (-1) → (o < N0 + 3 ∧ (∀ u5, u5 = x_wi u4 o 5 (-1) → (x_sh (N0 + 3) = (20, 4) ∧ N0 + 3 + 1 ≤ N0 + 30 ∧ x_sl (N0 + 3) + 4 ≤ x_sl N0 + 13004 ∧ (o < N0 + 4 ∧ (∀ u6, u6 = x_wr (x_nw u5 (N0 + 3)) o 6 (some (N0 + 3)) → (x_sh (N0 + 4) = (20, 96) ∧ N0 + 4 + 1 ≤ N0 + 30 ∧ x_sl (N0 + 4) + 96 ≤ x_sl N0 + 13004 ∧ (o < N0 + 5 ∧ (∀ u7, u7 = x_wr (x_nw u6 (N0 + 4)) o 7 (some (N0 + 4)) → (x_sh (N0 + 5) = (20, 96) ∧ N0 + 5 + 1 ≤ N0 + 30 ∧ x_sl (N0 + 5) + 96 ≤ x_sl N0 + 13004 ∧ (o < N0 + 6 ∧ (∀ u8, u8 = x_wr (x_nw u7 (N0 + 5)) o 8 (some (N0 + 5)) → (x_sh (N0 + 6) = (20, 96) ∧ N0 + 6 + 1 ≤ N0 + 30 ∧ x_sl (N0 + 6) + 96 ≤ x_sl N0 + 13004 ∧ (o < N0 + 7 ∧ (∀ u9, u9 = x_wr (x_nw u8 (N0 + 6)) o 9 (some (N0 + 6)) → (x_sh (N0 + 7) = (20, 96) ∧ N0 + 7 + 1 ≤ N0 + 30 ∧ x_sl (N0 + 7) + 96 ≤ x_sl N0 + 13004 ∧ (o < N0 + 8 ∧ (∀ u10, u10 = x_wr (x_nw u9 (N0 + 7)) o 10 (some (N0 + 7)) → (x_sh (N0 + 8) = (20, 96) ∧ N0 + 8 + 1 ≤ N0 + 30 ∧ x_sl (N0 + 8) + 96 ≤ x_sl N0 + 13004 ∧ (o < N0 + 9 ∧ (∀ u11, u11 = x_wr (x_nw u10 (N0 + 8)) o 11 (some (N0 + 8)) → (x_sh (N0 + 9) = (20, 1600) ∧ N0 + 9 + 1 ≤ N0 + 30 ∧ x_sl (N0 + 9) + 1600 ≤ x_sl N0 + 13004 ∧ (o < N0 + 10 ∧ (∀ u12, u12 = x_wr (x_nw u11 (N0 + 9)) o 12 (some (N0 + 9)) → (x_sh (N0 + 10) = (20, 1600) ∧ N0 + 10 + 1 ≤ N0 + 30 ∧ x_sl (N0 + 10) + 1600 ≤ x_sl N0 + 13004 ∧ (o < N0 + 11 ∧ (∀ u13, u13 = x_wr (x_nw u12 (N0 + 10)) o 13 (some (N0 + 10)) → (x_sh (N0 + 11) = (20, 40) ∧ N0 + 11 + 1 ≤ N0 + 30 ∧ x_sl (N0 + 11) + 40 ≤ x_sl N0 + 13004 ∧ (o < N0 + 12 ∧ (∀ u14, u14 = x_wr (x_nw u13 (N0 + 11)) o 23 (some (N0 + 11)) → (x_sh (N0 + 12) = (20, 41) ∧ N0 + 12 + 1 ≤ N0 + 30 ∧ x_sl (N0 + 12) + 41 ≤ x_sl N0 + 13004 ∧ (o < N0 + 13 ∧ (∀ u15, u15 = x_wr (x_nw u14 (N0 + 12)) o 24 (some (N0 + 12)) → (x_sh (N0 + 13) = (20, 80) ∧ N0 + 13 + 1 ≤ N0 + 30 ∧ x_sl (N0 + 13) + 80 ≤ x_sl N0 + 13004 ∧ (o < N0 + 14 ∧ (∀ u16, u16 = x_wr (x_nw u15 (N0 + 13)) o 26 (some (N0 + 13)) → (x_sh (N0 + 14) = (20, 80) ∧ N0 + 14 + 1 ≤ N0 + 30 ∧ x_sl (N0 + 14) + 80 ≤ x_sl N0 + 13004 ∧ (o < N0 + 15 ∧ (∀ u17, u17 = x_wr (x_nw u16 (N0 + 14)) o 27 (some (N0 + 14)) → (x_sh (N0 + 15) = (20, 41) ∧ N0 + 15 + 1 ≤ N0 + 30 ∧ x_sl (N0 + 15) + 41 ≤ x_sl N0 + 13004 ∧ (o < N0 + 16 ∧ (∀ u18, u18 = x_wr (x_nw u17 (N0 + 15)) o 29 (some (N0 + 15)) → (x_sh (N0 + 16) = (20, 24) ∧ N0 + 16 + 1 ≤ N0 + 30 ∧ x_sl (N0 + 16) + 24 ≤ x_sl N0 + 13004 ∧ (o < N0 + 17 ∧ (∀ u19, u19 = x_wr (x_nw u18 (N0 + 16)) o 32 (some (N0 + 16)) → (x_sh (N0 + 17) = (20, 24) ∧ N0 + 17 + 1 ≤ N0 + 30 ∧ x_sl (N0 + 17) + 24 ≤ x_sl N0 + 13004 ∧ (o < N0 + 18 ∧ (∀ u20, u20 = x_wr (x_nw u19 (N0 + 17)) o 33 (some (N0 + 17)) → (x_sh (N0 + 18) = (20, 24) ∧ N0 + 18 + 1 ≤ N0 + 30 ∧ x_sl (N0 + 18) + 24 ≤ x_sl N0 + 13004 ∧ (o < N0 + 19 ∧ (∀ u21, u21 = x_wr (x_nw u20 (N0 + 18)) o 34 (some (N0 + 18)) → (x_sh (N0 + 19) = (20, 24) ∧ N0 + 19 + 1 ≤ N0 + 30 ∧ x_sl (N0 + 19) + 24 ≤ x_sl N0 + 13004 ∧ (o < N0 + 20 ∧ (∀ u22, u22 = x_wr (x_nw u21 (N0 + 19)) o 35 (some (N0 + 19)) → (x_sh (N0 + 20) = (20, 24) ∧ N0 + 20 + 1 ≤ N0 + 30 ∧ x_sl (N0 + 20) + 24 ≤ x_sl N0 + 13004 ∧ (o < N0 + 21 ∧ (∀ u23, u23 = x_wr (x_nw u22 (N0 + 20)) o 36 (some (N0 + 20)) → (x_sh (N0 + 21) = (20, 400) ∧ N0 + 21 + 1 ≤ N0 + 30 ∧ x_sl (N0 + 21) + 400 ≤ x_sl N0 + 13004 ∧ (o < N0 + 22 ∧ (∀ u24, u24 = x_wr (x_nw u23 (N0 + 21)) o 38 (some (N0 + 21)) → (x_sh (N0 + 22) = (20, 400) ∧ N0 + 22 + 1 ≤ N0 + 30 ∧ x_sl (N0 + 22) + 400 ≤ x_sl N0 + 13004 ∧ (o < N0 + 23 ∧ (∀ u25, u25 = x_wr (x_nw u24 (N0 + 22)) o 39 (some (N0 + 22)) → (x_sh (N0 + 23) = (20, 64) ∧ N0 + 23 + 1 ≤ N0 + 30 ∧ x_sl (N0 + 23) + 64 ≤ x_sl N0 + 13004 ∧ (o < N0 + 24 ∧ (∀ u26, u26 = x_wr (x_nw u25 (N0 + 23)) o 40 (some (N0 + 23)) → (x_sh (N0 + 24) = (20, 114) ∧ N0 + 24 + 1 ≤ N0 + 30 ∧ x_sl (N0 + 24) + 114 ≤ x_sl N0 + 13004 ∧ (o < N0 + 25 ∧ (∀ u27, u27 = x_wr (x_nw u26 (N0 + 24)) o 41 (some (N0 + 24)) → (x_sh (N0 + 25) = (20, 12) ∧ N0 + 25 + 1 ≤ N0 + 30 ∧ x_sl (N0 + 25) + 12 ≤ x_sl N0 + 13004 ∧ (o < N0 + 26 ∧ (∀ u28, u28 = x_wr (x_nw u27 (N0 + 25)) o 42 (some (N0 + 25)) → (x_sh (N0 + 26) = (22, 200) ∧ N0 + 26 + 1 ≤ N0 + 30 ∧ x_sl (N0 + 26) + 200 ≤ x_sl N0 + 13004 ∧ (o < N0 + 27 ∧ (∀ u29, u29 = x_wr (x_nw u28 (N0 + 26)) o 43 (some (N0 + 26)) → (x_sh (N0 + 27) = (20, 72) ∧ N0 + 27 + 1 ≤ N0 + 30 ∧ x_sl (N0 + 27) + 72 ≤ x_sl N0 + 13004 ∧ (o < N0 + 28 ∧ (∀ u30, u30 = x_wr (x_nw u29 (N0 + 27)) o 44 (some (N0 + 27)) → (x_sh (N0 + 28) = (20, 8) ∧ N0 + 28 + 1 ≤ N0 + 30 ∧ x_sl (N0 + 28) + 8 ≤ x_sl N0 + 13004 ∧ (o < N0 + 29 ∧ (∀ u31, u31 = x_wr (x_nw u30 (N0 + 28)) o 45 (some (N0 + 28)) → (x_sh (N0 + 29) = (20, 8) ∧ N0 + 29 + 1 ≤ N0 + 30 ∧ x_sl (N0 + 29) + 8 ≤ x_sl N0 + 13004 ∧ (o < N0 + 30 ∧ (∀ u32, u32 = x_wr (x_nw u31 (N0 + 29)) o 46 (some (N0 + 29)) → (o < N0 + 30 ∧ (∃ c33, u32.2.2 o 0 = some c33 ∧ (x_sh c33 = (20, 3670) ∧ c33 < N0 + 30 ∧ vp_in 3 3670 ∧ (∀ u34, u34 = x_wi u32 c33 (3 : Int32).toNatClampNeg (-1) → (o < N0 + 30 ∧ (∃ c35, u34.2.2 o 0 = some c35 ∧ (x_sh c35 = (20, 3670) ∧ c35 < N0 + 30 ∧ vp_in 131 3670 ∧ (∀ u36, u36 = x_wi u34 c35 (131 : Int32).toNatClampNeg (-1) → (o < N0 + 30 ∧ (∃ c37, u36.2.2 o 0 = some c37 ∧ (x_sh c37 = (20, 3670) ∧ c37 < N0 + 30 ∧ vp_in 133 3670 ∧ (∀ u38, u38 = x_wi u36 c37 (133 : Int32).toNatClampNeg (-1) → (o < N0 + 30 ∧ (∃ c39, u38.2.2 o 0 = some c39 ∧ (x_sh c39 = (20, 3670) ∧ c39 < N0 + 30 ∧ vp_in 134 3670 ∧ (∀ u40, u40 = x_wi u38 c39 (134 : Int32).toNatClampNeg 99 → (o < N0 + 30 ∧ (∃ c41, u40.2.2 o 0 = some c41 ∧ (x_sh c41 = (20, 3670) ∧ c41 < N0 + 30 ∧ vp_in 136 3670 ∧ (∀ u42, u42 = x_wi u40 c41 (136 : Int32).toNatClampNeg 89 → (x_Wg (d + 1) mX12_init N0 Q (N0 + 30) 308 [(0, .ref o), (1, .int 0)] [] u42))))))))))))))))))))))))))))))))))))))))))))))))))))))))))))))))))))))))))))))))))))))))))))))))))))))))))))))))))) : x_Mt (d + 1) mX12_init N0 [.ref o] σ Q := by
  refine x_of (by decide) (Nat.le_of_ble_eq_true rfl) ?_
  show x_Wg (d + 1) mX12_init N0 Q N0 0 [(0, .ref o)] [] σ
  refine o_aload_n (k := 0) 0 (by decide +kernel) rfl ?_
  refine o_objInit (i := 1) (by decide +kernel) lc_1356 lc_obj (Nat.le_of_ble_eq_true rfl) ?_
  refine o_aload_n (k := 0) 0 (by decide +kernel) rfl ?_
  refine o_sipush (n := 3670) (v := 3670) (by decide +kernel) (by decide) ?_
  obtain ⟨a1, a2, a3, h⟩ := h
  refine o_newaI (by decide +kernel) lc_176 a1 (by decide) (by decide) (by decide) a2 a3 ?_
  obtain ⟨a1, h⟩ := h
  refine o_putF (t := 12) (k := 0) (i := 7) (by decide +kernel) ho a1 rfl (by decide) rfl rfl rfl rfl (Or.inr ⟨_, rfl⟩) lc_1361 ?_
  refine o_nameS (fun u1 eu1 => ?_)
  replace h := h u1 eu1
  refine o_aload_n (k := 0) 0 (by decide +kernel) rfl ?_
  refine o_sipush (n := 3670) (v := 3670) (by decide +kernel) (by decide) ?_
  obtain ⟨a1, a2, a3, h⟩ := h
  refine o_newaI (by decide +kernel) lc_176 a1 (by decide) (by decide) (by decide) a2 a3 ?_
  obtain ⟨a1, h⟩ := h
  refine o_putF (t := 12) (k := 1) (i := 13) (by decide +kernel) ho a1 rfl (by decide) rfl rfl rfl rfl (Or.inr ⟨_, rfl⟩) lc_1362 ?_
  refine o_nameS (fun u2 eu2 => ?_)
  replace h := h u2 eu2
  refine o_aload_n (k := 0) 0 (by decide +kernel) rfl ?_
  refine o_sipush (n := 300) (v := 300) (by decide +kernel) (by decide) ?_
  obtain ⟨a1, a2, a3, h⟩ := h
  refine o_newaB (by decide +kernel) lc_1042 a1 (by decide) (by decide) (by decide) a2 a3 ?_
  obtain ⟨a1, h⟩ := h
  refine o_putF (t := 12) (k := 2) (i := 16) (by decide +kernel) ho a1 rfl (by decide) rfl rfl rfl rfl (Or.inr ⟨_, rfl⟩) lc_1363 ?_
  refine o_nameS (fun u3 eu3 => ?_)
  replace h := h u3 eu3
  refine o_aload_n (k := 0) 0 (by decide +kernel) rfl ?_
  refine o_iconst (n := -1) (v := (-1)) (by decide +kernel) (by decide) ?_
  obtain ⟨a1, h⟩ := h
  refine o_putI (t := 12) (k := 4) (i := 20) (by decide +kernel) ho a1 rfl (by decide) rfl rfl lc_1365 ?_
  refine o_nameS (fun u4 eu4 => ?_)
  replace h := h u4 eu4
  refine o_aload_n (k := 0) 0 (by decide +kernel) rfl ?_
  refine o_iconst (n := -1) (v := (-1)) (by decide +kernel) (by decide) ?_
  obtain ⟨a1, h⟩ := h
  refine o_putI (t := 12) (k := 5) (i := 24) (by decide +kernel) ho a1 rfl (by decide) rfl rfl lc_1366 ?_
  refine o_nameS (fun u5 eu5 => ?_)
  replace h := h u5 eu5
  refine o_aload_n (k := 0) 0 (by decide +kernel) rfl ?_
  refine o_iconst (n := 4) (v := 4) (by decide +kernel) (by decide) ?_
  obtain ⟨a1, a2, a3, h⟩ := h
  refine o_newaI (by decide +kernel) lc_176 a1 (by decide) (by decide) (by decide) a2 a3 ?_
  obtain ⟨a1, h⟩ := h
  refine o_putF (t := 12) (k := 6) (i := 27) (by decide +kernel) ho a1 rfl (by decide) rfl rfl rfl rfl (Or.inr ⟨_, rfl⟩) lc_1367 ?_
  refine o_nameS (fun u6 eu6 => ?_)
  replace h := h u6 eu6
  refine o_aload_n (k := 0) 0 (by decide +kernel) rfl ?_
  refine o_bipush (n := 96) (v := 96) (by decide +kernel) (by decide) ?_
  obtain ⟨a1, a2, a3, h⟩ := h
  refine o_newaI (by decide +kernel) lc_176 a1 (by decide) (by decide) (by decide) a2 a3 ?_
  obtain ⟨a1, h⟩ := h
  refine o_putF (t := 12) (k := 7) (i := 30) (by decide +kernel) ho a1 rfl (by decide) rfl rfl rfl rfl (Or.inr ⟨_, rfl⟩) lc_1368 ?_
  refine o_nameS (fun u7 eu7 => ?_)
  replace h := h u7 eu7
  refine o_aload_n (k := 0) 0 (by decide +kernel) rfl ?_
  refine o_bipush (n := 96) (v := 96) (by decide +kernel) (by decide) ?_
  obtain ⟨a1, a2, a3, h⟩ := h
  refine o_newaI (by decide +kernel) lc_176 a1 (by decide) (by decide) (by decide) a2 a3 ?_
  obtain ⟨a1, h⟩ := h
  refine o_putF (t := 12) (k := 8) (i := 33) (by decide +kernel) ho a1 rfl (by decide) rfl rfl rfl rfl (Or.inr ⟨_, rfl⟩) lc_1369 ?_
  refine o_nameS (fun u8 eu8 => ?_)
  replace h := h u8 eu8
  refine o_aload_n (k := 0) 0 (by decide +kernel) rfl ?_
  refine o_bipush (n := 96) (v := 96) (by decide +kernel) (by decide) ?_
  obtain ⟨a1, a2, a3, h⟩ := h
  refine o_newaI (by decide +kernel) lc_176 a1 (by decide) (by decide) (by decide) a2 a3 ?_
  obtain ⟨a1, h⟩ := h
  refine o_putF (t := 12) (k := 9) (i := 36) (by decide +kernel) ho a1 rfl (by decide) rfl rfl rfl rfl (Or.inr ⟨_, rfl⟩) lc_1370 ?_
  refine o_nameS (fun u9 eu9 => ?_)
  replace h := h u9 eu9
  refine o_aload_n (k := 0) 0 (by decide +kernel) rfl ?_
  refine o_bipush (n := 96) (v := 96) (by decide +kernel) (by decide) ?_
  obtain ⟨a1, a2, a3, h⟩ := h
  refine o_newaI (by decide +kernel) lc_176 a1 (by decide) (by decide) (by decide) a2 a3 ?_
  obtain ⟨a1, h⟩ := h
  refine o_putF (t := 12) (k := 10) (i := 39) (by decide +kernel) ho a1 rfl (by decide) rfl rfl rfl rfl (Or.inr ⟨_, rfl⟩) lc_1371 ?_
  refine o_nameS (fun u10 eu10 => ?_)
  replace h := h u10 eu10
  refine o_aload_n (k := 0) 0 (by decide +kernel) rfl ?_
  refine o_bipush (n := 96) (v := 96) (by decide +kernel) (by decide) ?_
  obtain ⟨a1, a2, a3, h⟩ := h
  refine o_newaI (by decide +kernel) lc_176 a1 (by decide) (by decide) (by decide) a2 a3 ?_
  obtain ⟨a1, h⟩ := h
  refine o_putF (t := 12) (k := 11) (i := 42) (by decide +kernel) ho a1 rfl (by decide) rfl rfl rfl rfl (Or.inr ⟨_, rfl⟩) lc_1372 ?_
  refine o_nameS (fun u11 eu11 => ?_)
  replace h := h u11 eu11
  refine o_aload_n (k := 0) 0 (by decide +kernel) rfl ?_
  refine o_sipush (n := 1600) (v := 1600) (by decide +kernel) (by decide) ?_
  obtain ⟨a1, a2, a3, h⟩ := h
  refine o_newaI (by decide +kernel) lc_176 a1 (by decide) (by decide) (by decide) a2 a3 ?_
  obtain ⟨a1, h⟩ := h
  refine o_putF (t := 12) (k := 12) (i := 45) (by decide +kernel) ho a1 rfl (by decide) rfl rfl rfl rfl (Or.inr ⟨_, rfl⟩) lc_1373 ?_
  refine o_nameS (fun u12 eu12 => ?_)
  replace h := h u12 eu12
  refine o_aload_n (k := 0) 0 (by decide +kernel) rfl ?_
  refine o_sipush (n := 1600) (v := 1600) (by decide +kernel) (by decide) ?_
  obtain ⟨a1, a2, a3, h⟩ := h
  refine o_newaI (by decide +kernel) lc_176 a1 (by decide) (by decide) (by decide) a2 a3 ?_
  obtain ⟨a1, h⟩ := h
  refine o_putF (t := 12) (k := 13) (i := 48) (by decide +kernel) ho a1 rfl (by decide) rfl rfl rfl rfl (Or.inr ⟨_, rfl⟩) lc_1374 ?_
  refine o_nameS (fun u13 eu13 => ?_)
  replace h := h u13 eu13
  refine o_aload_n (k := 0) 0 (by decide +kernel) rfl ?_
  refine o_bipush (n := 40) (v := 40) (by decide +kernel) (by decide) ?_
  obtain ⟨a1, a2, a3, h⟩ := h
  refine o_newaI (by decide +kernel) lc_176 a1 (by decide) (by decide) (by decide) a2 a3 ?_
  obtain ⟨a1, h⟩ := h
  refine o_putF (t := 12) (k := 23) (i := 51) (by decide +kernel) ho a1 rfl (by decide) rfl rfl rfl rfl (Or.inr ⟨_, rfl⟩) lc_1384 ?_
  refine o_nameS (fun u14 eu14 => ?_)
  replace h := h u14 eu14
  refine o_aload_n (k := 0) 0 (by decide +kernel) rfl ?_
  refine o_bipush (n := 41) (v := 41) (by decide +kernel) (by decide) ?_
  obtain ⟨a1, a2, a3, h⟩ := h
  refine o_newaI (by decide +kernel) lc_176 a1 (by decide) (by decide) (by decide) a2 a3 ?_
  obtain ⟨a1, h⟩ := h
  refine o_putF (t := 12) (k := 24) (i := 54) (by decide +kernel) ho a1 rfl (by decide) rfl rfl rfl rfl (Or.inr ⟨_, rfl⟩) lc_1385 ?_
  refine o_nameS (fun u15 eu15 => ?_)
  replace h := h u15 eu15
  refine o_aload_n (k := 0) 0 (by decide +kernel) rfl ?_
  refine o_bipush (n := 80) (v := 80) (by decide +kernel) (by decide) ?_
  obtain ⟨a1, a2, a3, h⟩ := h
  refine o_newaI (by decide +kernel) lc_176 a1 (by decide) (by decide) (by decide) a2 a3 ?_
  obtain ⟨a1, h⟩ := h
  refine o_putF (t := 12) (k := 26) (i := 57) (by decide +kernel) ho a1 rfl (by decide) rfl rfl rfl rfl (Or.inr ⟨_, rfl⟩) lc_1387 ?_
  refine o_nameS (fun u16 eu16 => ?_)
  replace h := h u16 eu16
  refine o_aload_n (k := 0) 0 (by decide +kernel) rfl ?_
  refine o_bipush (n := 80) (v := 80) (by decide +kernel) (by decide) ?_
  obtain ⟨a1, a2, a3, h⟩ := h
  refine o_newaI (by decide +kernel) lc_176 a1 (by decide) (by decide) (by decide) a2 a3 ?_
  obtain ⟨a1, h⟩ := h
  refine o_putF (t := 12) (k := 27) (i := 60) (by decide +kernel) ho a1 rfl (by decide) rfl rfl rfl rfl (Or.inr ⟨_, rfl⟩) lc_1388 ?_
  refine o_nameS (fun u17 eu17 => ?_)
  replace h := h u17 eu17
  refine o_aload_n (k := 0) 0 (by decide +kernel) rfl ?_
  refine o_bipush (n := 41) (v := 41) (by decide +kernel) (by decide) ?_
  obtain ⟨a1, a2, a3, h⟩ := h
  refine o_newaI (by decide +kernel) lc_176 a1 (by decide) (by decide) (by decide) a2 a3 ?_
  obtain ⟨a1, h⟩ := h
  refine o_putF (t := 12) (k := 29) (i := 63) (by decide +kernel) ho a1 rfl (by decide) rfl rfl rfl rfl (Or.inr ⟨_, rfl⟩) lc_1390 ?_
  refine o_nameS (fun u18 eu18 => ?_)
  replace h := h u18 eu18
  refine o_aload_n (k := 0) 0 (by decide +kernel) rfl ?_
  refine o_bipush (n := 24) (v := 24) (by decide +kernel) (by decide) ?_
  obtain ⟨a1, a2, a3, h⟩ := h
  refine o_newaI (by decide +kernel) lc_176 a1 (by decide) (by decide) (by decide) a2 a3 ?_
  obtain ⟨a1, h⟩ := h
  refine o_putF (t := 12) (k := 32) (i := 66) (by decide +kernel) ho a1 rfl (by decide) rfl rfl rfl rfl (Or.inr ⟨_, rfl⟩) lc_1393 ?_
  refine o_nameS (fun u19 eu19 => ?_)
  replace h := h u19 eu19
  refine o_aload_n (k := 0) 0 (by decide +kernel) rfl ?_
  refine o_bipush (n := 24) (v := 24) (by decide +kernel) (by decide) ?_
  obtain ⟨a1, a2, a3, h⟩ := h
  refine o_newaI (by decide +kernel) lc_176 a1 (by decide) (by decide) (by decide) a2 a3 ?_
  obtain ⟨a1, h⟩ := h
  refine o_putF (t := 12) (k := 33) (i := 69) (by decide +kernel) ho a1 rfl (by decide) rfl rfl rfl rfl (Or.inr ⟨_, rfl⟩) lc_1394 ?_
  refine o_nameS (fun u20 eu20 => ?_)
  replace h := h u20 eu20
  refine o_aload_n (k := 0) 0 (by decide +kernel) rfl ?_
  refine o_bipush (n := 24) (v := 24) (by decide +kernel) (by decide) ?_
  obtain ⟨a1, a2, a3, h⟩ := h
  refine o_newaI (by decide +kernel) lc_176 a1 (by decide) (by decide) (by decide) a2 a3 ?_
  obtain ⟨a1, h⟩ := h
  refine o_putF (t := 12) (k := 34) (i := 72) (by decide +kernel) ho a1 rfl (by decide) rfl rfl rfl rfl (Or.inr ⟨_, rfl⟩) lc_1395 ?_
  refine o_nameS (fun u21 eu21 => ?_)
  replace h := h u21 eu21
  refine o_aload_n (k := 0) 0 (by decide +kernel) rfl ?_
  refine o_bipush (n := 24) (v := 24) (by decide +kernel) (by decide) ?_
  obtain ⟨a1, a2, a3, h⟩ := h
  refine o_newaI (by decide +kernel) lc_176 a1 (by decide) (by decide) (by decide) a2 a3 ?_
  obtain ⟨a1, h⟩ := h
  refine o_putF (t := 12) (k := 35) (i := 75) (by decide +kernel) ho a1 rfl (by decide) rfl rfl rfl rfl (Or.inr ⟨_, rfl⟩) lc_1396 ?_
  refine o_nameS (fun u22 eu22 => ?_)
  replace h := h u22 eu22
  refine o_aload_n (k := 0) 0 (by decide +kernel) rfl ?_
  refine o_bipush (n := 24) (v := 24) (by decide +kernel) (by decide) ?_
  obtain ⟨a1, a2, a3, h⟩ := h
  refine o_newaI (by decide +kernel) lc_176 a1 (by decide) (by decide) (by decide) a2 a3 ?_
  obtain ⟨a1, h⟩ := h
  refine o_putF (t := 12) (k := 36) (i := 78) (by decide +kernel) ho a1 rfl (by decide) rfl rfl rfl rfl (Or.inr ⟨_, rfl⟩) lc_1397 ?_
  refine o_nameS (fun u23 eu23 => ?_)
  replace h := h u23 eu23
  refine o_aload_n (k := 0) 0 (by decide +kernel) rfl ?_
  refine o_sipush (n := 400) (v := 400) (by decide +kernel) (by decide) ?_
  obtain ⟨a1, a2, a3, h⟩ := h
  refine o_newaI (by decide +kernel) lc_176 a1 (by decide) (by decide) (by decide) a2 a3 ?_
  obtain ⟨a1, h⟩ := h
  refine o_putF (t := 12) (k := 38) (i := 81) (by decide +kernel) ho a1 rfl (by decide) rfl rfl rfl rfl (Or.inr ⟨_, rfl⟩) lc_1399 ?_
  refine o_nameS (fun u24 eu24 => ?_)
  replace h := h u24 eu24
  refine o_aload_n (k := 0) 0 (by decide +kernel) rfl ?_
  refine o_sipush (n := 400) (v := 400) (by decide +kernel) (by decide) ?_
  obtain ⟨a1, a2, a3, h⟩ := h
  refine o_newaI (by decide +kernel) lc_176 a1 (by decide) (by decide) (by decide) a2 a3 ?_
  obtain ⟨a1, h⟩ := h
  refine o_putF (t := 12) (k := 39) (i := 84) (by decide +kernel) ho a1 rfl (by decide) rfl rfl rfl rfl (Or.inr ⟨_, rfl⟩) lc_1400 ?_
  refine o_nameS (fun u25 eu25 => ?_)
  replace h := h u25 eu25
  refine o_aload_n (k := 0) 0 (by decide +kernel) rfl ?_
  refine o_bipush (n := 64) (v := 64) (by decide +kernel) (by decide) ?_
  obtain ⟨a1, a2, a3, h⟩ := h
  refine o_newaI (by decide +kernel) lc_176 a1 (by decide) (by decide) (by decide) a2 a3 ?_
  obtain ⟨a1, h⟩ := h
  refine o_putF (t := 12) (k := 40) (i := 87) (by decide +kernel) ho a1 rfl (by decide) rfl rfl rfl rfl (Or.inr ⟨_, rfl⟩) lc_1401 ?_
  refine o_nameS (fun u26 eu26 => ?_)
  replace h := h u26 eu26
  refine o_aload_n (k := 0) 0 (by decide +kernel) rfl ?_
  refine o_bipush (n := 114) (v := 114) (by decide +kernel) (by decide) ?_
  obtain ⟨a1, a2, a3, h⟩ := h
  refine o_newaI (by decide +kernel) lc_176 a1 (by decide) (by decide) (by decide) a2 a3 ?_
  obtain ⟨a1, h⟩ := h
  refine o_putF (t := 12) (k := 41) (i := 90) (by decide +kernel) ho a1 rfl (by decide) rfl rfl rfl rfl (Or.inr ⟨_, rfl⟩) lc_1402 ?_
  refine o_nameS (fun u27 eu27 => ?_)
  replace h := h u27 eu27
  refine o_aload_n (k := 0) 0 (by decide +kernel) rfl ?_
  refine o_bipush (n := 12) (v := 12) (by decide +kernel) (by decide) ?_
  obtain ⟨a1, a2, a3, h⟩ := h
  refine o_newaI (by decide +kernel) lc_176 a1 (by decide) (by decide) (by decide) a2 a3 ?_
  obtain ⟨a1, h⟩ := h
  refine o_putF (t := 12) (k := 42) (i := 93) (by decide +kernel) ho a1 rfl (by decide) rfl rfl rfl rfl (Or.inr ⟨_, rfl⟩) lc_1403 ?_
  refine o_nameS (fun u28 eu28 => ?_)
  replace h := h u28 eu28
  refine o_aload_n (k := 0) 0 (by decide +kernel) rfl ?_
  refine o_sipush (n := 200) (v := 200) (by decide +kernel) (by decide) ?_
  obtain ⟨a1, a2, a3, h⟩ := h
  refine o_newaJ (by decide +kernel) lc_1503 a1 (by decide) (by decide) (by decide) a2 a3 ?_
  obtain ⟨a1, h⟩ := h
  refine o_putF (t := 12) (k := 43) (i := 96) (by decide +kernel) ho a1 rfl (by decide) rfl rfl rfl rfl (Or.inr ⟨_, rfl⟩) lc_1404 ?_
  refine o_nameS (fun u29 eu29 => ?_)
  replace h := h u29 eu29
  refine o_aload_n (k := 0) 0 (by decide +kernel) rfl ?_
  refine o_bipush (n := 72) (v := 72) (by decide +kernel) (by decide) ?_
  obtain ⟨a1, a2, a3, h⟩ := h
  refine o_newaI (by decide +kernel) lc_176 a1 (by decide) (by decide) (by decide) a2 a3 ?_
  obtain ⟨a1, h⟩ := h
  refine o_putF (t := 12) (k := 44) (i := 100) (by decide +kernel) ho a1 rfl (by decide) rfl rfl rfl rfl (Or.inr ⟨_, rfl⟩) lc_1405 ?_
  refine o_nameS (fun u30 eu30 => ?_)
  replace h := h u30 eu30
  refine o_aload_n (k := 0) 0 (by decide +kernel) rfl ?_
  refine o_bipush (n := 8) (v := 8) (by decide +kernel) (by decide) ?_
  obtain ⟨a1, a2, a3, h⟩ := h
  refine o_newaI (by decide +kernel) lc_176 a1 (by decide) (by decide) (by decide) a2 a3 ?_
  obtain ⟨a1, h⟩ := h
  refine o_putF (t := 12) (k := 45) (i := 103) (by decide +kernel) ho a1 rfl (by decide) rfl rfl rfl rfl (Or.inr ⟨_, rfl⟩) lc_1406 ?_
  refine o_nameS (fun u31 eu31 => ?_)
  replace h := h u31 eu31
  refine o_aload_n (k := 0) 0 (by decide +kernel) rfl ?_
  refine o_bipush (n := 8) (v := 8) (by decide +kernel) (by decide) ?_
  obtain ⟨a1, a2, a3, h⟩ := h
  refine o_newaI (by decide +kernel) lc_176 a1 (by decide) (by decide) (by decide) a2 a3 ?_
  obtain ⟨a1, h⟩ := h
  refine o_putF (t := 12) (k := 46) (i := 106) (by decide +kernel) ho a1 rfl (by decide) rfl rfl rfl rfl (Or.inr ⟨_, rfl⟩) lc_1407 ?_
  refine o_nameS (fun u32 eu32 => ?_)
  replace h := h u32 eu32
  refine o_aload_n (k := 0) 0 (by decide +kernel) rfl ?_
  obtain ⟨a1, c33, ec33, h⟩ := h
  refine o_get (v := .ref c33) (t := 12) (k := 0) (i := 7) (by decide +kernel) ho a1 rfl (by decide) lc_1361 (by simp [x_av, x_ty, tyX12, ec33, x_rf]) ?_
  refine o_iconst (n := 3) (v := 3) (by decide +kernel) (by decide) ?_
  refine o_iconst (n := -1) (v := (-1)) (by decide +kernel) (by decide) ?_
  obtain ⟨a1, a2, a3, h⟩ := h
  refine o_iast (by decide +kernel) a1 a2 a3 ?_
  refine o_nameS (fun u34 eu34 => ?_)
  replace h := h u34 eu34
  refine o_aload_n (k := 0) 0 (by decide +kernel) rfl ?_
  obtain ⟨a1, c35, ec35, h⟩ := h
  refine o_get (v := .ref c35) (t := 12) (k := 0) (i := 7) (by decide +kernel) ho a1 rfl (by decide) lc_1361 (by simp [x_av, x_ty, tyX12, ec35, x_rf]) ?_
  refine o_sipush (n := 131) (v := 131) (by decide +kernel) (by decide) ?_
  refine o_iconst (n := -1) (v := (-1)) (by decide +kernel) (by decide) ?_
  obtain ⟨a1, a2, a3, h⟩ := h
  refine o_iast (by decide +kernel) a1 a2 a3 ?_
  refine o_nameS (fun u36 eu36 => ?_)
  replace h := h u36 eu36
  refine o_aload_n (k := 0) 0 (by decide +kernel) rfl ?_
  obtain ⟨a1, c37, ec37, h⟩ := h
  refine o_get (v := .ref c37) (t := 12) (k := 0) (i := 7) (by decide +kernel) ho a1 rfl (by decide) lc_1361 (by simp [x_av, x_ty, tyX12, ec37, x_rf]) ?_
  refine o_sipush (n := 133) (v := 133) (by decide +kernel) (by decide) ?_
  refine o_iconst (n := -1) (v := (-1)) (by decide +kernel) (by decide) ?_
  obtain ⟨a1, a2, a3, h⟩ := h
  refine o_iast (by decide +kernel) a1 a2 a3 ?_
  refine o_nameS (fun u38 eu38 => ?_)
  replace h := h u38 eu38
  refine o_aload_n (k := 0) 0 (by decide +kernel) rfl ?_
  obtain ⟨a1, c39, ec39, h⟩ := h
  refine o_get (v := .ref c39) (t := 12) (k := 0) (i := 7) (by decide +kernel) ho a1 rfl (by decide) lc_1361 (by simp [x_av, x_ty, tyX12, ec39, x_rf]) ?_
  refine o_sipush (n := 134) (v := 134) (by decide +kernel) (by decide) ?_
  refine o_bipush (n := 99) (v := 99) (by decide +kernel) (by decide) ?_
  obtain ⟨a1, a2, a3, h⟩ := h
  refine o_iast (by decide +kernel) a1 a2 a3 ?_
  refine o_nameS (fun u40 eu40 => ?_)
  replace h := h u40 eu40
  refine o_aload_n (k := 0) 0 (by decide +kernel) rfl ?_
  obtain ⟨a1, c41, ec41, h⟩ := h
  refine o_get (v := .ref c41) (t := 12) (k := 0) (i := 7) (by decide +kernel) ho a1 rfl (by decide) lc_1361 (by simp [x_av, x_ty, tyX12, ec41, x_rf]) ?_
  refine o_sipush (n := 136) (v := 136) (by decide +kernel) (by decide) ?_
  refine o_bipush (n := 89) (v := 89) (by decide +kernel) (by decide) ?_
  obtain ⟨a1, a2, a3, h⟩ := h
  refine o_iast (by decide +kernel) a1 a2 a3 ?_
  refine o_nameS (fun u42 eu42 => ?_)
  replace h := h u42 eu42
  refine o_iconst (n := 0) (v := 0) (by decide +kernel) (by decide) ?_
  refine o_istore_n (k := 1) (L' := [(1, .int 0), (0, .ref o)]) (by decide +kernel) (by decide) rfl ?_
  refine o_sub [1, 0] rfl ?_
  exact h
set_option maxRecDepth 20000 in
theorem k_X12_init_308 {d : Nat} {N0 N : Nat} {Q : x_S → Option Value → Prop} {o : Nat} (ho : x_sh o = (12, 47)) {v1 : Int32} {σ : x_S} (h : (8 ≤ v1 → o < N ∧ (x_Mt d mX12_copies N [.ref o, .int 1] σ (fun u1 r => r = none ∧ (N = N0 + 30 ∧ Q u1 none)))) ∧ (¬ 8 ≤ v1 → o < N ∧ (∃ c2, σ.2.2 o 0 = some c2 ∧ (x_sh c2 = (20, 3670) ∧ c2 < N ∧ vp_in (22 + v1) 3670 ∧ (∀ u3, u3 = x_wi σ c2 (22 + v1).toNatClampNeg 1 → (∀ y4, y4 = v1 + 1 → (x_Wg (d + 1) mX12_init N0 Q N 308 [(0, .ref o), (1, .int y4)] [] u3))))))) : x_Wg (d + 1) mX12_init N0 Q N 308 [(0, .ref o), (1, .int v1)] [] σ := by
  refine o_iload_n (k := 1) 1 (by decide +kernel) rfl ?_
  refine o_bipush (n := 8) (v := 8) (by decide +kernel) (by decide) ?_
  refine o_icmp_ge (off := 19) 330 (by decide +kernel) (by decide) (fun q => ?_) (fun q => ?_)
  · replace h := h.1 q
    refine o_aload_n (k := 0) 0 (by decide +kernel) rfl ?_
    refine o_iconst (n := 1) (v := 1) (by decide +kernel) (by decide) ?_
    obtain ⟨a1, h⟩ := h
    refine o_callV (t := 12) (μ' := mX12_copies) (i := 109) (vs := [.int 1]) (by decide +kernel) lc_1357 vok_mX12_copies ho a1 rfl rfl rfl rfl (Nat.le_of_ble_eq_true rfl) ?_
    refine x_Mt.mono h (fun u1 r h => ?_)
    obtain ⟨hr, h⟩ := h
    subst hr
    exact o_vret rfl (by decide +kernel) h.1 h.2
  · replace h := h.2 q
    refine o_aload_n (k := 0) 0 (by decide +kernel) rfl ?_
    obtain ⟨a1, c2, ec2, h⟩ := h
    refine o_get (v := .ref c2) (t := 12) (k := 0) (i := 7) (by decide +kernel) ho a1 rfl (by decide) lc_1361 (by simp [x_av, x_ty, tyX12, ec2, x_rf]) ?_
    refine o_bipush (n := 22) (v := 22) (by decide +kernel) (by decide) ?_
    refine o_iload_n (k := 1) 1 (by decide +kernel) rfl ?_
    refine o_iadd (by decide +kernel) ?_
    refine o_iconst (n := 1) (v := 1) (by decide +kernel) (by decide) ?_
    obtain ⟨a1, a2, a3, h⟩ := h
    refine o_iast (by decide +kernel) a1 a2 a3 ?_
    refine o_nameS (fun u3 eu3 => ?_)
    replace h := h u3 eu3
    obtain ⟨y4, ey4⟩ : ∃ y : Int32, y = v1 + 1 := ⟨_, rfl⟩
    replace h := h y4 ey4
    refine o_iinc (i := 1) (n := 1) (v := y4) (L' := [(1, .int y4), (0, .ref o)]) 1 (by decide +kernel) rfl (by rw [ey4]; rfl) (by decide) rfl ?_
    refine o_goto (off := -19) 308 (by decide +kernel) (by decide) ?_
    refine o_sub [1, 0] rfl ?_
    exact h
set_option maxRecDepth 20000 in
theorem e_X0_init {d : Nat} {N0 : Nat} {Q : x_S → Option Value → Prop} {o : Nat} (ho : x_sh o = (0, 3)) {r1 : Nat} {r2 : Nat} {σ : x_S} (h : x_sh N0 = (20, 8) ∧ N0 + 1 ≤ N0 + 1 ∧ x_sl N0 + 8 ≤ x_sl N0 + 8 ∧ (o < N0 + 1 ∧ (∀ u1, u1 = x_wr (x_nw σ N0) o 2 (some N0) → (o < N0 + 1 ∧ (∀ u2, u2 = x_wr u1 o 0 (some r1) → (o < N0 + 1 ∧ (∀ u3, u3 = x_wr u2 o 1 (some r2) → (N0 + 1 = N0 + 1 ∧ Q u3 none)))))))) : x_Mt (d + 1) mX0_init N0 [.ref o, .ref r1, .ref r2] σ Q := by
  refine x_of (by decide) (Nat.le_of_ble_eq_true rfl) ?_
  show x_Wg (d + 1) mX0_init N0 Q N0 0 [(0, .ref o), (1, .ref r1), (2, .ref r2)] [] σ
  refine o_aload_n (k := 0) 0 (by decide +kernel) rfl ?_
  refine o_objInit (i := 3) (by decide +kernel) lc_479 lc_obj (Nat.le_of_ble_eq_true rfl) ?_
  refine o_aload_n (k := 0) 0 (by decide +kernel) rfl ?_
  refine o_bipush (n := 8) (v := 8) (by decide +kernel) (by decide) ?_
  obtain ⟨a1, a2, a3, h⟩ := h
  refine o_newaI (by decide +kernel) lc_176 a1 (by decide) (by decide) (by decide) a2 a3 ?_
  obtain ⟨a1, h⟩ := h
  refine o_putF (t := 0) (k := 2) (i := 9) (by decide +kernel) ho a1 rfl (by decide) rfl rfl rfl rfl (Or.inr ⟨_, rfl⟩) lc_482 ?_
  refine o_nameS (fun u1 eu1 => ?_)
  replace h := h u1 eu1
  refine o_aload_n (k := 0) 0 (by decide +kernel) rfl ?_
  refine o_aload_n (k := 1) 1 (by decide +kernel) rfl ?_
  obtain ⟨a1, h⟩ := h
  refine o_putF (t := 0) (k := 0) (i := 15) (by decide +kernel) ho a1 rfl (by decide) rfl rfl rfl rfl (Or.inl ⟨_, rfl⟩) lc_480 ?_
  refine o_nameS (fun u2 eu2 => ?_)
  replace h := h u2 eu2
  refine o_aload_n (k := 0) 0 (by decide +kernel) rfl ?_
  refine o_aload_n (k := 2) 2 (by decide +kernel) rfl ?_
  obtain ⟨a1, h⟩ := h
  refine o_putF (t := 0) (k := 1) (i := 19) (by decide +kernel) ho a1 rfl (by decide) rfl rfl rfl rfl (Or.inl ⟨_, rfl⟩) lc_481 ?_
  refine o_nameS (fun u3 eu3 => ?_)
  replace h := h u3 eu3
  exact o_vret rfl (by decide +kernel) h.1 h.2
set_option maxRecDepth 20000 in
theorem e_X1_init {d : Nat} {N0 : Nat} {Q : x_S → Option Value → Prop} {o : Nat} (ho : x_sh o = (1, 11)) {σ : x_S} (h : o < N0 ∧ (∀ u1, u1 = x_wi σ o 1 (-1) → (o < N0 ∧ (∀ u2, u2 = x_wi u1 o 3 (-1) → (o < N0 ∧ (∀ u3, u3 = x_wi u2 o 4 99 → (o < N0 ∧ (∀ u4, u4 = x_wi u3 o 6 89 → (x_sh N0 = (20, 8) ∧ N0 + 1 ≤ N0 + 3 ∧ x_sl N0 + 8 ≤ x_sl N0 + 106 ∧ (o < N0 + 1 ∧ (∀ u5, u5 = x_wr (x_nw u4 N0) o 7 (some N0) → (x_sh (N0 + 1) = (20, 8) ∧ N0 + 1 + 1 ≤ N0 + 3 ∧ x_sl (N0 + 1) + 8 ≤ x_sl N0 + 106 ∧ (o < N0 + 2 ∧ (∀ u6, u6 = x_wr (x_nw u5 (N0 + 1)) o 8 (some (N0 + 1)) → (x_sh (N0 + 2) = (20, 90) ∧ N0 + 2 + 1 ≤ N0 + 3 ∧ x_sl (N0 + 2) + 90 ≤ x_sl N0 + 106 ∧ (o < N0 + 3 ∧ (∀ u7, u7 = x_wr (x_nw u6 (N0 + 2)) o 10 (some (N0 + 2)) → (N0 + 3 = N0 + 3 ∧ Q u7 none)))))))))))))))))) : x_Mt (d + 1) mX1_init N0 [.ref o] σ Q := by
  refine x_of (by decide) (Nat.le_of_ble_eq_true rfl) ?_
  show x_Wg (d + 1) mX1_init N0 Q N0 0 [(0, .ref o)] [] σ
  refine o_aload_n (k := 0) 0 (by decide +kernel) rfl ?_
  refine o_objInit (i := 3) (by decide +kernel) lc_224 lc_obj (Nat.le_of_ble_eq_true rfl) ?_
  refine o_aload_n (k := 0) 0 (by decide +kernel) rfl ?_
  refine o_iconst (n := -1) (v := (-1)) (by decide +kernel) (by decide) ?_
  obtain ⟨a1, h⟩ := h
  refine o_putI (t := 1) (k := 1) (i := 9) (by decide +kernel) ho a1 rfl (by decide) rfl rfl lc_230 ?_
  refine o_nameS (fun u1 eu1 => ?_)
  replace h := h u1 eu1
  refine o_aload_n (k := 0) 0 (by decide +kernel) rfl ?_
  refine o_iconst (n := -1) (v := (-1)) (by decide +kernel) (by decide) ?_
  obtain ⟨a1, h⟩ := h
  refine o_putI (t := 1) (k := 3) (i := 15) (by decide +kernel) ho a1 rfl (by decide) rfl rfl lc_237 ?_
  refine o_nameS (fun u2 eu2 => ?_)
  replace h := h u2 eu2
  refine o_aload_n (k := 0) 0 (by decide +kernel) rfl ?_
  refine o_bipush (n := 99) (v := 99) (by decide +kernel) (by decide) ?_
  obtain ⟨a1, h⟩ := h
  refine o_putI (t := 1) (k := 4) (i := 18) (by decide +kernel) ho a1 rfl (by decide) rfl rfl lc_240 ?_
  refine o_nameS (fun u3 eu3 => ?_)
  replace h := h u3 eu3
  refine o_aload_n (k := 0) 0 (by decide +kernel) rfl ?_
  refine o_bipush (n := 89) (v := 89) (by decide +kernel) (by decide) ?_
  obtain ⟨a1, h⟩ := h
  refine o_putI (t := 1) (k := 6) (i := 21) (by decide +kernel) ho a1 rfl (by decide) rfl rfl lc_248 ?_
  refine o_nameS (fun u4 eu4 => ?_)
  replace h := h u4 eu4
  refine o_aload_n (k := 0) 0 (by decide +kernel) rfl ?_
  refine o_bipush (n := 8) (v := 8) (by decide +kernel) (by decide) ?_
  obtain ⟨a1, a2, a3, h⟩ := h
  refine o_newaI (by decide +kernel) lc_176 a1 (by decide) (by decide) (by decide) a2 a3 ?_
  obtain ⟨a1, h⟩ := h
  refine o_putF (t := 1) (k := 7) (i := 24) (by decide +kernel) ho a1 rfl (by decide) rfl rfl rfl rfl (Or.inr ⟨_, rfl⟩) lc_250 ?_
  refine o_nameS (fun u5 eu5 => ?_)
  replace h := h u5 eu5
  refine o_aload_n (k := 0) 0 (by decide +kernel) rfl ?_
  refine o_bipush (n := 8) (v := 8) (by decide +kernel) (by decide) ?_
  obtain ⟨a1, a2, a3, h⟩ := h
  refine o_newaI (by decide +kernel) lc_176 a1 (by decide) (by decide) (by decide) a2 a3 ?_
  obtain ⟨a1, h⟩ := h
  refine o_putF (t := 1) (k := 8) (i := 28) (by decide +kernel) ho a1 rfl (by decide) rfl rfl rfl rfl (Or.inr ⟨_, rfl⟩) lc_252 ?_
  refine o_nameS (fun u6 eu6 => ?_)
  replace h := h u6 eu6
  refine o_aload_n (k := 0) 0 (by decide +kernel) rfl ?_
  refine o_bipush (n := 90) (v := 90) (by decide +kernel) (by decide) ?_
  obtain ⟨a1, a2, a3, h⟩ := h
  refine o_newaI (by decide +kernel) lc_176 a1 (by decide) (by decide) (by decide) a2 a3 ?_
  obtain ⟨a1, h⟩ := h
  refine o_putF (t := 1) (k := 10) (i := 31) (by decide +kernel) ho a1 rfl (by decide) rfl rfl rfl rfl (Or.inr ⟨_, rfl⟩) lc_256 ?_
  refine o_nameS (fun u7 eu7 => ?_)
  replace h := h u7 eu7
  exact o_vret rfl (by decide +kernel) h.1 h.2
set_option maxRecDepth 20000 in
theorem e_X2_init {d : Nat} {N0 : Nat} {Q : x_S → Option Value → Prop} {o : Nat} (ho : x_sh o = (2, 2)) {r1 : Nat} {r2 : Nat} {σ : x_S} (h : o < N0 ∧ (∀ u1, u1 = x_wr σ o 0 (some r1) → (o < N0 ∧ (∀ u2, u2 = x_wr u1 o 1 (some r2) → (N0 = N0 + 0 ∧ Q u2 none))))) : x_Mt (d + 1) mX2_init N0 [.ref o, .ref r1, .ref r2] σ Q := by
  refine x_of (by decide) (Nat.le_of_ble_eq_true rfl) ?_
  show x_Wg (d + 1) mX2_init N0 Q N0 0 [(0, .ref o), (1, .ref r1), (2, .ref r2)] [] σ
  refine o_aload_n (k := 0) 0 (by decide +kernel) rfl ?_
  refine o_objInit (i := 3) (by decide +kernel) lc_428 lc_obj (Nat.le_of_ble_eq_true rfl) ?_
  refine o_aload_n (k := 0) 0 (by decide +kernel) rfl ?_
  refine o_aload_n (k := 1) 1 (by decide +kernel) rfl ?_
  obtain ⟨a1, h⟩ := h
  refine o_putF (t := 2) (k := 0) (i := 9) (by decide +kernel) ho a1 rfl (by decide) rfl rfl rfl rfl (Or.inl ⟨_, rfl⟩) lc_429 ?_
  refine o_nameS (fun u1 eu1 => ?_)
  replace h := h u1 eu1
  refine o_aload_n (k := 0) 0 (by decide +kernel) rfl ?_
  refine o_aload_n (k := 2) 2 (by decide +kernel) rfl ?_
  obtain ⟨a1, h⟩ := h
  refine o_putF (t := 2) (k := 1) (i := 15) (by decide +kernel) ho a1 rfl (by decide) rfl rfl rfl rfl (Or.inl ⟨_, rfl⟩) lc_430 ?_
  refine o_nameS (fun u2 eu2 => ?_)
  replace h := h u2 eu2
  exact o_vret rfl (by decide +kernel) h.1 h.2
set_option maxRecDepth 20000 in
theorem e_X3_init {d : Nat} {N0 : Nat} {Q : x_S → Option Value → Prop} {o : Nat} (ho : x_sh o = (3, 9)) {σ : x_S} (h : x_sh N0 = (20, 8) ∧ N0 + 1 ≤ N0 + 11 ∧ x_sl N0 + 8 ≤ x_sl N0 + 186 ∧ (o < N0 + 1 ∧ (∀ u1, u1 = x_wr (x_nw σ N0) o 2 (some N0) → (x_sh (N0 + 1) = (20, 8) ∧ N0 + 1 + 1 ≤ N0 + 11 ∧ x_sl (N0 + 1) + 8 ≤ x_sl N0 + 186 ∧ (o < N0 + 2 ∧ (∀ u2, u2 = x_wr (x_nw u1 (N0 + 1)) o 3 (some (N0 + 1)) → (x_sh (N0 + 2) = (20, 4) ∧ N0 + 2 + 1 ≤ N0 + 11 ∧ x_sl (N0 + 2) + 4 ≤ x_sl N0 + 186 ∧ (o < N0 + 3 ∧ (∀ u3, u3 = x_wr (x_nw u2 (N0 + 2)) o 4 (some (N0 + 2)) → (x_sh (N0 + 3) = (20, 64) ∧ N0 + 3 + 1 ≤ N0 + 11 ∧ x_sl (N0 + 3) + 64 ≤ x_sl N0 + 186 ∧ (o < N0 + 4 ∧ (∀ u4, u4 = x_wr (x_nw u3 (N0 + 3)) o 5 (some (N0 + 3)) → (x_sh (N0 + 4) = (20, 64) ∧ N0 + 4 + 1 ≤ N0 + 11 ∧ x_sl (N0 + 4) + 64 ≤ x_sl N0 + 186 ∧ (o < N0 + 5 ∧ (∀ u5, u5 = x_wr (x_nw u4 (N0 + 4)) o 6 (some (N0 + 4)) → (x_sh (N0 + 5) = (5, 3) ∧ N0 + 5 + 1 ≤ N0 + 11 ∧ x_sl (N0 + 5) + 3 ≤ x_sl N0 + 186 ∧ (N0 + 6 + 2 ≤ N0 + 11 ∧ x_sl (N0 + 6) + 16 ≤ x_sl N0 + 186 ∧ x_sl (N0 + 6 + 2) = x_sl (N0 + 6) + 16 ∧ (x_Mt d mX5_init (N0 + 6) [.ref (N0 + 5)] (x_nw u5 (N0 + 5)) (fun u6 r => r = none ∧ (o < N0 + 8 ∧ (∀ u7, u7 = x_wr u6 o 7 (some (N0 + 5)) → (x_sh (N0 + 8) = (5, 3) ∧ N0 + 8 + 1 ≤ N0 + 11 ∧ x_sl (N0 + 8) + 3 ≤ x_sl N0 + 186 ∧ (N0 + 9 + 2 ≤ N0 + 11 ∧ x_sl (N0 + 9) + 16 ≤ x_sl N0 + 186 ∧ x_sl (N0 + 9 + 2) = x_sl (N0 + 9) + 16 ∧ (x_Mt d mX5_init (N0 + 9) [.ref (N0 + 8)] (x_nw u7 (N0 + 8)) (fun u8 r => r = none ∧ (o < N0 + 11 ∧ (∀ u9, u9 = x_wr u8 o 8 (some (N0 + 8)) → (N0 + 11 = N0 + 11 ∧ Q u9 none)))))))))))))))))))))))))))) : x_Mt (d + 1) mX3_init N0 [.ref o] σ Q := by
  refine x_of (by decide) (Nat.le_of_ble_eq_true rfl) ?_
  show x_Wg (d + 1) mX3_init N0 Q N0 0 [(0, .ref o)] [] σ
  refine o_aload_n (k := 0) 0 (by decide +kernel) rfl ?_
  refine o_objInit (i := 3) (by decide +kernel) lc_149 lc_obj (Nat.le_of_ble_eq_true rfl) ?_
  refine o_aload_n (k := 0) 0 (by decide +kernel) rfl ?_
  refine o_bipush (n := 8) (v := 8) (by decide +kernel) (by decide) ?_
  obtain ⟨a1, a2, a3, h⟩ := h
  refine o_newaI (by decide +kernel) lc_176 a1 (by decide) (by decide) (by decide) a2 a3 ?_
  obtain ⟨a1, h⟩ := h
  refine o_putF (t := 3) (k := 2) (i := 9) (by decide +kernel) ho a1 rfl (by decide) rfl rfl rfl rfl (Or.inr ⟨_, rfl⟩) lc_185 ?_
  refine o_nameS (fun u1 eu1 => ?_)
  replace h := h u1 eu1
  refine o_aload_n (k := 0) 0 (by decide +kernel) rfl ?_
  refine o_bipush (n := 8) (v := 8) (by decide +kernel) (by decide) ?_
  obtain ⟨a1, a2, a3, h⟩ := h
  refine o_newaI (by decide +kernel) lc_176 a1 (by decide) (by decide) (by decide) a2 a3 ?_
  obtain ⟨a1, h⟩ := h
  refine o_putF (t := 3) (k := 3) (i := 15) (by decide +kernel) ho a1 rfl (by decide) rfl rfl rfl rfl (Or.inr ⟨_, rfl⟩) lc_187 ?_
  refine o_nameS (fun u2 eu2 => ?_)
  replace h := h u2 eu2
  refine o_aload_n (k := 0) 0 (by decide +kernel) rfl ?_
  refine o_iconst (n := 4) (v := 4) (by decide +kernel) (by decide) ?_
  obtain ⟨a1, a2, a3, h⟩ := h
  refine o_newaI (by decide +kernel) lc_176 a1 (by decide) (by decide) (by decide) a2 a3 ?_
  obtain ⟨a1, h⟩ := h
  refine o_putF (t := 3) (k := 4) (i := 18) (by decide +kernel) ho a1 rfl (by decide) rfl rfl rfl rfl (Or.inr ⟨_, rfl⟩) lc_190 ?_
  refine o_nameS (fun u3 eu3 => ?_)
  replace h := h u3 eu3
  refine o_aload_n (k := 0) 0 (by decide +kernel) rfl ?_
  refine o_bipush (n := 64) (v := 64) (by decide +kernel) (by decide) ?_
  obtain ⟨a1, a2, a3, h⟩ := h
  refine o_newaI (by decide +kernel) lc_176 a1 (by decide) (by decide) (by decide) a2 a3 ?_
  obtain ⟨a1, h⟩ := h
  refine o_putF (t := 3) (k := 5) (i := 21) (by decide +kernel) ho a1 rfl (by decide) rfl rfl rfl rfl (Or.inr ⟨_, rfl⟩) lc_191 ?_
  refine o_nameS (fun u4 eu4 => ?_)
  replace h := h u4 eu4
  refine o_aload_n (k := 0) 0 (by decide +kernel) rfl ?_
  refine o_bipush (n := 64) (v := 64) (by decide +kernel) (by decide) ?_
  obtain ⟨a1, a2, a3, h⟩ := h
  refine o_newaI (by decide +kernel) lc_176 a1 (by decide) (by decide) (by decide) a2 a3 ?_
  obtain ⟨a1, h⟩ := h
  refine o_putF (t := 3) (k := 6) (i := 24) (by decide +kernel) ho a1 rfl (by decide) rfl rfl rfl rfl (Or.inr ⟨_, rfl⟩) lc_192 ?_
  refine o_nameS (fun u5 eu5 => ?_)
  replace h := h u5 eu5
  refine o_aload_n (k := 0) 0 (by decide +kernel) rfl ?_
  obtain ⟨a1, a2, a3, h⟩ := h
  refine o_new (t := 5) (i := 27) (by decide +kernel) lc_150 lc_151 lc_117 a1 rfl a2 a3 ?_
  refine o_dup (by decide +kernel) rfl ?_
  obtain ⟨a1, a2, a3, h⟩ := h
  refine o_callIN (o := N0 + 5) (μ' := mX5_init) (i := 29) (hn0 := "NoonOnABarrow") (vs := []) rfl (by decide +kernel) (by decide +kernel) cok_mX5_init lc_ins_mX5_init rfl rfl rfl (Nat.le_of_ble_eq_true rfl) a1 a2 a3 ?_
  refine x_Mt.mono h (fun u6 r h => ?_)
  obtain ⟨hr, h⟩ := h
  subst hr
  obtain ⟨a1, h⟩ := h
  refine o_putF (t := 3) (k := 7) (i := 30) (by decide +kernel) ho a1 rfl (by decide) rfl rfl rfl rfl (Or.inl ⟨_, rfl⟩) lc_193 ?_
  refine o_nameS (fun u7 eu7 => ?_)
  replace h := h u7 eu7
  refine o_aload_n (k := 0) 0 (by decide +kernel) rfl ?_
  obtain ⟨a1, a2, a3, h⟩ := h
  refine o_new (t := 5) (i := 27) (by decide +kernel) lc_150 lc_151 lc_117 a1 rfl a2 a3 ?_
  refine o_dup (by decide +kernel) rfl ?_
  obtain ⟨a1, a2, a3, h⟩ := h
  refine o_callIN (o := N0 + 8) (μ' := mX5_init) (i := 29) (hn0 := "NoonOnABarrow") (vs := []) rfl (by decide +kernel) (by decide +kernel) cok_mX5_init lc_ins_mX5_init rfl rfl rfl (Nat.le_of_ble_eq_true rfl) a1 a2 a3 ?_
  refine x_Mt.mono h (fun u8 r h => ?_)
  obtain ⟨hr, h⟩ := h
  subst hr
  obtain ⟨a1, h⟩ := h
  refine o_putF (t := 3) (k := 8) (i := 34) (by decide +kernel) ho a1 rfl (by decide) rfl rfl rfl rfl (Or.inl ⟨_, rfl⟩) lc_197 ?_
  refine o_nameS (fun u9 eu9 => ?_)
  replace h := h u9 eu9
  exact o_vret rfl (by decide +kernel) h.1 h.2
set_option maxRecDepth 20000 in
theorem e_X4_init {d : Nat} {N0 : Nat} {Q : x_S → Option Value → Prop} {o : Nat} (ho : x_sh o = (4, 5)) {r1 : Nat} {σ : x_S} (h : x_sh N0 = (20, 32) ∧ N0 + 1 ≤ N0 + 2 ∧ x_sl N0 + 32 ≤ x_sl N0 + 96 ∧ (o < N0 + 1 ∧ (∀ u1, u1 = x_wr (x_nw σ N0) o 1 (some N0) → (x_sh (N0 + 1) = (20, 64) ∧ N0 + 1 + 1 ≤ N0 + 2 ∧ x_sl (N0 + 1) + 64 ≤ x_sl N0 + 96 ∧ (o < N0 + 2 ∧ (∀ u2, u2 = x_wr (x_nw u1 (N0 + 1)) o 2 (some (N0 + 1)) → (o < N0 + 2 ∧ (∀ u3, u3 = x_wr u2 o 0 (some r1) → (N0 + 2 = N0 + 2 ∧ Q u3 none))))))))) : x_Mt (d + 1) mX4_init N0 [.ref o, .ref r1] σ Q := by
  refine x_of (by decide) (Nat.le_of_ble_eq_true rfl) ?_
  show x_Wg (d + 1) mX4_init N0 Q N0 0 [(0, .ref o), (1, .ref r1)] [] σ
  refine o_aload_n (k := 0) 0 (by decide +kernel) rfl ?_
  refine o_objInit (i := 3) (by decide +kernel) lc_405 lc_obj (Nat.le_of_ble_eq_true rfl) ?_
  refine o_aload_n (k := 0) 0 (by decide +kernel) rfl ?_
  refine o_bipush (n := 32) (v := 32) (by decide +kernel) (by decide) ?_
  obtain ⟨a1, a2, a3, h⟩ := h
  refine o_newaI (by decide +kernel) lc_176 a1 (by decide) (by decide) (by decide) a2 a3 ?_
  obtain ⟨a1, h⟩ := h
  refine o_putF (t := 4) (k := 1) (i := 9) (by decide +kernel) ho a1 rfl (by decide) rfl rfl rfl rfl (Or.inr ⟨_, rfl⟩) lc_407 ?_
  refine o_nameS (fun u1 eu1 => ?_)
  replace h := h u1 eu1
  refine o_aload_n (k := 0) 0 (by decide +kernel) rfl ?_
  refine o_bipush (n := 64) (v := 64) (by decide +kernel) (by decide) ?_
  obtain ⟨a1, a2, a3, h⟩ := h
  refine o_newaI (by decide +kernel) lc_176 a1 (by decide) (by decide) (by decide) a2 a3 ?_
  obtain ⟨a1, h⟩ := h
  refine o_putF (t := 4) (k := 2) (i := 15) (by decide +kernel) ho a1 rfl (by decide) rfl rfl rfl rfl (Or.inr ⟨_, rfl⟩) lc_408 ?_
  refine o_nameS (fun u2 eu2 => ?_)
  replace h := h u2 eu2
  refine o_aload_n (k := 0) 0 (by decide +kernel) rfl ?_
  refine o_aload_n (k := 1) 1 (by decide +kernel) rfl ?_
  obtain ⟨a1, h⟩ := h
  refine o_putF (t := 4) (k := 0) (i := 18) (by decide +kernel) ho a1 rfl (by decide) rfl rfl rfl rfl (Or.inl ⟨_, rfl⟩) lc_406 ?_
  refine o_nameS (fun u3 eu3 => ?_)
  replace h := h u3 eu3
  exact o_vret rfl (by decide +kernel) h.1 h.2
set_option maxRecDepth 20000 in
theorem e_X5_init {d : Nat} {N0 : Nat} {Q : x_S → Option Value → Prop} {o : Nat} (ho : x_sh o = (5, 3)) {σ : x_S} (h : x_sh N0 = (20, 8) ∧ N0 + 1 ≤ N0 + 2 ∧ x_sl N0 + 8 ≤ x_sl N0 + 16 ∧ (o < N0 + 1 ∧ (∀ u1, u1 = x_wr (x_nw σ N0) o 0 (some N0) → (x_sh (N0 + 1) = (20, 8) ∧ N0 + 1 + 1 ≤ N0 + 2 ∧ x_sl (N0 + 1) + 8 ≤ x_sl N0 + 16 ∧ (o < N0 + 2 ∧ (∀ u2, u2 = x_wr (x_nw u1 (N0 + 1)) o 1 (some (N0 + 1)) → (N0 + 2 = N0 + 2 ∧ Q u2 none))))))) : x_Mt (d + 1) mX5_init N0 [.ref o] σ Q := by
  refine x_of (by decide) (Nat.le_of_ble_eq_true rfl) ?_
  show x_Wg (d + 1) mX5_init N0 Q N0 0 [(0, .ref o)] [] σ
  refine o_aload_n (k := 0) 0 (by decide +kernel) rfl ?_
  refine o_objInit (i := 3) (by decide +kernel) lc_155 lc_obj (Nat.le_of_ble_eq_true rfl) ?_
  refine o_aload_n (k := 0) 0 (by decide +kernel) rfl ?_
  refine o_bipush (n := 8) (v := 8) (by decide +kernel) (by decide) ?_
  obtain ⟨a1, a2, a3, h⟩ := h
  refine o_newaI (by decide +kernel) lc_176 a1 (by decide) (by decide) (by decide) a2 a3 ?_
  obtain ⟨a1, h⟩ := h
  refine o_putF (t := 5) (k := 0) (i := 9) (by decide +kernel) ho a1 rfl (by decide) rfl rfl rfl rfl (Or.inr ⟨_, rfl⟩) lc_156 ?_
  refine o_nameS (fun u1 eu1 => ?_)
  replace h := h u1 eu1
  refine o_aload_n (k := 0) 0 (by decide +kernel) rfl ?_
  refine o_bipush (n := 8) (v := 8) (by decide +kernel) (by decide) ?_
  obtain ⟨a1, a2, a3, h⟩ := h
  refine o_newaI (by decide +kernel) lc_176 a1 (by decide) (by decide) (by decide) a2 a3 ?_
  obtain ⟨a1, h⟩ := h
  refine o_putF (t := 5) (k := 1) (i := 15) (by decide +kernel) ho a1 rfl (by decide) rfl rfl rfl rfl (Or.inr ⟨_, rfl⟩) lc_160 ?_
  refine o_nameS (fun u2 eu2 => ?_)
  replace h := h u2 eu2
  exact o_vret rfl (by decide +kernel) h.1 h.2
set_option maxRecDepth 20000 in
theorem e_X6_init {d : Nat} {N0 : Nat} {Q : x_S → Option Value → Prop} {o : Nat} (ho : x_sh o = (6, 6)) {r1 : Nat} {σ : x_S} (h : o < N0 ∧ (∀ u1, u1 = x_wi σ o 4 (-1) → (o < N0 ∧ (∀ u2, u2 = x_wi u1 o 5 (-1) → (o < N0 ∧ (∀ u3, u3 = x_wr u2 o 0 (some r1) → (x_sh N0 = (9, 10) ∧ N0 + 1 ≤ N0 + 9 ∧ x_sl N0 + 10 ≤ x_sl N0 + 714 ∧ (N0 + 1 + 8 ≤ N0 + 9 ∧ x_sl (N0 + 1) + 704 ≤ x_sl N0 + 714 ∧ x_sl (N0 + 1 + 8) = x_sl (N0 + 1) + 704 ∧ (x_Mt d mX9_init (N0 + 1) [.ref N0] (x_nw u3 N0) (fun u4 r => r = none ∧ (o < N0 + 9 ∧ (∀ u5, u5 = x_wr u4 o 1 (some N0) → (N0 + 9 = N0 + 9 ∧ Q u5 none))))))))))))) : x_Mt (d + 1) mX6_init N0 [.ref o, .ref r1] σ Q := by
  refine x_of (by decide) (Nat.le_of_ble_eq_true rfl) ?_
  show x_Wg (d + 1) mX6_init N0 Q N0 0 [(0, .ref o), (1, .ref r1)] [] σ
  refine o_aload_n (k := 0) 0 (by decide +kernel) rfl ?_
  refine o_objInit (i := 3) (by decide +kernel) lc_376 lc_obj (Nat.le_of_ble_eq_true rfl) ?_
  refine o_aload_n (k := 0) 0 (by decide +kernel) rfl ?_
  refine o_iconst (n := -1) (v := (-1)) (by decide +kernel) (by decide) ?_
  obtain ⟨a1, h⟩ := h
  refine o_putI (t := 6) (k := 4) (i := 9) (by decide +kernel) ho a1 rfl (by decide) rfl rfl lc_383 ?_
  refine o_nameS (fun u1 eu1 => ?_)
  replace h := h u1 eu1
  refine o_aload_n (k := 0) 0 (by decide +kernel) rfl ?_
  refine o_iconst (n := -1) (v := (-1)) (by decide +kernel) (by decide) ?_
  obtain ⟨a1, h⟩ := h
  refine o_putI (t := 6) (k := 5) (i := 15) (by decide +kernel) ho a1 rfl (by decide) rfl rfl lc_385 ?_
  refine o_nameS (fun u2 eu2 => ?_)
  replace h := h u2 eu2
  refine o_aload_n (k := 0) 0 (by decide +kernel) rfl ?_
  refine o_aload_n (k := 1) 1 (by decide +kernel) rfl ?_
  obtain ⟨a1, h⟩ := h
  refine o_putF (t := 6) (k := 0) (i := 18) (by decide +kernel) ho a1 rfl (by decide) rfl rfl rfl rfl (Or.inl ⟨_, rfl⟩) lc_379 ?_
  refine o_nameS (fun u3 eu3 => ?_)
  replace h := h u3 eu3
  refine o_aload_n (k := 0) 0 (by decide +kernel) rfl ?_
  obtain ⟨a1, a2, a3, h⟩ := h
  refine o_new (t := 9) (i := 22) (by decide +kernel) lc_377 lc_302 lc_120 a1 rfl a2 a3 ?_
  refine o_dup (by decide +kernel) rfl ?_
  obtain ⟨a1, a2, a3, h⟩ := h
  refine o_callIN (o := N0) (μ' := mX9_init) (i := 24) (hn0 := "NoonOnABarrow") (vs := []) rfl (by decide +kernel) (by decide +kernel) cok_mX9_init lc_ins_mX9_init rfl rfl rfl (Nat.le_of_ble_eq_true rfl) a1 a2 a3 ?_
  refine x_Mt.mono h (fun u4 r h => ?_)
  obtain ⟨hr, h⟩ := h
  subst hr
  obtain ⟨a1, h⟩ := h
  refine o_putR (r := some N0) (t := 6) (k := 1) (i := 25) (by decide +kernel) ho a1 rfl (by decide) rfl rfl lc_380 ?_
  refine o_nameS (fun u5 eu5 => ?_)
  replace h := h u5 eu5
  exact o_vret rfl (by decide +kernel) h.1 h.2
set_option maxRecDepth 20000 in
theorem e_X7_init {d : Nat} {N0 : Nat} {Q : x_S → Option Value → Prop} {o : Nat} (ho : x_sh o = (7, 3)) {σ : x_S} (h : x_sh N0 = (24, 30) ∧ N0 + 1 ≤ N0 + 121 ∧ x_sl N0 + 30 ≤ x_sl N0 + 3540 ∧ (o < N0 + 1 ∧ (∀ u1, u1 = x_wr (x_nw σ N0) o 0 (some N0) → (x_Wg (d + 1) mX7_init N0 Q (N0 + 1) 15 [(0, .ref o), (1, .int 0)] [] u1)))) : x_Mt (d + 1) mX7_init N0 [.ref o] σ Q := by
  refine x_of (by decide) (Nat.le_of_ble_eq_true rfl) ?_
  show x_Wg (d + 1) mX7_init N0 Q N0 0 [(0, .ref o)] [] σ
  refine o_aload_n (k := 0) 0 (by decide +kernel) rfl ?_
  refine o_objInit (i := 3) (by decide +kernel) lc_285 lc_obj (Nat.le_of_ble_eq_true rfl) ?_
  refine o_aload_n (k := 0) 0 (by decide +kernel) rfl ?_
  refine o_bipush (n := 30) (v := 30) (by decide +kernel) (by decide) ?_
  obtain ⟨a1, a2, a3, h⟩ := h
  refine o_anewaD (j := 9) (by decide +kernel) lc_286 a1 (by decide) (by decide) (by decide) a2 a3 ?_
  obtain ⟨a1, h⟩ := h
  refine o_putF (t := 7) (k := 0) (i := 11) (by decide +kernel) ho a1 rfl (by decide) rfl rfl rfl rfl (Or.inr ⟨_, rfl⟩) lc_289 ?_
  refine o_nameS (fun u1 eu1 => ?_)
  replace h := h u1 eu1
  refine o_iconst (n := 0) (v := 0) (by decide +kernel) (by decide) ?_
  refine o_istore_n (k := 1) (L' := [(1, .int 0), (0, .ref o)]) (by decide +kernel) (by decide) rfl ?_
  refine o_sub [1, 0] rfl ?_
  exact h
set_option maxRecDepth 20000 in
theorem k_X7_init_15 {d : Nat} {N0 N : Nat} {Q : x_S → Option Value → Prop} {o : Nat} (ho : x_sh o = (7, 3)) {v1 : Int32} {σ : x_S} (h : (30 ≤ v1 → N = N0 + 121 ∧ Q σ none) ∧ (¬ 30 ≤ v1 → o < N ∧ (∃ c1, σ.2.2 o 0 = some c1 ∧ (x_sh N = (1, 11) ∧ N + 1 ≤ N0 + 121 ∧ x_sl N + 11 ≤ x_sl N0 + 3540 ∧ (N + 1 + 3 ≤ N0 + 121 ∧ x_sl (N + 1) + 106 ≤ x_sl N0 + 3540 ∧ x_sl (N + 1 + 3) = x_sl (N + 1) + 106 ∧ (x_Mt d mX1_init (N + 1) [.ref N] (x_nw σ N) (fun u2 r => r = none ∧ (x_sh c1 = (24, 30) ∧ c1 < N + 4 ∧ vp_in v1 30 ∧ x_sh N = (1, 11) ∧ N < N + 4 ∧ (∀ u3, u3 = x_wr u2 c1 v1.toNatClampNeg (some N) → (∀ y4, y4 = v1 + 1 → (x_Wg (d + 1) mX7_init N0 Q (N + 4) 15 [(0, .ref o), (1, .int y4)] [] u3))))))))))) : x_Wg (d + 1) mX7_init N0 Q N 15 [(0, .ref o), (1, .int v1)] [] σ := by
  refine o_iload_n (k := 1) 1 (by decide +kernel) rfl ?_
  refine o_bipush (n := 30) (v := 30) (by decide +kernel) (by decide) ?_
  refine o_icmp_ge (off := 22) 40 (by decide +kernel) (by decide) (fun q => ?_) (fun q => ?_)
  · replace h := h.1 q
    exact o_vret rfl (by decide +kernel) h.1 h.2
  · replace h := h.2 q
    refine o_aload_n (k := 0) 0 (by decide +kernel) rfl ?_
    obtain ⟨a1, c1, ec1, h⟩ := h
    refine o_get (v := .ref c1) (t := 7) (k := 0) (i := 11) (by decide +kernel) ho a1 rfl (by decide) lc_289 (by simp [x_av, x_ty, tyX7, ec1, x_rf]) ?_
    refine o_iload_n (k := 1) 1 (by decide +kernel) rfl ?_
    obtain ⟨a1, a2, a3, h⟩ := h
    refine o_new (t := 1) (i := 9) (by decide +kernel) lc_286 lc_220 lc_118 a1 rfl a2 a3 ?_
    refine o_dup (by decide +kernel) rfl ?_
    obtain ⟨a1, a2, a3, h⟩ := h
    refine o_callIN (o := N) (μ' := mX1_init) (i := 17) (hn0 := "NoonOnABarrow") (vs := []) rfl (by decide +kernel) (by decide +kernel) cok_mX1_init lc_ins_mX1_init rfl rfl rfl (Nat.le_of_ble_eq_true rfl) a1 a2 a3 ?_
    refine x_Mt.mono h (fun u2 r h => ?_)
    obtain ⟨hr, h⟩ := h
    subst hr
    obtain ⟨a1, a2, a3, a4, a5, h⟩ := h
    refine o_aastD (t := 1) (by decide +kernel) a1 a2 a3 a4 a5 rfl rfl ?_
    refine o_nameS (fun u3 eu3 => ?_)
    replace h := h u3 eu3
    obtain ⟨y4, ey4⟩ : ∃ y : Int32, y = v1 + 1 := ⟨_, rfl⟩
    replace h := h y4 ey4
    refine o_iinc (i := 1) (n := 1) (v := y4) (L' := [(1, .int y4), (0, .ref o)]) 1 (by decide +kernel) rfl (by rw [ey4]; rfl) (by decide) rfl ?_
    refine o_goto (off := -22) 15 (by decide +kernel) (by decide) ?_
    refine o_sub [1, 0] rfl ?_
    exact h
set_option maxRecDepth 20000 in
theorem e_X8_init {d : Nat} {N0 : Nat} {Q : x_S → Option Value → Prop} {o : Nat} (ho : x_sh o = (8, 6)) {σ : x_S} (h : x_sh N0 = (20, 300) ∧ N0 + 1 ≤ N0 + 4 ∧ x_sl N0 + 300 ≤ x_sl N0 + 1203 ∧ (o < N0 + 1 ∧ (∀ u1, u1 = x_wr (x_nw σ N0) o 0 (some N0) → (x_sh (N0 + 1) = (20, 301) ∧ N0 + 1 + 1 ≤ N0 + 4 ∧ x_sl (N0 + 1) + 301 ≤ x_sl N0 + 1203 ∧ (o < N0 + 2 ∧ (∀ u2, u2 = x_wr (x_nw u1 (N0 + 1)) o 2 (some (N0 + 1)) → (x_sh (N0 + 2) = (20, 301) ∧ N0 + 2 + 1 ≤ N0 + 4 ∧ x_sl (N0 + 2) + 301 ≤ x_sl N0 + 1203 ∧ (o < N0 + 3 ∧ (∀ u3, u3 = x_wr (x_nw u2 (N0 + 2)) o 3 (some (N0 + 2)) → (x_sh (N0 + 3) = (20, 301) ∧ N0 + 3 + 1 ≤ N0 + 4 ∧ x_sl (N0 + 3) + 301 ≤ x_sl N0 + 1203 ∧ (o < N0 + 4 ∧ (∀ u4, u4 = x_wr (x_nw u3 (N0 + 3)) o 4 (some (N0 + 3)) → (N0 + 4 = N0 + 4 ∧ Q u4 none))))))))))))) : x_Mt (d + 1) mX8_init N0 [.ref o] σ Q := by
  refine x_of (by decide) (Nat.le_of_ble_eq_true rfl) ?_
  show x_Wg (d + 1) mX8_init N0 Q N0 0 [(0, .ref o)] [] σ
  refine o_aload_n (k := 0) 0 (by decide +kernel) rfl ?_
  refine o_objInit (i := 3) (by decide +kernel) lc_350 lc_obj (Nat.le_of_ble_eq_true rfl) ?_
  refine o_aload_n (k := 0) 0 (by decide +kernel) rfl ?_
  refine o_sipush (n := 300) (v := 300) (by decide +kernel) (by decide) ?_
  obtain ⟨a1, a2, a3, h⟩ := h
  refine o_newaI (by decide +kernel) lc_176 a1 (by decide) (by decide) (by decide) a2 a3 ?_
  obtain ⟨a1, h⟩ := h
  refine o_putF (t := 8) (k := 0) (i := 9) (by decide +kernel) ho a1 rfl (by decide) rfl rfl rfl rfl (Or.inr ⟨_, rfl⟩) lc_351 ?_
  refine o_nameS (fun u1 eu1 => ?_)
  replace h := h u1 eu1
  refine o_aload_n (k := 0) 0 (by decide +kernel) rfl ?_
  refine o_sipush (n := 301) (v := 301) (by decide +kernel) (by decide) ?_
  obtain ⟨a1, a2, a3, h⟩ := h
  refine o_newaI (by decide +kernel) lc_176 a1 (by decide) (by decide) (by decide) a2 a3 ?_
  obtain ⟨a1, h⟩ := h
  refine o_putF (t := 8) (k := 2) (i := 15) (by decide +kernel) ho a1 rfl (by decide) rfl rfl rfl rfl (Or.inr ⟨_, rfl⟩) lc_354 ?_
  refine o_nameS (fun u2 eu2 => ?_)
  replace h := h u2 eu2
  refine o_aload_n (k := 0) 0 (by decide +kernel) rfl ?_
  refine o_sipush (n := 301) (v := 301) (by decide +kernel) (by decide) ?_
  obtain ⟨a1, a2, a3, h⟩ := h
  refine o_newaI (by decide +kernel) lc_176 a1 (by decide) (by decide) (by decide) a2 a3 ?_
  obtain ⟨a1, h⟩ := h
  refine o_putF (t := 8) (k := 3) (i := 18) (by decide +kernel) ho a1 rfl (by decide) rfl rfl rfl rfl (Or.inr ⟨_, rfl⟩) lc_355 ?_
  refine o_nameS (fun u3 eu3 => ?_)
  replace h := h u3 eu3
  refine o_aload_n (k := 0) 0 (by decide +kernel) rfl ?_
  refine o_sipush (n := 301) (v := 301) (by decide +kernel) (by decide) ?_
  obtain ⟨a1, a2, a3, h⟩ := h
  refine o_newaI (by decide +kernel) lc_176 a1 (by decide) (by decide) (by decide) a2 a3 ?_
  obtain ⟨a1, h⟩ := h
  refine o_putF (t := 8) (k := 4) (i := 21) (by decide +kernel) ho a1 rfl (by decide) rfl rfl rfl rfl (Or.inr ⟨_, rfl⟩) lc_356 ?_
  refine o_nameS (fun u4 eu4 => ?_)
  replace h := h u4 eu4
  exact o_vret rfl (by decide +kernel) h.1 h.2
set_option maxRecDepth 20000 in
theorem e_X9_init {d : Nat} {N0 : Nat} {Q : x_S → Option Value → Prop} {o : Nat} (ho : x_sh o = (9, 10)) {σ : x_S} (h : x_sh N0 = (20, 24) ∧ N0 + 1 ≤ N0 + 8 ∧ x_sl N0 + 24 ≤ x_sl N0 + 704 ∧ (o < N0 + 1 ∧ (∀ u1, u1 = x_wr (x_nw σ N0) o 0 (some N0) → (x_sh (N0 + 1) = (20, 24) ∧ N0 + 1 + 1 ≤ N0 + 8 ∧ x_sl (N0 + 1) + 24 ≤ x_sl N0 + 704 ∧ (o < N0 + 2 ∧ (∀ u2, u2 = x_wr (x_nw u1 (N0 + 1)) o 1 (some (N0 + 1)) → (x_sh (N0 + 2) = (20, 24) ∧ N0 + 2 + 1 ≤ N0 + 8 ∧ x_sl (N0 + 2) + 24 ≤ x_sl N0 + 704 ∧ (o < N0 + 3 ∧ (∀ u3, u3 = x_wr (x_nw u2 (N0 + 2)) o 2 (some (N0 + 2)) → (x_sh (N0 + 3) = (20, 24) ∧ N0 + 3 + 1 ≤ N0 + 8 ∧ x_sl (N0 + 3) + 24 ≤ x_sl N0 + 704 ∧ (o < N0 + 4 ∧ (∀ u4, u4 = x_wr (x_nw u3 (N0 + 3)) o 3 (some (N0 + 3)) → (x_sh (N0 + 4) = (20, 4) ∧ N0 + 4 + 1 ≤ N0 + 8 ∧ x_sl (N0 + 4) + 4 ≤ x_sl N0 + 704 ∧ (o < N0 + 5 ∧ (∀ u5, u5 = x_wr (x_nw u4 (N0 + 4)) o 5 (some (N0 + 4)) → (x_sh (N0 + 5) = (20, 4) ∧ N0 + 5 + 1 ≤ N0 + 8 ∧ x_sl (N0 + 5) + 4 ≤ x_sl N0 + 704 ∧ (o < N0 + 6 ∧ (∀ u6, u6 = x_wr (x_nw u5 (N0 + 5)) o 6 (some (N0 + 5)) → (x_sh (N0 + 6) = (20, 300) ∧ N0 + 6 + 1 ≤ N0 + 8 ∧ x_sl (N0 + 6) + 300 ≤ x_sl N0 + 704 ∧ (o < N0 + 7 ∧ (∀ u7, u7 = x_wr (x_nw u6 (N0 + 6)) o 7 (some (N0 + 6)) → (x_sh (N0 + 7) = (20, 300) ∧ N0 + 7 + 1 ≤ N0 + 8 ∧ x_sl (N0 + 7) + 300 ≤ x_sl N0 + 704 ∧ (o < N0 + 8 ∧ (∀ u8, u8 = x_wr (x_nw u7 (N0 + 7)) o 8 (some (N0 + 7)) → (N0 + 8 = N0 + 8 ∧ Q u8 none))))))))))))))))))))))))) : x_Mt (d + 1) mX9_init N0 [.ref o] σ Q := by
  refine x_of (by decide) (Nat.le_of_ble_eq_true rfl) ?_
  show x_Wg (d + 1) mX9_init N0 Q N0 0 [(0, .ref o)] [] σ
  refine o_aload_n (k := 0) 0 (by decide +kernel) rfl ?_
  refine o_objInit (i := 3) (by decide +kernel) lc_306 lc_obj (Nat.le_of_ble_eq_true rfl) ?_
  refine o_aload_n (k := 0) 0 (by decide +kernel) rfl ?_
  refine o_bipush (n := 24) (v := 24) (by decide +kernel) (by decide) ?_
  obtain ⟨a1, a2, a3, h⟩ := h
  refine o_newaI (by decide +kernel) lc_176 a1 (by decide) (by decide) (by decide) a2 a3 ?_
  obtain ⟨a1, h⟩ := h
  refine o_putF (t := 9) (k := 0) (i := 9) (by decide +kernel) ho a1 rfl (by decide) rfl rfl rfl rfl (Or.inr ⟨_, rfl⟩) lc_307 ?_
  refine o_nameS (fun u1 eu1 => ?_)
  replace h := h u1 eu1
  refine o_aload_n (k := 0) 0 (by decide +kernel) rfl ?_
  refine o_bipush (n := 24) (v := 24) (by decide +kernel) (by decide) ?_
  obtain ⟨a1, a2, a3, h⟩ := h
  refine o_newaI (by decide +kernel) lc_176 a1 (by decide) (by decide) (by decide) a2 a3 ?_
  obtain ⟨a1, h⟩ := h
  refine o_putF (t := 9) (k := 1) (i := 15) (by decide +kernel) ho a1 rfl (by decide) rfl rfl rfl rfl (Or.inr ⟨_, rfl⟩) lc_309 ?_
  refine o_nameS (fun u2 eu2 => ?_)
  replace h := h u2 eu2
  refine o_aload_n (k := 0) 0 (by decide +kernel) rfl ?_
  refine o_bipush (n := 24) (v := 24) (by decide +kernel) (by decide) ?_
  obtain ⟨a1, a2, a3, h⟩ := h
  refine o_newaI (by decide +kernel) lc_176 a1 (by decide) (by decide) (by decide) a2 a3 ?_
  obtain ⟨a1, h⟩ := h
  refine o_putF (t := 9) (k := 2) (i := 18) (by decide +kernel) ho a1 rfl (by decide) rfl rfl rfl rfl (Or.inr ⟨_, rfl⟩) lc_311 ?_
  refine o_nameS (fun u3 eu3 => ?_)
  replace h := h u3 eu3
  refine o_aload_n (k := 0) 0 (by decide +kernel) rfl ?_
  refine o_bipush (n := 24) (v := 24) (by decide +kernel) (by decide) ?_
  obtain ⟨a1, a2, a3, h⟩ := h
  refine o_newaI (by decide +kernel) lc_176 a1 (by decide) (by decide) (by decide) a2 a3 ?_
  obtain ⟨a1, h⟩ := h
  refine o_putF (t := 9) (k := 3) (i := 21) (by decide +kernel) ho a1 rfl (by decide) rfl rfl rfl rfl (Or.inr ⟨_, rfl⟩) lc_313 ?_
  refine o_nameS (fun u4 eu4 => ?_)
  replace h := h u4 eu4
  refine o_aload_n (k := 0) 0 (by decide +kernel) rfl ?_
  refine o_iconst (n := 4) (v := 4) (by decide +kernel) (by decide) ?_
  obtain ⟨a1, a2, a3, h⟩ := h
  refine o_newaI (by decide +kernel) lc_176 a1 (by decide) (by decide) (by decide) a2 a3 ?_
  obtain ⟨a1, h⟩ := h
  refine o_putF (t := 9) (k := 5) (i := 24) (by decide +kernel) ho a1 rfl (by decide) rfl rfl rfl rfl (Or.inr ⟨_, rfl⟩) lc_318 ?_
  refine o_nameS (fun u5 eu5 => ?_)
  replace h := h u5 eu5
  refine o_aload_n (k := 0) 0 (by decide +kernel) rfl ?_
  refine o_iconst (n := 4) (v := 4) (by decide +kernel) (by decide) ?_
  obtain ⟨a1, a2, a3, h⟩ := h
  refine o_newaI (by decide +kernel) lc_176 a1 (by decide) (by decide) (by decide) a2 a3 ?_
  obtain ⟨a1, h⟩ := h
  refine o_putF (t := 9) (k := 6) (i := 27) (by decide +kernel) ho a1 rfl (by decide) rfl rfl rfl rfl (Or.inr ⟨_, rfl⟩) lc_319 ?_
  refine o_nameS (fun u6 eu6 => ?_)
  replace h := h u6 eu6
  refine o_aload_n (k := 0) 0 (by decide +kernel) rfl ?_
  refine o_sipush (n := 300) (v := 300) (by decide +kernel) (by decide) ?_
  obtain ⟨a1, a2, a3, h⟩ := h
  refine o_newaI (by decide +kernel) lc_176 a1 (by decide) (by decide) (by decide) a2 a3 ?_
  obtain ⟨a1, h⟩ := h
  refine o_putF (t := 9) (k := 7) (i := 30) (by decide +kernel) ho a1 rfl (by decide) rfl rfl rfl rfl (Or.inr ⟨_, rfl⟩) lc_320 ?_
  refine o_nameS (fun u7 eu7 => ?_)
  replace h := h u7 eu7
  refine o_aload_n (k := 0) 0 (by decide +kernel) rfl ?_
  refine o_sipush (n := 300) (v := 300) (by decide +kernel) (by decide) ?_
  obtain ⟨a1, a2, a3, h⟩ := h
  refine o_newaI (by decide +kernel) lc_176 a1 (by decide) (by decide) (by decide) a2 a3 ?_
  obtain ⟨a1, h⟩ := h
  refine o_putF (t := 9) (k := 8) (i := 33) (by decide +kernel) ho a1 rfl (by decide) rfl rfl rfl rfl (Or.inr ⟨_, rfl⟩) lc_321 ?_
  refine o_nameS (fun u8 eu8 => ?_)
  replace h := h u8 eu8
  exact o_vret rfl (by decide +kernel) h.1 h.2
set_option maxRecDepth 20000 in
theorem e_X10_init {d : Nat} {N0 : Nat} {Q : x_S → Option Value → Prop} {o : Nat} (ho : x_sh o = (10, 10)) {r1 : Nat} {r2 : Nat} {σ : x_S} (h : x_sh N0 = (20, 72) ∧ N0 + 1 ≤ N0 + 5 ∧ x_sl N0 + 72 ≤ x_sl N0 + 224 ∧ (o < N0 + 1 ∧ (∀ u1, u1 = x_wr (x_nw σ N0) o 2 (some N0) → (x_sh (N0 + 1) = (20, 72) ∧ N0 + 1 + 1 ≤ N0 + 5 ∧ x_sl (N0 + 1) + 72 ≤ x_sl N0 + 224 ∧ (o < N0 + 2 ∧ (∀ u2, u2 = x_wr (x_nw u1 (N0 + 1)) o 3 (some (N0 + 1)) → (x_sh (N0 + 2) = (20, 64) ∧ N0 + 2 + 1 ≤ N0 + 5 ∧ x_sl (N0 + 2) + 64 ≤ x_sl N0 + 224 ∧ (o < N0 + 3 ∧ (∀ u3, u3 = x_wr (x_nw u2 (N0 + 2)) o 6 (some (N0 + 2)) → (x_sh (N0 + 3) = (20, 8) ∧ N0 + 3 + 1 ≤ N0 + 5 ∧ x_sl (N0 + 3) + 8 ≤ x_sl N0 + 224 ∧ (o < N0 + 4 ∧ (∀ u4, u4 = x_wr (x_nw u3 (N0 + 3)) o 7 (some (N0 + 3)) → (x_sh (N0 + 4) = (20, 8) ∧ N0 + 4 + 1 ≤ N0 + 5 ∧ x_sl (N0 + 4) + 8 ≤ x_sl N0 + 224 ∧ (o < N0 + 5 ∧ (∀ u5, u5 = x_wr (x_nw u4 (N0 + 4)) o 8 (some (N0 + 4)) → (o < N0 + 5 ∧ (∀ u6, u6 = x_wr u5 o 0 (some r1) → (o < N0 + 5 ∧ (∀ u7, u7 = x_wr u6 o 1 (some r2) → (N0 + 5 = N0 + 5 ∧ Q u7 none)))))))))))))))))))) : x_Mt (d + 1) mX10_init N0 [.ref o, .ref r1, .ref r2] σ Q := by
  refine x_of (by decide) (Nat.le_of_ble_eq_true rfl) ?_
  show x_Wg (d + 1) mX10_init N0 Q N0 0 [(0, .ref o), (1, .ref r1), (2, .ref r2)] [] σ
  refine o_aload_n (k := 0) 0 (by decide +kernel) rfl ?_
  refine o_objInit (i := 3) (by decide +kernel) lc_441 lc_obj (Nat.le_of_ble_eq_true rfl) ?_
  refine o_aload_n (k := 0) 0 (by decide +kernel) rfl ?_
  refine o_bipush (n := 72) (v := 72) (by decide +kernel) (by decide) ?_
  obtain ⟨a1, a2, a3, h⟩ := h
  refine o_newaI (by decide +kernel) lc_176 a1 (by decide) (by decide) (by decide) a2 a3 ?_
  obtain ⟨a1, h⟩ := h
  refine o_putF (t := 10) (k := 2) (i := 11) (by decide +kernel) ho a1 rfl (by decide) rfl rfl rfl rfl (Or.inr ⟨_, rfl⟩) lc_444 ?_
  refine o_nameS (fun u1 eu1 => ?_)
  replace h := h u1 eu1
  refine o_aload_n (k := 0) 0 (by decide +kernel) rfl ?_
  refine o_bipush (n := 72) (v := 72) (by decide +kernel) (by decide) ?_
  obtain ⟨a1, a2, a3, h⟩ := h
  refine o_newaI (by decide +kernel) lc_176 a1 (by decide) (by decide) (by decide) a2 a3 ?_
  obtain ⟨a1, h⟩ := h
  refine o_putF (t := 10) (k := 3) (i := 15) (by decide +kernel) ho a1 rfl (by decide) rfl rfl rfl rfl (Or.inr ⟨_, rfl⟩) lc_445 ?_
  refine o_nameS (fun u2 eu2 => ?_)
  replace h := h u2 eu2
  refine o_aload_n (k := 0) 0 (by decide +kernel) rfl ?_
  refine o_bipush (n := 64) (v := 64) (by decide +kernel) (by decide) ?_
  obtain ⟨a1, a2, a3, h⟩ := h
  refine o_newaI (by decide +kernel) lc_176 a1 (by decide) (by decide) (by decide) a2 a3 ?_
  obtain ⟨a1, h⟩ := h
  refine o_putF (t := 10) (k := 6) (i := 18) (by decide +kernel) ho a1 rfl (by decide) rfl rfl rfl rfl (Or.inr ⟨_, rfl⟩) lc_448 ?_
  refine o_nameS (fun u3 eu3 => ?_)
  replace h := h u3 eu3
  refine o_aload_n (k := 0) 0 (by decide +kernel) rfl ?_
  refine o_bipush (n := 8) (v := 8) (by decide +kernel) (by decide) ?_
  obtain ⟨a1, a2, a3, h⟩ := h
  refine o_newaI (by decide +kernel) lc_176 a1 (by decide) (by decide) (by decide) a2 a3 ?_
  obtain ⟨a1, h⟩ := h
  refine o_putF (t := 10) (k := 7) (i := 21) (by decide +kernel) ho a1 rfl (by decide) rfl rfl rfl rfl (Or.inr ⟨_, rfl⟩) lc_449 ?_
  refine o_nameS (fun u4 eu4 => ?_)
  replace h := h u4 eu4
  refine o_aload_n (k := 0) 0 (by decide +kernel) rfl ?_
  refine o_bipush (n := 8) (v := 8) (by decide +kernel) (by decide) ?_
  obtain ⟨a1, a2, a3, h⟩ := h
  refine o_newaI (by decide +kernel) lc_176 a1 (by decide) (by decide) (by decide) a2 a3 ?_
  obtain ⟨a1, h⟩ := h
  refine o_putF (t := 10) (k := 8) (i := 24) (by decide +kernel) ho a1 rfl (by decide) rfl rfl rfl rfl (Or.inr ⟨_, rfl⟩) lc_450 ?_
  refine o_nameS (fun u5 eu5 => ?_)
  replace h := h u5 eu5
  refine o_aload_n (k := 0) 0 (by decide +kernel) rfl ?_
  refine o_aload_n (k := 1) 1 (by decide +kernel) rfl ?_
  obtain ⟨a1, h⟩ := h
  refine o_putF (t := 10) (k := 0) (i := 27) (by decide +kernel) ho a1 rfl (by decide) rfl rfl rfl rfl (Or.inl ⟨_, rfl⟩) lc_442 ?_
  refine o_nameS (fun u6 eu6 => ?_)
  replace h := h u6 eu6
  refine o_aload_n (k := 0) 0 (by decide +kernel) rfl ?_
  refine o_aload_n (k := 2) 2 (by decide +kernel) rfl ?_
  obtain ⟨a1, h⟩ := h
  refine o_putF (t := 10) (k := 1) (i := 31) (by decide +kernel) ho a1 rfl (by decide) rfl rfl rfl rfl (Or.inl ⟨_, rfl⟩) lc_443 ?_
  refine o_nameS (fun u7 eu7 => ?_)
  replace h := h u7 eu7
  exact o_vret rfl (by decide +kernel) h.1 h.2
end
section
/-! THE CLAIM OUT OF ONE WALK OF THE LAW'S BODY. Your part is whole_start (and what it stands on); all else here is the same for every law, but numbers. -/
def R_law : String := "NoonOnABarrowLaw"
def lw_P (b : Addr) (xs : List Int32) (args : Array Value) (s : State) : Prop := args = #[.ref b] ∧ s.IntsAt b xs ∧ xs.length ≤ 3072 ∧ (Jvm.Cond.and given_1 narrow_1).before args s = true
def lw_Q (_ : Array Value) (s : State) (o : Outcome) (t : State) : Prop := o = .returned (some (.int 1)) ∧ Framed s o t [] 600000 7302250
def lw_Z (below : List Frame) (a : Array Value) (s : State) : State → Prop := fun t => ∃ o, t.status = .running ∧ Ended t below o ∧ lw_Q a s o t
/-- the law's own end, with 1 on the stack, nothing written that was there before, its room as the claim has it -/
theorem lw_ret {p : Program} {l : Launch} {e : Env} {s : State} {m : MethodId} {below : List Frame} {meth : Method} {c : Code} {b : Nat} (hx : p.tables.exec = Jvm.exec) (hb : c.code = code) (hr : meth.sig.returnType = ret) (hlocks : meth.locks = false) {pc : Nat} {H : Heap} {ls : Array Slot} (hdg : decode code pc = .ok (.ireturn, 1)) : W p l e room_1 s m #[Value.ref b] below meth c H [] 600000 7302250 (lw_Z below #[Value.ref b] s) (F0 m pc ls [.int 1]) := by
  intro T hT X
  obtain ⟨fs, hret, hrun, hended, hW, hframe⟩ := X.leave (v := some (.int 1)) (hlocks := hlocks) (fun h => by rw [hr] at h; cases h)
  have hmeth' : T.vm.method? m = some meth := X.method'
  refine ⟨T.setFrames fs, ?_, .returned (some (.int 1)), hrun, hended, rfl, ⟨_, rfl⟩, hW, hframe⟩
  jvm_step X.here [X.here.top, hx, hb, hdg, hmeth', hr, ret, narrow_b1]
  (try refine ⟨rfl, ?_⟩); (try refine ⟨rfl, ?_⟩)
  first | (intro acts; rw [hret _ acts rfl rfl rfl]) | rw [hret _ _ rfl rfl rfl]
  exact Steps.refl _
/-- what holds at the law's entry: the machine, the code, the tables' words (any of lw_tbl by 'hts w (by decide +kernel)'), the script of L ints xs at the cell b, what the Statement gives of the start (any of its parts by flat_of_before) -/
def lw_At (p : Program) (s : State) (m : MethodId) (meth : Method) (c : Code) (b L : Nat) (xs : Nat → Int32) : Prop :=
  p.tables.exec = Jvm.exec ∧ c.code = code ∧ meth.sig.returnType = ret ∧ c.maxLocals = 4 ∧ s.vm.findClass R_law = some m.cls ∧ (∀ w ∈ lw_tbl, w.before #[Value.ref b] s = true) ∧ va_X b L xs s s.heap ∧ b < s.heap.size ∧ meth.locks = false ∧ (Jvm.Cond.and given_1 narrow_1).before #[Value.ref b] s = true
end
section
/-- what holds through the law -/
def x_Lc (p : Program) (s : State) (m : MethodId) (meth : Method) (c : Code) (b Ln : Nat) (xs : Nat → Int32) (G : x_G) : Prop := lw_At p s m meth c b Ln xs ∧ x_K G s ∧ s.heap.size = G.2.2.1
/-- THE LAW'S JUDGEMENT -/
def x_Lj (Ln : Nat) (xs : Nat → Int32) (N pc : Nat) (L : List (Nat × Value)) (st : List Value) (σ : x_S) : Prop := ∀ (p : Program) (l : Launch) (e : Env) (s : State) (m : MethodId) (below : List Frame) (meth : Method) (c : Code) (b : Nat) (G : x_G), x_Lc p s m meth c b Ln xs G →
  ∀ (H : Heap) (locs : List Loc) (ls : Array Slot), x_W G N σ H → va_S (x_A G) s.heap H locs → lv_has ls 4 ((0, .ref b) :: L.map fun q => (q.1, x_ad G.2.2.1 q.2)) → W p l e room_1 s m #[Value.ref b] below meth c H locs N (x_sl N) (lw_Z below #[Value.ref b] s) (F0 m pc ls (st.map (x_ad G.2.2.1)))
section XL
variable {Ln : Nat} {xs : Nat → Int32} {N pc : Nat} {L L' : List (Nat × Value)} {st st' : List Value} {σ : x_S}
theorem x_lwd {p : Program} {s : State} {m : MethodId} {meth : Method} {c : Code} {b : Nat} {G : x_G} (C : x_Lc p s m meth c b Ln xs G) : ∀ w ∈ x_tb, w.before #[Value.ref b] s = true := fun w h => C.1.2.2.2.2.2.1 w (List.mem_filter.mp h).1
theorem x_lat' {ls : Array Slot} {z b : Nat} (hl : lv_has ls 4 ((0, .ref b) :: L.map fun q => (q.1, x_ad z q.2))) {j i : Nat} {v : Value} (h : L[j]? = some (i, v)) : ls[i]? = some (.val (x_ad z v)) := lv_at hl (j + 1) (by rw [List.getElem?_cons_succ, List.getElem?_map, h]; rfl)
theorem L_aload {k : Fin 4} {x : Nat} (j : Nat) (hd : decode code pc = .ok (.aload_n k, 1)) (hL : L[j]? = some ((k : Nat), .ref x)) (h : x_Lj Ln xs N (pc + 1) L (.ref x :: st) σ) : x_Lj Ln xs N pc L st σ := by
  intro p l e s m below meth c b G C H locs ls hW hS hl
  exact lv_aload_n C.1.1 C.1.2.1 hd rfl (x_lat' hl hL) (h p l e s m below meth c b G C H locs ls hW hS hl)
theorem x_bA {p : Program} {s : State} {m : MethodId} {meth : Method} {c : Code} {b : Nat} {G : x_G} (C : x_Lc p s m meth c b Ln xs G) : ¬ x_A G b := by
  have h1 := C.2.2
  have h2 := C.1.2.2.2.2.2.2.2.1
  show ¬ G.2.2.1 ≤ b
  omega
theorem L_arg {i v : Int32} {n : Int} (j : Nat) (d1 : decode code pc = .ok (.aload_n 0, 1)) (d2 : decode code (pc + 1) = .ok (.iload_n 3, 1)) (d3 : decode code (pc + 1 + 1) = .ok (.iconst n, 1)) (d4 : decode code (pc + 1 + 1 + 1) = .ok (.iadd, 1)) (d5 : decode code (pc + 1 + 1 + 1 + 1) = .ok (.iaload, 1)) (hL : L[j]? = some (3, .int i)) (hn : Int32.ofInt n = v) (hin : vp_in (i + v) Ln) (h : x_Lj Ln xs N (pc + 1 + 1 + 1 + 1 + 1) L (.int (xs (i + v).toNatClampNeg) :: st) σ) : x_Lj Ln xs N pc L st σ := by
  intro p l e s m below meth c b G C H locs ls hW hS hl
  refine lv_aload_n (x := b) C.1.1 C.1.2.1 d1 rfl (lv_at hl 0 rfl) ?_
  refine lv_iload_n (i := 3) (x := i) C.1.1 C.1.2.1 d2 rfl (x_lat' hl hL) ?_
  refine lv_iconst C.1.1 C.1.2.1 d3 hn ?_
  refine lv_iadd C.1.1 C.1.2.1 d4 ?_
  exact va_sld C.1.1 C.1.2.1 C.1.2.2.2.2.2.2.1 C.1.2.2.2.2.2.2.2.1 (x_bA C) hS hin d5 (h p l e s m below meth c b G C H locs ls hW hS hl)
theorem L_sel {i : Int32} (j : Nat) (d1 : decode code pc = .ok (.aload_n 0, 1)) (d2 : decode code (pc + 1) = .ok (.iload_n 3, 1)) (d5 : decode code (pc + 1 + 1) = .ok (.iaload, 1)) (hL : L[j]? = some (3, .int i)) (hin : vp_in i Ln) (h : x_Lj Ln xs N (pc + 1 + 1 + 1) L (.int (xs i.toNatClampNeg) :: st) σ) : x_Lj Ln xs N pc L st σ := by
  intro p l e s m below meth c b G C H locs ls hW hS hl
  refine lv_aload_n (x := b) C.1.1 C.1.2.1 d1 rfl (lv_at hl 0 rfl) ?_
  refine lv_iload_n (i := 3) (x := i) C.1.1 C.1.2.1 d2 rfl (x_lat' hl hL) ?_
  exact va_sld C.1.1 C.1.2.1 C.1.2.2.2.2.2.2.1 C.1.2.2.2.2.2.2.2.1 (x_bA C) hS hin d5 (h p l e s m below meth c b G C H locs ls hW hS hl)
theorem L_head {i : Int32} (j : Nat) (d1 : decode code pc = .ok (.iload_n 3, 1)) (d2 : decode code (pc + 1) = .ok (.aload_n 0, 1)) (d3 : decode code (pc + 1 + 1) = .ok (.arraylength, 1)) (hL : L[j]? = some (3, .int i)) (h : x_Lj Ln xs N (pc + 1 + 1 + 1) L (.int (Int32.ofNat Ln) :: .int i :: st) σ) : x_Lj Ln xs N pc L st σ := by
  intro p l e s m below meth c b G C H locs ls hW hS hl
  refine lv_iload_n (i := 3) (x := i) C.1.1 C.1.2.1 d1 rfl (x_lat' hl hL) ?_
  refine lv_aload_n (x := b) C.1.1 C.1.2.1 d2 rfl (lv_at hl 0 rfl) ?_
  exact va_slen C.1.1 C.1.2.1 C.1.2.2.2.2.2.2.1 C.1.2.2.2.2.2.2.2.1 (x_bA C) hS d3 (h p l e s m below meth c b G C H locs ls hW hS hl)
theorem L_bipush {n : Int} {v : Int32} (hd : decode code pc = .ok (.bipush n, 2)) (hv : (Int8.ofInt n).toInt32 = v) (h : x_Lj Ln xs N (pc + 2) L (.int v :: st) σ) : x_Lj Ln xs N pc L st σ := by
  intro p l e s m below meth c b G C H locs ls hW hS hl
  exact lv_bipush C.1.1 C.1.2.1 hd hv (h p l e s m below meth c b G C H locs ls hW hS hl)
theorem L_isub {x y : Int32} (hd : decode code pc = .ok (.isub, 1)) (h : x_Lj Ln xs N (pc + 1) L (.int (x - y) :: st) σ) : x_Lj Ln xs N pc L (.int y :: .int x :: st) σ := by
  intro p l e s m below meth c b G C H locs ls hW hS hl
  exact lv_isub C.1.1 C.1.2.1 hd (h p l e s m below meth c b G C H locs ls hW hS hl)
theorem L_iand {x y : Int32} (hd : decode code pc = .ok (.iand, 1)) (h : x_Lj Ln xs N (pc + 1) L (.int (x &&& y) :: st) σ) : x_Lj Ln xs N pc L (.int y :: .int x :: st) σ := by
  intro p l e s m below meth c b G C H locs ls hW hS hl
  exact lv_iand C.1.1 C.1.2.1 hd (h p l e s m below meth c b G C H locs ls hW hS hl)
theorem L_gt {x y : Int32} {off : Int} (tgt : Nat) (hd : decode code pc = .ok (.if_icmp .gt off, 3)) (ht : (pc : Int) + off = (tgt : Int)) (kt : y < x → x_Lj Ln xs N tgt L st σ) (kf : ¬ y < x → x_Lj Ln xs N (pc + 3) L st σ) : x_Lj Ln xs N pc L (.int y :: .int x :: st) σ := by
  intro p l e s m below meth c b G C H locs ls hW hS hl
  exact lv_icmp_gt C.1.1 C.1.2.1 hd ht (fun q => kt q p l e s m below meth c b G C H locs ls hW hS hl) (fun q => kf q p l e s m below meth c b G C H locs ls hW hS hl)
theorem L_eq {x y : Int32} {off : Int} (tgt : Nat) (hd : decode code pc = .ok (.if_icmp .eq off, 3)) (ht : (pc : Int) + off = (tgt : Int)) (he : x = y) (kt : x_Lj Ln xs N tgt L st σ) : x_Lj Ln xs N pc L (.int y :: .int x :: st) σ := by
  intro p l e s m below meth c b G C H locs ls hW hS hl
  exact lv_icmp_eq C.1.1 C.1.2.1 hd ht (fun _ => kt p l e s m below meth c b G C H locs ls hW hS hl) (fun q => absurd he q)
theorem L_goto {off : Int} (tgt : Nat) (hd : decode code pc = .ok (.goto off, 3)) (ht : (pc : Int) + off = (tgt : Int)) (h : x_Lj Ln xs N tgt L st σ) : x_Lj Ln xs N pc L st σ := by
  intro p l e s m below meth c b G C H locs ls hW hS hl
  exact lv_goto C.1.1 C.1.2.1 hd ht (h p l e s m below meth c b G C H locs ls hW hS hl)
theorem L_switchIn {dflt lo hi : Int} {offs : Array Int} {len : Nat} {x : Int32} {off : Int} {tgt : Nat} (hd : decode code pc = .ok (.tableswitch dflt lo hi offs, len)) (h1 : ¬ x.toInt < lo) (h2 : ¬ hi < x.toInt) (ho : offs[(x.toInt - lo).toNat]? = some off) (ht : (pc : Int) + off = (tgt : Int)) (h : x_Lj Ln xs N tgt L st σ) : x_Lj Ln xs N pc L (.int x :: st) σ := by
  intro p l e s m below meth c b G C H locs ls hW hS hl
  exact lv_tableIn C.1.1 C.1.2.1 hd h1 h2 ho ht (h p l e s m below meth c b G C H locs ls hW hS hl)
theorem L_switchOut {dflt lo hi : Int} {offs : Array Int} {len : Nat} {x : Int32} {tgt : Nat} (hd : decode code pc = .ok (.tableswitch dflt lo hi offs, len)) (hx : x.toInt < lo ∨ hi < x.toInt) (ht : (pc : Int) + dflt = (tgt : Int)) (h : x_Lj Ln xs N tgt L st σ) : x_Lj Ln xs N pc L (.int x :: st) σ := by
  intro p l e s m below meth c b G C H locs ls hW hS hl
  exact lv_tableOut C.1.1 C.1.2.1 hd hx ht (h p l e s m below meth c b G C H locs ls hW hS hl)
/-- a store keeps the script's own place -/
theorem x_st1_b {i z b : Nat} {v w : Value} (hi : i ≠ 0) (hw : x_ad z v = w) (h : x_st1 i v L = L') {ls : Array Slot} (hl : lv_has ls 4 ((i, w) :: ((0, .ref b) :: L.map fun q => (q.1, x_ad z q.2)).filter (fun q => !(q.1 == i) && !(q.1 + 1 == i && q.2.category == 2)))) : lv_has ls 4 ((0, .ref b) :: L'.map fun q => (q.1, x_ad z q.2)) := by
  refine ⟨hl.1, hl.2.1, fun q hq => hl.2.2 q ?_⟩
  rw [← x_st1_map hw h] at hq
  rcases List.mem_cons.mp hq with rfl | hq
  · refine List.mem_cons_of_mem _ (List.mem_filter.mpr ⟨List.mem_cons_self, ?_⟩)
    have h1 : (0 == i) = false := by simp; omega
    simp [h1, Value.category]
  · rcases List.mem_cons.mp hq with rfl | hq
    · exact List.mem_cons_self
    · exact List.mem_cons_of_mem _ (List.mem_filter.mpr ⟨List.mem_cons_of_mem _ (List.mem_filter.mp hq).1, (List.mem_filter.mp hq).2⟩)
theorem L_istore {k : Fin 4} {x : Int32} (hk : (k : Nat) ≠ 0) (hd : decode code pc = .ok (.istore_n k, 1)) (hL : x_st1 k (.int x) L = L') (h : x_Lj Ln xs N (pc + 1) L' st σ) : x_Lj Ln xs N pc L (.int x :: st) σ := by
  intro p l e s m below meth c b G C H locs ls hW hS hl
  exact lv_istore_n C.1.1 C.1.2.1 hd rfl hl k.isLt rfl (fun ls' hl' => h p l e s m below meth c b G C H locs ls' hW hS (x_st1_b hk rfl hL hl'))
theorem L_astore {k : Fin 4} {x : Nat} (hk : (k : Nat) ≠ 0) (hd : decode code pc = .ok (.astore_n k, 1)) (hL : x_st1 k (.ref x) L = L') (h : x_Lj Ln xs N (pc + 1) L' st σ) : x_Lj Ln xs N pc L (.ref x :: st) σ := by
  intro p l e s m below meth c b G C H locs ls hW hS hl
  exact lv_astore_n C.1.1 C.1.2.1 hd rfl hl k.isLt rfl (fun ls' hl' => h p l e s m below meth c b G C H locs ls' hW hS (x_st1_b hk rfl hL hl'))
theorem L_iconst {n : Int} {v : Int32} (hd : decode code pc = .ok (.iconst n, 1)) (hv : Int32.ofInt n = v) (h : x_Lj Ln xs N (pc + 1) L (.int v :: st) σ) : x_Lj Ln xs N pc L st σ := by
  intro p l e s m below meth c b G C H locs ls hW hS hl
  exact lv_iconst C.1.1 C.1.2.1 hd hv (h p l e s m below meth c b G C H locs ls hW hS hl)
theorem L_dup {v : Value} (hd : decode code pc = .ok (.dup, 1)) (hv : v.category = 1) (h : x_Lj Ln xs N (pc + 1) L (v :: v :: st) σ) : x_Lj Ln xs N pc L (v :: st) σ := by
  intro p l e s m below meth c b G C H locs ls hW hS hl
  exact lv_dup C.1.1 C.1.2.1 hd (by rw [x_ad_cat]; exact hv) (h p l e s m below meth c b G C H locs ls hW hS hl)
theorem L_iinc {i : Nat} {n : Int} {x v : Int32} (j : Nat) (hi : i ≠ 0) (hd : decode code pc = .ok (.iinc i n, 3)) (hj : L[j]? = some (i, .int x)) (hv : x + Int32.ofInt n = v) (hn : i < 4) (hL : x_st1 i (.int v) L = L') (h : x_Lj Ln xs N (pc + 3) L' st σ) : x_Lj Ln xs N pc L st σ := by
  intro p l e s m below meth c b G C H locs ls hW hS hl
  exact lv_iinc C.1.1 C.1.2.1 hd hl (k := j + 1) (by rw [List.getElem?_cons_succ, List.getElem?_map, hj]; rfl) hv hn rfl (fun ls' hl' => h p l e s m below meth c b G C H locs ls' hW hS (x_st1_b hi rfl hL hl'))
theorem L_sub (ks : List Nat) (hL : ks.filterMap (fun k => L[k]?) = L') (h : x_Lj Ln xs N pc L' st σ) : x_Lj Ln xs N pc L st σ := by
  intro p l e s m below meth c b G C H locs ls hW hS hl
  refine h p l e s m below meth c b G C H locs ls hW hS ⟨hl.1, hl.2.1, fun q hq => hl.2.2 q ?_⟩
  rcases List.mem_cons.mp hq with rfl | hq
  · exact List.mem_cons_self
  · refine List.mem_cons_of_mem _ ?_
    subst hL
    obtain ⟨a, ha, rfl⟩ := List.mem_map.mp hq
    obtain ⟨k, -, hk⟩ := List.mem_filterMap.mp ha
    exact List.mem_map.mpr ⟨a, List.mem_of_getElem? hk, rfl⟩
theorem L_end (h1 : N ≤ 600000) (h2 : x_sl N ≤ 7302250) (d1 : decode code pc = .ok (.iconst 1, 1)) (d2 : decode code (pc + 1) = .ok (.ireturn, 1)) : x_Lj Ln xs N pc L [] σ := by
  intro p l e s m below meth c b G C H locs ls hW hS hl
  refine lv_iconst (v := 1) C.1.1 C.1.2.1 d1 (by decide) ?_
  refine va_forget (fun q hq => by have h3 := hS.2.2 q hq; have h4 := C.2.2; have h3 : G.2.2.1 ≤ q.base := h3; omega) ?_
  refine W.widen (k := 600000) (n := 7302250) h1 h2 ?_
  exact lw_ret C.1.1 C.1.2.1 C.1.2.2.1 C.1.2.2.2.2.2.2.2.2.1 d2
theorem x_goodT {μ' : x_M} (h : Cond.code μ'.1 μ'.2.1 μ'.2.2.1 μ'.2.2.2.1 ∈ x_tb) : GoodIn x_tb (x_w μ') := by
  intro w hw
  have h1 : w ∈ x_tb := by
    rcases List.mem_cons.mp hw with q | q
    · rw [q]; exact h
    · exact q
  exact ⟨h1, good_of_word (List.mem_filter.mp h1).2⟩
theorem x_sizeL {p : Program} {l : Launch} {e : Env} {s T : State} {m : MethodId} {below : List Frame} {meth : Method} {c : Code} {b k : Nat} {G : x_G} {H : Heap} {locs : List Loc} (C : x_Lc p s m meth c b Ln xs G) (X : Stand p l e room_1 s m #[Value.ref b] below meth c T locs N k) (hT : T.heap = H) (hW : x_W G N σ H) (hS : va_S (x_A G) s.heap H locs) : H.size = G.2.2.1 + N := by
  have h1 : T.heap.size ≤ s.heap.size + N := X.same.2.2.1
  have h2 : s.heap.size = G.2.2.1 := C.2.2
  rw [hT, h2] at h1
  have h3 := hS.1
  rw [h2] at h3
  cases N with
  | zero => omega
  | succ n =>
    have h4 := (hW n _ (x_ws_at (Nat.lt_succ_self n))).lt
    have h4 : G.2.2.1 + n < H.size := h4
    omega
theorem x_enterL {p : Program} {s : State} {m : MethodId} {meth : Method} {c : Code} {b : Nat} {G : x_G} {H : Heap} {locs : List Loc} (C : x_Lc p s m meth c b Ln xs G) (hsz : H.size = G.2.2.1 + N) (hW : x_W G N σ H) (hS : va_S (x_A G) s.heap H locs) {U : State} (hU : U.heap = H) (hV : s.WarmedH U.vm) : U.heap.size = G.2.2.1 + N ∧ x_W G N σ U.heap ∧ x_K G U := by
  refine ⟨by rw [hU]; exact hsz, by rw [hU]; exact hW, va_K.moved hV.alike C.2.1.1, x_Z.warm hV (by rw [hU]; exact hS.1) (fun a h1 h2 => ?_) C.2.1.2⟩
  rw [hU]
  exact hS.2.1 a h1 h2
set_option maxHeartbeats 4000000 in
theorem L_callV {μ' : x_M} {o t n' n i : Nat} {q : vw_C} {vs : List Value} (hd : decode code pc = .ok (.invokevirtual i, 3)) (hl' : Cond.methodLink "NoonOnABarrowLaw" i μ'.1 ∈ x_tb) (hk : x_vok μ' n) (hs : x_sh o = (t, n')) (ho : o < N) (hc : vwCl[t]? = some q) (hC : μ'.1.cls = q.1) (hst : st' = vs.reverse ++ .ref o :: st) (hn : vs.length = n) (hcat : (st.map fun v => v.category).sum ≤ 8) (hN : N ≤ 600000) (hNs : x_sl N ≤ 7302250)
    (h : x_Mt 2000 μ' N (.ref o :: vs) σ (fun σ' v => x_Lj Ln xs N (pc + 3) L (v.toList ++ st) σ')) : x_Lj Ln xs N pc L st' σ := by
  intro p l e s m below meth c b G C H locs ls hW hS hl T hT Y
  have hsz := x_sizeL C Y hT hW hS
  obtain ⟨⟨ki, kc, kd, km⟩, kin, ksel, k0⟩ := hk
  have e1 : μ'.2.2.2.2.1 = 0 := by rw [k0]
  have e2 : μ'.2.2.2.2.2 = 0 := by rw [k0]
  have hrun := va_runV (H := H) (locs := locs) (cells := N) (slots := x_sl N) (R := room_1) (below := below) (meth := meth) (b := G.2.2.1 + o) (As := vs.map (x_ad G.2.2.1)) (rest := st.map (x_ad G.2.2.1)) (g := F0 m pc ls (st'.map (x_ad G.2.2.1))) (C := q.1) (index := i) (n := n) (nL := 4) (e := e) (own := "NoonOnABarrowLaw") ⟨C.1.1, C.1.2.1, C.1.2.2.2.1, C.1.2.2.2.2.1, x_lwd C⟩ (h l G)
    (cwV n (x_lwd C) (by
      intro w hw
      unfold wsV at hw
      rcases List.mem_append.mp hw with hw | hw
      · rw [← hC] at hw
        have hw' : w ∈ x_tb := by
          simp only [List.mem_cons, List.not_mem_nil, or_false] at hw
          rcases hw with rfl | rfl | rfl | rfl
          · exact hl'
          · exact kin
          · exact ksel
          · exact ki
        exact ⟨hw', good_of_word (List.mem_filter.mp hw').2⟩
      · exact x_goodT kc w hw) rfl rfl rfl ⟨hC, kd⟩ ⟨by show 2000 + 1 ≤ 2048; omega, by show 8 + (μ'.2.2.1 + 11) + 40 * 2000 ≤ 84000; omega⟩)
    ⟨x_blind, va_recv C.2.1.1 hW hc (by rw [x_ws_at ho, x_el_o hs (x_t13 hc)]), fun U hU hV => ⟨rfl, x_enterL C hsz hW hS hU hV⟩⟩
    rfl (by rw [List.length_map]; exact hn) hl.1 (by rw [hst]; simp [x_ad]) (lv_room (by rw [x_cats]; exact hcat)) hd ⟨by show N + _ ≤ 600000; omega, by show x_sl N + _ ≤ 7302250; omega⟩
  refine x_run hrun hS (fun v σ' H1 locs1 hK hW1 hS1 => ?_) T hT Y
  rw [e1] at hW1
  rw [e1, e2, x_toL]
  exact hK p l e s m below meth c b G C H1 locs1 ls hW1 hS1 hl
set_option maxHeartbeats 4000000 in
theorem L_callI {y : MethodName} {cc : ByteArray} {mL mc ms n i o : Nat} {vs : List Value} {μ' : x_M} (hμ : μ' = (y, cc, mL, none, mc, ms)) (hd : decode code pc = .ok (.invokespecial i, 3)) (hl' : Cond.methodLink "NoonOnABarrowLaw" i μ'.1 ∈ x_tb) (hk : x_cok μ' n) (kin : Cond.instanceMethod μ'.1 ∈ x_tb) (hnm : μ'.1.name = "<init>") (hst : st' = vs.reverse ++ .ref o :: st) (hn : vs.length = n) (hcat : (st.map fun v => v.category).sum ≤ 8) (hb : N + mc ≤ 600000) (hbs : x_sl N + ms ≤ 7302250) (hsl : x_sl (N + mc) = x_sl N + ms)
    (h : x_Mt 2000 μ' N (.ref o :: vs) σ (fun σ' v => x_Lj Ln xs (N + mc) (pc + 3) L (v.toList ++ st) σ')) : x_Lj Ln xs N pc L st' σ := by
  intro p l e s m below meth c b G C H locs ls hW hS hl T hT Y
  have hsz := x_sizeL C Y hT hW hS
  subst hμ
  obtain ⟨ki, kc, kd, km⟩ := hk
  have hrun := va_runI (H := H) (locs := locs) (cells := N) (slots := x_sl N) (R := room_1) (below := below) (meth := meth) (b := G.2.2.1 + o) (As := vs.map (x_ad G.2.2.1)) (rest := st.map (x_ad G.2.2.1)) (g := F0 m pc ls (st'.map (x_ad G.2.2.1))) (index := i) (n := n) (nL := 4) (e := e) (own := "NoonOnABarrowLaw") ⟨C.1.1, C.1.2.1, C.1.2.2.2.1, C.1.2.2.2.2.1, x_lwd C⟩ (h l G)
    (cwI n (x_lwd C) (x_goodT kc) rfl rfl rfl (x_lwd C _ ki) (x_lwd C _ hl') (x_lwd C _ kin) hnm kd ⟨by show 2000 + 1 ≤ 2048; omega, by have km : mL ≤ 21 := km; show 8 + (mL + 11) + 40 * 2000 ≤ 84000; omega⟩)
    ⟨x_blind, fun U hU hV => ⟨rfl, x_enterL C hsz hW hS hU hV⟩⟩
    rfl (by rw [List.length_map]; exact hn) hl.1 (by rw [hst]; simp [x_ad]) (lv_room (by rw [x_cats]; exact hcat)) hd ⟨by show N + mc ≤ 600000; omega, by show x_sl N + ms ≤ 7302250; omega⟩
  refine x_run hrun hS (fun v σ' H1 locs1 hK hW1 hS1 => ?_) T hT Y
  rw [x_toL]
  have k := hK p l e s m below meth c b G C H1 locs1 ls hW1 hS1 hl
  rw [hsl] at k
  exact k
set_option maxHeartbeats 4000000 in
theorem L_new {t n i : Nat} {C0 : String} {T : u_T} (hd : decode code pc = .ok (.new i, 3)) (hw : Cond.classLink "NoonOnABarrowLaw" i C0 ∈ x_tb) (hi : Cond.instantiable C0 n ∈ x_tb) (hii : Cond.initialized C0 ∈ x_tb) (hs : x_sh N = (t, n)) (hc : vwCl[t]? = some (C0, T, n)) (hb : N + 1 ≤ 600000) (hbs : x_sl N + n ≤ 7302250)
    (h : x_Lj Ln xs (N + 1) (pc + 3) L (.ref N :: st) (x_nw σ N)) : x_Lj Ln xs N pc L st σ := by
  intro p l e s m below meth c b G C H locs ls hW hS hl
  have hsl : x_sl (N + 1) = x_sl N + n := by show x_sl N + (x_sh N).2 = _; rw [hs]
  refine va_new (Ts := x_tb) (ci := t) (fs := (List.range n).map (fun k => x_ad G.2.2.1 (x_av (x_ty t k) (x_nw σ N) N k))) C.1.1 C.1.2.1 (x_lwd C) (x_inX hc) (x_ty t) (x_tyX hc) C.1.2.2.2.2.1 (x_lwd C _ hw) (x_lwd C _ hi) (x_lwd C _ hii) C.2.1.1 hW x_D hS (fun q hq => by show G.2.2.1 ≤ q; have := C.2.2; omega) hc ?_ (by show N + 1 ≤ 600000; omega) (by show x_sl N + n ≤ 7302250; omega) hd ?_
  · intro j hj
    show _ = vp_V _ j
    unfold vp_V
    rw [List.getD_eq_getElem?_getD, List.getElem?_map, List.getElem?_range hj]
    exact (x_dflt (x_tyok hc j hj)).symm
  · intro q H1 hP1 hD1 hS1 T0 hT0 Y
    have hq : q = G.2.2.1 + N := by
      have h1 : T0.heap.size ≤ s.heap.size + (N + 1) := Y.same.2.2.1
      have h2 : s.heap.size = G.2.2.1 := C.2.2
      rw [hT0, h2] at h1
      have hlen : (x_ws G N σ).length = N := by unfold x_ws; rw [List.length_map, List.length_range]
      have hq : (x_ws G N σ ++ [(q, .inr (t, (List.range n).map (fun k => x_ad G.2.2.1 (x_av (x_ty t k) (x_nw σ N) N k))))])[N]? = some (q, .inr (t, (List.range n).map (fun k => x_ad G.2.2.1 (x_av (x_ty t k) (x_nw σ N) N k)))) := by rw [List.getElem?_append_right (by omega), hlen, Nat.sub_self]; rfl
      have h3 : q < H1.size := (hP1 N _ hq).lt
      have h4 : G.2.2.1 ≤ q := hD1.2 N _ hq
      rcases Nat.lt_or_ge q (G.2.2.1 + N) with h5 | h5
      · exfalso
        have h6 : q - G.2.2.1 < N := by omega
        have h7 : (x_ws G N σ ++ [(q, .inr (t, (List.range n).map (fun k => x_ad G.2.2.1 (x_av (x_ty t k) (x_nw σ N) N k))))])[q - G.2.2.1]? = some (G.2.2.1 + (q - G.2.2.1), x_el G σ (q - G.2.2.1)) := by rw [List.getElem?_append_left (by omega)]; exact x_ws_at h6
        have h8 := hD1.1 _ _ _ _ h7 hq (by show G.2.2.1 + (q - G.2.2.1) = q; omega)
        omega
      · omega
    subst hq
    rw [x_ws_new (σ' := x_nw σ N) (by rw [x_el_o hs (x_t13 hc)]) (fun a ha => x_el_nw (by omega))] at hP1
    have k := h p l e s m below meth c b G C H1 locs ls hP1 hS1 hl
    rw [hsl] at k
    exact k T0 hT0 Y
theorem x_sl376 : x_sl 376 ≤ 7302250 := by decide +kernel
theorem L_callF {μ' : x_M} {o t n' n i : Nat} {q : vw_C} {vs : List Value} {τ : x_T} (hd : decode code pc = .ok (.invokevirtual i, 3)) (hl' : Cond.methodLink "NoonOnABarrowLaw" i μ'.1 ∈ x_tb) (hk : x_vok μ' n) (hs : x_sh o = (t, n')) (hc : vwCl[t]? = some q) (hC : μ'.1.cls = q.1) (hst : st' = vs.reverse ++ .ref o :: st) (hn : vs.length = n) (hcat : (st.map fun v => v.category).sum ≤ 8)
    (h : x_CI 2000 μ' (.ref o :: vs) τ (fun τ' v => x_Lj Ln xs 376 (pc + 3) L (.int v :: st) (x_fu τ'))) : x_Lj Ln xs 376 pc L st' (x_fu τ) :=
  L_callV hd hl' hk hs (x_sh_lt hs (by have := x_t13 hc; omega)) hc hC hst hn hcat (by omega) x_sl376 (x_Mt.mono h (fun σ v ⟨τ', e, u, e1, e2⟩ => by subst e; subst e1; exact e2))
end XL
end
section
theorem ll_545 : Cond.methodLink "NoonOnABarrowLaw" 13 yX11_house ∈ x_tb := x_tb_in (List.mem_of_getElem? (i := 545) (by decide +kernel)) (by decide +kernel)
theorem ll_564 : Cond.methodLink "NoonOnABarrowLaw" 18 yX11_lane ∈ x_tb := x_tb_in (List.mem_of_getElem? (i := 564) (by decide +kernel)) (by decide +kernel)
theorem ll_577 : Cond.methodLink "NoonOnABarrowLaw" 23 yX11_pusher ∈ x_tb := x_tb_in (List.mem_of_getElem? (i := 577) (by decide +kernel)) (by decide +kernel)
theorem ll_585 : Cond.methodLink "NoonOnABarrowLaw" 27 yX11_push ∈ x_tb := x_tb_in (List.mem_of_getElem? (i := 585) (by decide +kernel)) (by decide +kernel)
theorem ll_694 : Cond.methodLink "NoonOnABarrowLaw" 32 yX11_tip ∈ x_tb := x_tb_in (List.mem_of_getElem? (i := 694) (by decide +kernel)) (by decide +kernel)
theorem ll_707 : Cond.methodLink "NoonOnABarrowLaw" 37 yX11_mend ∈ x_tb := x_tb_in (List.mem_of_getElem? (i := 707) (by decide +kernel)) (by decide +kernel)
theorem ll_711 : Cond.methodLink "NoonOnABarrowLaw" 41 yX11_minute ∈ x_tb := x_tb_in (List.mem_of_getElem? (i := 711) (by decide +kernel)) (by decide +kernel)
theorem ll_760 : Cond.methodLink "NoonOnABarrowLaw" 45 yX11_years ∈ x_tb := x_tb_in (List.mem_of_getElem? (i := 760) (by decide +kernel)) (by decide +kernel)
theorem ll_780 : Cond.methodLink "NoonOnABarrowLaw" 49 yX11_feed ∈ x_tb := x_tb_in (List.mem_of_getElem? (i := 780) (by decide +kernel)) (by decide +kernel)
theorem ll_788 : Cond.methodLink "NoonOnABarrowLaw" 54 yX11_end ∈ x_tb := x_tb_in (List.mem_of_getElem? (i := 788) (by decide +kernel)) (by decide +kernel)
theorem ll_792 : Cond.methodLink "NoonOnABarrowLaw" 58 yX11_text ∈ x_tb := x_tb_in (List.mem_of_getElem? (i := 792) (by decide +kernel)) (by decide +kernel)
theorem ll_1043 : Cond.methodLink "NoonOnABarrowLaw" 63 yX11_fault ∈ x_tb := x_tb_in (List.mem_of_getElem? (i := 1043) (by decide +kernel)) (by decide +kernel)
theorem ll_1047 : Cond.methodLink "NoonOnABarrowLaw" 67 yX11_by ∈ x_tb := x_tb_in (List.mem_of_getElem? (i := 1047) (by decide +kernel)) (by decide +kernel)
theorem ll_1059 : Cond.methodLink "NoonOnABarrowLaw" 72 yX11_played ∈ x_tb := x_tb_in (List.mem_of_getElem? (i := 1059) (by decide +kernel)) (by decide +kernel)
theorem ll_1074 : Cond.methodLink "NoonOnABarrowLaw" 76 yX11_undo ∈ x_tb := x_tb_in (List.mem_of_getElem? (i := 1074) (by decide +kernel)) (by decide +kernel)
theorem ll_1082 : Cond.methodLink "NoonOnABarrowLaw" 80 yX11_of ∈ x_tb := x_tb_in (List.mem_of_getElem? (i := 1082) (by decide +kernel)) (by decide +kernel)
theorem ll_1091 : Cond.methodLink "NoonOnABarrowLaw" 84 yX11_two ∈ x_tb := x_tb_in (List.mem_of_getElem? (i := 1091) (by decide +kernel)) (by decide +kernel)
theorem ll_1101 : Cond.methodLink "NoonOnABarrowLaw" 89 yX11_barrow ∈ x_tb := x_tb_in (List.mem_of_getElem? (i := 1101) (by decide +kernel)) (by decide +kernel)
theorem ll_1106 : Cond.methodLink "NoonOnABarrowLaw" 93 yX11_hard ∈ x_tb := x_tb_in (List.mem_of_getElem? (i := 1106) (by decide +kernel)) (by decide +kernel)
theorem ll_1112 : Cond.methodLink "NoonOnABarrowLaw" 97 yX11_book ∈ x_tb := x_tb_in (List.mem_of_getElem? (i := 1112) (by decide +kernel)) (by decide +kernel)
theorem ll_1120 : Cond.methodLink "NoonOnABarrowLaw" 101 yX11_foretold ∈ x_tb := x_tb_in (List.mem_of_getElem? (i := 1120) (by decide +kernel)) (by decide +kernel)
theorem ll_1125 : Cond.methodLink "NoonOnABarrowLaw" 105 yX11_arrives ∈ x_tb := x_tb_in (List.mem_of_getElem? (i := 1125) (by decide +kernel)) (by decide +kernel)
theorem ll_1130 : Cond.methodLink "NoonOnABarrowLaw" 109 yX11_want ∈ x_tb := x_tb_in (List.mem_of_getElem? (i := 1130) (by decide +kernel)) (by decide +kernel)
theorem ll_1138 : Cond.methodLink "NoonOnABarrowLaw" 113 yX11_fitting ∈ x_tb := x_tb_in (List.mem_of_getElem? (i := 1138) (by decide +kernel)) (by decide +kernel)
theorem ll_1151 : Cond.methodLink "NoonOnABarrowLaw" 117 yX11_route ∈ x_tb := x_tb_in (List.mem_of_getElem? (i := 1151) (by decide +kernel)) (by decide +kernel)
theorem ll_1182 : Cond.methodLink "NoonOnABarrowLaw" 121 yX11_least ∈ x_tb := x_tb_in (List.mem_of_getElem? (i := 1182) (by decide +kernel)) (by decide +kernel)
theorem ll_1209 : Cond.methodLink "NoonOnABarrowLaw" 125 yX11_winner ∈ x_tb := x_tb_in (List.mem_of_getElem? (i := 1209) (by decide +kernel)) (by decide +kernel)
theorem ll_1226 : Cond.methodLink "NoonOnABarrowLaw" 129 yX11_agenda ∈ x_tb := x_tb_in (List.mem_of_getElem? (i := 1226) (by decide +kernel)) (by decide +kernel)
theorem ll_1240 : Cond.methodLink "NoonOnABarrowLaw" 133 yX11_weight ∈ x_tb := x_tb_in (List.mem_of_getElem? (i := 1240) (by decide +kernel)) (by decide +kernel)
theorem ll_1244 : Cond.methodLink "NoonOnABarrowLaw" 138 yX11_fair ∈ x_tb := x_tb_in (List.mem_of_getElem? (i := 1244) (by decide +kernel)) (by decide +kernel)
theorem ll_1260 : Cond.methodLink "NoonOnABarrowLaw" 142 yX11_feel ∈ x_tb := x_tb_in (List.mem_of_getElem? (i := 1260) (by decide +kernel)) (by decide +kernel)
theorem ll_1264 : Cond.methodLink "NoonOnABarrowLaw" 146 yX11_lost ∈ x_tb := x_tb_in (List.mem_of_getElem? (i := 1264) (by decide +kernel)) (by decide +kernel)
theorem ll_1277 : Cond.methodLink "NoonOnABarrowLaw" 150 yX11_yard ∈ x_tb := x_tb_in (List.mem_of_getElem? (i := 1277) (by decide +kernel)) (by decide +kernel)
theorem ll_1294 : Cond.methodLink "NoonOnABarrowLaw" 154 yX11_thieves ∈ x_tb := x_tb_in (List.mem_of_getElem? (i := 1294) (by decide +kernel)) (by decide +kernel)
theorem ll_1303 : Cond.methodLink "NoonOnABarrowLaw" 158 yX11_watch ∈ x_tb := x_tb_in (List.mem_of_getElem? (i := 1303) (by decide +kernel)) (by decide +kernel)
theorem ll_1325 : Cond.methodLink "NoonOnABarrowLaw" 162 yX11_image ∈ x_tb := x_tb_in (List.mem_of_getElem? (i := 1325) (by decide +kernel)) (by decide +kernel)
theorem ll_1343 : Cond.methodLink "NoonOnABarrowLaw" 166 yX11_back ∈ x_tb := x_tb_in (List.mem_of_getElem? (i := 1343) (by decide +kernel)) (by decide +kernel)
theorem ll_1347 : Cond.methodLink "NoonOnABarrowLaw" 170 yX11_about ∈ x_tb := x_tb_in (List.mem_of_getElem? (i := 1347) (by decide +kernel)) (by decide +kernel)
theorem ll_1504 : Cond.methodLink "NoonOnABarrowLaw" 17 yX12_house ∈ x_tb := x_tb_in (List.mem_of_getElem? (i := 1504) (by decide +kernel)) (by decide +kernel)
theorem ll_1511 : Cond.methodLink "NoonOnABarrowLaw" 22 yX12_lane ∈ x_tb := x_tb_in (List.mem_of_getElem? (i := 1511) (by decide +kernel)) (by decide +kernel)
theorem ll_1519 : Cond.methodLink "NoonOnABarrowLaw" 26 yX12_pusher ∈ x_tb := x_tb_in (List.mem_of_getElem? (i := 1519) (by decide +kernel)) (by decide +kernel)
theorem ll_1523 : Cond.methodLink "NoonOnABarrowLaw" 79 yX12_undo ∈ x_tb := x_tb_in (List.mem_of_getElem? (i := 1523) (by decide +kernel)) (by decide +kernel)
theorem ll_1527 : Cond.methodLink "NoonOnABarrowLaw" 53 yX12_feed ∈ x_tb := x_tb_in (List.mem_of_getElem? (i := 1527) (by decide +kernel)) (by decide +kernel)
theorem ll_1535 : Cond.methodLink "NoonOnABarrowLaw" 57 yX12_end ∈ x_tb := x_tb_in (List.mem_of_getElem? (i := 1535) (by decide +kernel)) (by decide +kernel)
theorem ll_1539 : Cond.methodLink "NoonOnABarrowLaw" 62 yX12_text ∈ x_tb := x_tb_in (List.mem_of_getElem? (i := 1539) (by decide +kernel)) (by decide +kernel)
theorem ll_1692 : Cond.methodLink "NoonOnABarrowLaw" 66 yX12_fault ∈ x_tb := x_tb_in (List.mem_of_getElem? (i := 1692) (by decide +kernel)) (by decide +kernel)
theorem ll_1696 : Cond.methodLink "NoonOnABarrowLaw" 71 yX12_by ∈ x_tb := x_tb_in (List.mem_of_getElem? (i := 1696) (by decide +kernel)) (by decide +kernel)
theorem ll_1700 : Cond.methodLink "NoonOnABarrowLaw" 31 yX12_push ∈ x_tb := x_tb_in (List.mem_of_getElem? (i := 1700) (by decide +kernel)) (by decide +kernel)
theorem ll_1761 : Cond.methodLink "NoonOnABarrowLaw" 36 yX12_tip ∈ x_tb := x_tb_in (List.mem_of_getElem? (i := 1761) (by decide +kernel)) (by decide +kernel)
theorem ll_1773 : Cond.methodLink "NoonOnABarrowLaw" 40 yX12_mend ∈ x_tb := x_tb_in (List.mem_of_getElem? (i := 1773) (by decide +kernel)) (by decide +kernel)
theorem ll_1777 : Cond.methodLink "NoonOnABarrowLaw" 44 yX12_minute ∈ x_tb := x_tb_in (List.mem_of_getElem? (i := 1777) (by decide +kernel)) (by decide +kernel)
theorem ll_1811 : Cond.methodLink "NoonOnABarrowLaw" 48 yX12_years ∈ x_tb := x_tb_in (List.mem_of_getElem? (i := 1811) (by decide +kernel)) (by decide +kernel)
theorem ll_1827 : Cond.methodLink "NoonOnABarrowLaw" 75 yX12_played ∈ x_tb := x_tb_in (List.mem_of_getElem? (i := 1827) (by decide +kernel)) (by decide +kernel)
theorem ll_1842 : Cond.methodLink "NoonOnABarrowLaw" 83 yX12_of ∈ x_tb := x_tb_in (List.mem_of_getElem? (i := 1842) (by decide +kernel)) (by decide +kernel)
theorem ll_1846 : Cond.methodLink "NoonOnABarrowLaw" 88 yX12_two ∈ x_tb := x_tb_in (List.mem_of_getElem? (i := 1846) (by decide +kernel)) (by decide +kernel)
theorem ll_1854 : Cond.methodLink "NoonOnABarrowLaw" 92 yX12_barrow ∈ x_tb := x_tb_in (List.mem_of_getElem? (i := 1854) (by decide +kernel)) (by decide +kernel)
theorem ll_1858 : Cond.methodLink "NoonOnABarrowLaw" 96 yX12_hard ∈ x_tb := x_tb_in (List.mem_of_getElem? (i := 1858) (by decide +kernel)) (by decide +kernel)
theorem ll_1862 : Cond.methodLink "NoonOnABarrowLaw" 100 yX12_book ∈ x_tb := x_tb_in (List.mem_of_getElem? (i := 1862) (by decide +kernel)) (by decide +kernel)
theorem ll_1866 : Cond.methodLink "NoonOnABarrowLaw" 104 yX12_foretold ∈ x_tb := x_tb_in (List.mem_of_getElem? (i := 1866) (by decide +kernel)) (by decide +kernel)
theorem ll_1870 : Cond.methodLink "NoonOnABarrowLaw" 108 yX12_arrives ∈ x_tb := x_tb_in (List.mem_of_getElem? (i := 1870) (by decide +kernel)) (by decide +kernel)
theorem ll_1874 : Cond.methodLink "NoonOnABarrowLaw" 112 yX12_want ∈ x_tb := x_tb_in (List.mem_of_getElem? (i := 1874) (by decide +kernel)) (by decide +kernel)
theorem ll_1878 : Cond.methodLink "NoonOnABarrowLaw" 116 yX12_fitting ∈ x_tb := x_tb_in (List.mem_of_getElem? (i := 1878) (by decide +kernel)) (by decide +kernel)
theorem ll_1886 : Cond.methodLink "NoonOnABarrowLaw" 120 yX12_route ∈ x_tb := x_tb_in (List.mem_of_getElem? (i := 1886) (by decide +kernel)) (by decide +kernel)
theorem ll_1898 : Cond.methodLink "NoonOnABarrowLaw" 124 yX12_least ∈ x_tb := x_tb_in (List.mem_of_getElem? (i := 1898) (by decide +kernel)) (by decide +kernel)
theorem ll_1907 : Cond.methodLink "NoonOnABarrowLaw" 128 yX12_winner ∈ x_tb := x_tb_in (List.mem_of_getElem? (i := 1907) (by decide +kernel)) (by decide +kernel)
theorem ll_1915 : Cond.methodLink "NoonOnABarrowLaw" 132 yX12_agenda ∈ x_tb := x_tb_in (List.mem_of_getElem? (i := 1915) (by decide +kernel)) (by decide +kernel)
theorem ll_1922 : Cond.methodLink "NoonOnABarrowLaw" 137 yX12_weight ∈ x_tb := x_tb_in (List.mem_of_getElem? (i := 1922) (by decide +kernel)) (by decide +kernel)
theorem ll_1926 : Cond.methodLink "NoonOnABarrowLaw" 141 yX12_fair ∈ x_tb := x_tb_in (List.mem_of_getElem? (i := 1926) (by decide +kernel)) (by decide +kernel)
theorem ll_1934 : Cond.methodLink "NoonOnABarrowLaw" 145 yX12_feel ∈ x_tb := x_tb_in (List.mem_of_getElem? (i := 1934) (by decide +kernel)) (by decide +kernel)
theorem ll_1938 : Cond.methodLink "NoonOnABarrowLaw" 149 yX12_lost ∈ x_tb := x_tb_in (List.mem_of_getElem? (i := 1938) (by decide +kernel)) (by decide +kernel)
theorem ll_1942 : Cond.methodLink "NoonOnABarrowLaw" 153 yX12_yard ∈ x_tb := x_tb_in (List.mem_of_getElem? (i := 1942) (by decide +kernel)) (by decide +kernel)
theorem ll_1951 : Cond.methodLink "NoonOnABarrowLaw" 157 yX12_thieves ∈ x_tb := x_tb_in (List.mem_of_getElem? (i := 1951) (by decide +kernel)) (by decide +kernel)
theorem ll_1955 : Cond.methodLink "NoonOnABarrowLaw" 161 yX12_watch ∈ x_tb := x_tb_in (List.mem_of_getElem? (i := 1955) (by decide +kernel)) (by decide +kernel)
theorem ll_1966 : Cond.methodLink "NoonOnABarrowLaw" 165 yX12_image ∈ x_tb := x_tb_in (List.mem_of_getElem? (i := 1966) (by decide +kernel)) (by decide +kernel)
theorem ll_1970 : Cond.methodLink "NoonOnABarrowLaw" 169 yX12_back ∈ x_tb := x_tb_in (List.mem_of_getElem? (i := 1970) (by decide +kernel)) (by decide +kernel)
theorem ll_1974 : Cond.methodLink "NoonOnABarrowLaw" 173 yX12_about ∈ x_tb := x_tb_in (List.mem_of_getElem? (i := 1974) (by decide +kernel)) (by decide +kernel)
set_option maxRecDepth 20000 in
theorem L_case_0 {Ln : Nat} {xs : Nat → Int32} {i : Int32} {τ : x_T} (h1 : vp_in (i + 1) Ln) (h : x_CI 2000 mX11_house [.ref 0, .int (xs (i + 1).toNatClampNeg)] τ (fun τ1 u => x_CI 2000 mX12_house [.ref 345, .int (xs (i + 1).toNatClampNeg)] τ1 (fun τ2 v => u = v ∧ x_Lj Ln xs 376 1184 [(1, .ref 0), (2, .ref 345), (3, .int i)] [] (x_fu τ2)))) : x_Lj Ln xs 376 200 [(1, .ref 0), (2, .ref 345), (3, .int i)] [] (x_fu τ) := by
  refine L_aload (k := 1) 0 (by decide +kernel) rfl ?_
  refine L_arg (i := i) (n := 1) (v := 1) 2 (by decide +kernel) (by decide +kernel) (by decide +kernel) (by decide +kernel) (by decide +kernel) rfl (by decide) h1 ?_
  refine L_callF (μ' := mX11_house) (i := 13) (vs := [.int (xs (i + 1).toNatClampNeg)]) (by decide +kernel) ll_545 vok_mX11_house sh_0 rfl rfl rfl rfl (Nat.le_of_ble_eq_true rfl) ?_
  refine x_CI.mono h (fun τ1 u h => ?_)
  refine L_aload (k := 2) 1 (by decide +kernel) rfl ?_
  refine L_arg (i := i) (n := 1) (v := 1) 2 (by decide +kernel) (by decide +kernel) (by decide +kernel) (by decide +kernel) (by decide +kernel) rfl (by decide) h1 ?_
  refine L_callF (μ' := mX12_house) (i := 17) (vs := [.int (xs (i + 1).toNatClampNeg)]) (by decide +kernel) ll_1504 vok_mX12_house sh_345 rfl rfl rfl rfl (Nat.le_of_ble_eq_true rfl) ?_
  refine x_CI.mono h (fun τ2 v h => ?_)
  exact L_eq (off := 966) 1184 (by decide +kernel) (by decide) h.1 h.2
set_option maxRecDepth 20000 in
theorem L_case_1 {Ln : Nat} {xs : Nat → Int32} {i : Int32} {τ : x_T} (h1 : vp_in (i + 1) Ln) (h2 : vp_in (i + 2) Ln) (h3 : vp_in (i + 3) Ln) (h : x_CI 2000 mX11_lane [.ref 0, .int (xs (i + 1).toNatClampNeg), .int (xs (i + 2).toNatClampNeg), .int (xs (i + 3).toNatClampNeg)] τ (fun τ1 u => x_CI 2000 mX12_lane [.ref 345, .int (xs (i + 1).toNatClampNeg), .int (xs (i + 2).toNatClampNeg), .int (xs (i + 3).toNatClampNeg)] τ1 (fun τ2 v => u = v ∧ x_Lj Ln xs 376 1184 [(1, .ref 0), (2, .ref 345), (3, .int i)] [] (x_fu τ2)))) : x_Lj Ln xs 376 223 [(1, .ref 0), (2, .ref 345), (3, .int i)] [] (x_fu τ) := by
  refine L_aload (k := 1) 0 (by decide +kernel) rfl ?_
  refine L_arg (i := i) (n := 1) (v := 1) 2 (by decide +kernel) (by decide +kernel) (by decide +kernel) (by decide +kernel) (by decide +kernel) rfl (by decide) h1 ?_
  refine L_arg (i := i) (n := 2) (v := 2) 2 (by decide +kernel) (by decide +kernel) (by decide +kernel) (by decide +kernel) (by decide +kernel) rfl (by decide) h2 ?_
  refine L_arg (i := i) (n := 3) (v := 3) 2 (by decide +kernel) (by decide +kernel) (by decide +kernel) (by decide +kernel) (by decide +kernel) rfl (by decide) h3 ?_
  refine L_callF (μ' := mX11_lane) (i := 18) (vs := [.int (xs (i + 1).toNatClampNeg), .int (xs (i + 2).toNatClampNeg), .int (xs (i + 3).toNatClampNeg)]) (by decide +kernel) ll_564 vok_mX11_lane sh_0 rfl rfl rfl rfl (Nat.le_of_ble_eq_true rfl) ?_
  refine x_CI.mono h (fun τ1 u h => ?_)
  refine L_aload (k := 2) 1 (by decide +kernel) rfl ?_
  refine L_arg (i := i) (n := 1) (v := 1) 2 (by decide +kernel) (by decide +kernel) (by decide +kernel) (by decide +kernel) (by decide +kernel) rfl (by decide) h1 ?_
  refine L_arg (i := i) (n := 2) (v := 2) 2 (by decide +kernel) (by decide +kernel) (by decide +kernel) (by decide +kernel) (by decide +kernel) rfl (by decide) h2 ?_
  refine L_arg (i := i) (n := 3) (v := 3) 2 (by decide +kernel) (by decide +kernel) (by decide +kernel) (by decide +kernel) (by decide +kernel) rfl (by decide) h3 ?_
  refine L_callF (μ' := mX12_lane) (i := 22) (vs := [.int (xs (i + 1).toNatClampNeg), .int (xs (i + 2).toNatClampNeg), .int (xs (i + 3).toNatClampNeg)]) (by decide +kernel) ll_1511 vok_mX12_lane sh_345 rfl rfl rfl rfl (Nat.le_of_ble_eq_true rfl) ?_
  refine x_CI.mono h (fun τ2 v h => ?_)
  exact L_eq (off := 923) 1184 (by decide +kernel) (by decide) h.1 h.2
set_option maxRecDepth 20000 in
theorem L_case_2 {Ln : Nat} {xs : Nat → Int32} {i : Int32} {τ : x_T} (h1 : vp_in (i + 1) Ln) (h : x_CI 2000 mX11_pusher [.ref 0, .int (xs (i + 1).toNatClampNeg)] τ (fun τ1 u => x_CI 2000 mX12_pusher [.ref 345, .int (xs (i + 1).toNatClampNeg)] τ1 (fun τ2 v => u = v ∧ x_Lj Ln xs 376 1184 [(1, .ref 0), (2, .ref 345), (3, .int i)] [] (x_fu τ2)))) : x_Lj Ln xs 376 266 [(1, .ref 0), (2, .ref 345), (3, .int i)] [] (x_fu τ) := by
  refine L_aload (k := 1) 0 (by decide +kernel) rfl ?_
  refine L_arg (i := i) (n := 1) (v := 1) 2 (by decide +kernel) (by decide +kernel) (by decide +kernel) (by decide +kernel) (by decide +kernel) rfl (by decide) h1 ?_
  refine L_callF (μ' := mX11_pusher) (i := 23) (vs := [.int (xs (i + 1).toNatClampNeg)]) (by decide +kernel) ll_577 vok_mX11_pusher sh_0 rfl rfl rfl rfl (Nat.le_of_ble_eq_true rfl) ?_
  refine x_CI.mono h (fun τ1 u h => ?_)
  refine L_aload (k := 2) 1 (by decide +kernel) rfl ?_
  refine L_arg (i := i) (n := 1) (v := 1) 2 (by decide +kernel) (by decide +kernel) (by decide +kernel) (by decide +kernel) (by decide +kernel) rfl (by decide) h1 ?_
  refine L_callF (μ' := mX12_pusher) (i := 26) (vs := [.int (xs (i + 1).toNatClampNeg)]) (by decide +kernel) ll_1519 vok_mX12_pusher sh_345 rfl rfl rfl rfl (Nat.le_of_ble_eq_true rfl) ?_
  refine x_CI.mono h (fun τ2 v h => ?_)
  exact L_eq (off := 900) 1184 (by decide +kernel) (by decide) h.1 h.2
set_option maxRecDepth 20000 in
theorem L_case_3 {Ln : Nat} {xs : Nat → Int32} {i : Int32} {τ : x_T} (h1 : vp_in (i + 1) Ln) (h2 : vp_in (i + 2) Ln) (h : x_CI 2000 mX11_push [.ref 0, .int (xs (i + 1).toNatClampNeg), .int (xs (i + 2).toNatClampNeg)] τ (fun τ1 u => x_CI 2000 mX12_push [.ref 345, .int (xs (i + 1).toNatClampNeg), .int (xs (i + 2).toNatClampNeg)] τ1 (fun τ2 v => u = v ∧ x_Lj Ln xs 376 1184 [(1, .ref 0), (2, .ref 345), (3, .int i)] [] (x_fu τ2)))) : x_Lj Ln xs 376 289 [(1, .ref 0), (2, .ref 345), (3, .int i)] [] (x_fu τ) := by
  refine L_aload (k := 1) 0 (by decide +kernel) rfl ?_
  refine L_arg (i := i) (n := 1) (v := 1) 2 (by decide +kernel) (by decide +kernel) (by decide +kernel) (by decide +kernel) (by decide +kernel) rfl (by decide) h1 ?_
  refine L_arg (i := i) (n := 2) (v := 2) 2 (by decide +kernel) (by decide +kernel) (by decide +kernel) (by decide +kernel) (by decide +kernel) rfl (by decide) h2 ?_
  refine L_callF (μ' := mX11_push) (i := 27) (vs := [.int (xs (i + 1).toNatClampNeg), .int (xs (i + 2).toNatClampNeg)]) (by decide +kernel) ll_585 vok_mX11_push sh_0 rfl rfl rfl rfl (Nat.le_of_ble_eq_true rfl) ?_
  refine x_CI.mono h (fun τ1 u h => ?_)
  refine L_aload (k := 2) 1 (by decide +kernel) rfl ?_
  refine L_arg (i := i) (n := 1) (v := 1) 2 (by decide +kernel) (by decide +kernel) (by decide +kernel) (by decide +kernel) (by decide +kernel) rfl (by decide) h1 ?_
  refine L_arg (i := i) (n := 2) (v := 2) 2 (by decide +kernel) (by decide +kernel) (by decide +kernel) (by decide +kernel) (by decide +kernel) rfl (by decide) h2 ?_
  refine L_callF (μ' := mX12_push) (i := 31) (vs := [.int (xs (i + 1).toNatClampNeg), .int (xs (i + 2).toNatClampNeg)]) (by decide +kernel) ll_1700 vok_mX12_push sh_345 rfl rfl rfl rfl (Nat.le_of_ble_eq_true rfl) ?_
  refine x_CI.mono h (fun τ2 v h => ?_)
  exact L_eq (off := 867) 1184 (by decide +kernel) (by decide) h.1 h.2
set_option maxRecDepth 20000 in
theorem L_case_4 {Ln : Nat} {xs : Nat → Int32} {i : Int32} {τ : x_T} (h : x_CI 2000 mX11_tip [.ref 0] τ (fun τ1 u => x_CI 2000 mX12_tip [.ref 345] τ1 (fun τ2 v => u = v ∧ x_Lj Ln xs 376 1184 [(1, .ref 0), (2, .ref 345), (3, .int i)] [] (x_fu τ2)))) : x_Lj Ln xs 376 322 [(1, .ref 0), (2, .ref 345), (3, .int i)] [] (x_fu τ) := by
  refine L_aload (k := 1) 0 (by decide +kernel) rfl ?_
  refine L_callF (μ' := mX11_tip) (i := 32) (vs := []) (by decide +kernel) ll_694 vok_mX11_tip sh_0 rfl rfl rfl rfl (Nat.le_of_ble_eq_true rfl) ?_
  refine x_CI.mono h (fun τ1 u h => ?_)
  refine L_aload (k := 2) 1 (by decide +kernel) rfl ?_
  refine L_callF (μ' := mX12_tip) (i := 36) (vs := []) (by decide +kernel) ll_1761 vok_mX12_tip sh_345 rfl rfl rfl rfl (Nat.le_of_ble_eq_true rfl) ?_
  refine x_CI.mono h (fun τ2 v h => ?_)
  exact L_eq (off := 854) 1184 (by decide +kernel) (by decide) h.1 h.2
set_option maxRecDepth 20000 in
theorem L_case_5 {Ln : Nat} {xs : Nat → Int32} {i : Int32} {τ : x_T} (h : x_CI 2000 mX11_mend [.ref 0] τ (fun τ1 u => x_CI 2000 mX12_mend [.ref 345] τ1 (fun τ2 v => u = v ∧ x_Lj Ln xs 376 1184 [(1, .ref 0), (2, .ref 345), (3, .int i)] [] (x_fu τ2)))) : x_Lj Ln xs 376 335 [(1, .ref 0), (2, .ref 345), (3, .int i)] [] (x_fu τ) := by
  refine L_aload (k := 1) 0 (by decide +kernel) rfl ?_
  refine L_callF (μ' := mX11_mend) (i := 37) (vs := []) (by decide +kernel) ll_707 vok_mX11_mend sh_0 rfl rfl rfl rfl (Nat.le_of_ble_eq_true rfl) ?_
  refine x_CI.mono h (fun τ1 u h => ?_)
  refine L_aload (k := 2) 1 (by decide +kernel) rfl ?_
  refine L_callF (μ' := mX12_mend) (i := 40) (vs := []) (by decide +kernel) ll_1773 vok_mX12_mend sh_345 rfl rfl rfl rfl (Nat.le_of_ble_eq_true rfl) ?_
  refine x_CI.mono h (fun τ2 v h => ?_)
  exact L_eq (off := 841) 1184 (by decide +kernel) (by decide) h.1 h.2
set_option maxRecDepth 20000 in
theorem L_case_6 {Ln : Nat} {xs : Nat → Int32} {i : Int32} {τ : x_T} (h1 : vp_in (i + 1) Ln) (h : x_CI 2000 mX11_minute [.ref 0, .int (xs (i + 1).toNatClampNeg)] τ (fun τ1 u => x_CI 2000 mX12_minute [.ref 345, .int (xs (i + 1).toNatClampNeg)] τ1 (fun τ2 v => u = v ∧ x_Lj Ln xs 376 1184 [(1, .ref 0), (2, .ref 345), (3, .int i)] [] (x_fu τ2)))) : x_Lj Ln xs 376 348 [(1, .ref 0), (2, .ref 345), (3, .int i)] [] (x_fu τ) := by
  refine L_aload (k := 1) 0 (by decide +kernel) rfl ?_
  refine L_arg (i := i) (n := 1) (v := 1) 2 (by decide +kernel) (by decide +kernel) (by decide +kernel) (by decide +kernel) (by decide +kernel) rfl (by decide) h1 ?_
  refine L_callF (μ' := mX11_minute) (i := 41) (vs := [.int (xs (i + 1).toNatClampNeg)]) (by decide +kernel) ll_711 vok_mX11_minute sh_0 rfl rfl rfl rfl (Nat.le_of_ble_eq_true rfl) ?_
  refine x_CI.mono h (fun τ1 u h => ?_)
  refine L_aload (k := 2) 1 (by decide +kernel) rfl ?_
  refine L_arg (i := i) (n := 1) (v := 1) 2 (by decide +kernel) (by decide +kernel) (by decide +kernel) (by decide +kernel) (by decide +kernel) rfl (by decide) h1 ?_
  refine L_callF (μ' := mX12_minute) (i := 44) (vs := [.int (xs (i + 1).toNatClampNeg)]) (by decide +kernel) ll_1777 vok_mX12_minute sh_345 rfl rfl rfl rfl (Nat.le_of_ble_eq_true rfl) ?_
  refine x_CI.mono h (fun τ2 v h => ?_)
  exact L_eq (off := 818) 1184 (by decide +kernel) (by decide) h.1 h.2
set_option maxRecDepth 20000 in
theorem L_case_7 {Ln : Nat} {xs : Nat → Int32} {i : Int32} {τ : x_T} (h1 : vp_in (i + 1) Ln) (h2 : vp_in (i + 2) Ln) (h : x_CI 2000 mX11_years [.ref 0, .int (xs (i + 1).toNatClampNeg), .int (xs (i + 2).toNatClampNeg)] τ (fun τ1 u => x_CI 2000 mX12_years [.ref 345, .int (xs (i + 1).toNatClampNeg), .int (xs (i + 2).toNatClampNeg)] τ1 (fun τ2 v => u = v ∧ x_Lj Ln xs 376 1184 [(1, .ref 0), (2, .ref 345), (3, .int i)] [] (x_fu τ2)))) : x_Lj Ln xs 376 371 [(1, .ref 0), (2, .ref 345), (3, .int i)] [] (x_fu τ) := by
  refine L_aload (k := 1) 0 (by decide +kernel) rfl ?_
  refine L_arg (i := i) (n := 1) (v := 1) 2 (by decide +kernel) (by decide +kernel) (by decide +kernel) (by decide +kernel) (by decide +kernel) rfl (by decide) h1 ?_
  refine L_arg (i := i) (n := 2) (v := 2) 2 (by decide +kernel) (by decide +kernel) (by decide +kernel) (by decide +kernel) (by decide +kernel) rfl (by decide) h2 ?_
  refine L_callF (μ' := mX11_years) (i := 45) (vs := [.int (xs (i + 1).toNatClampNeg), .int (xs (i + 2).toNatClampNeg)]) (by decide +kernel) ll_760 vok_mX11_years sh_0 rfl rfl rfl rfl (Nat.le_of_ble_eq_true rfl) ?_
  refine x_CI.mono h (fun τ1 u h => ?_)
  refine L_aload (k := 2) 1 (by decide +kernel) rfl ?_
  refine L_arg (i := i) (n := 1) (v := 1) 2 (by decide +kernel) (by decide +kernel) (by decide +kernel) (by decide +kernel) (by decide +kernel) rfl (by decide) h1 ?_
  refine L_arg (i := i) (n := 2) (v := 2) 2 (by decide +kernel) (by decide +kernel) (by decide +kernel) (by decide +kernel) (by decide +kernel) rfl (by decide) h2 ?_
  refine L_callF (μ' := mX12_years) (i := 48) (vs := [.int (xs (i + 1).toNatClampNeg), .int (xs (i + 2).toNatClampNeg)]) (by decide +kernel) ll_1811 vok_mX12_years sh_345 rfl rfl rfl rfl (Nat.le_of_ble_eq_true rfl) ?_
  refine x_CI.mono h (fun τ2 v h => ?_)
  exact L_eq (off := 785) 1184 (by decide +kernel) (by decide) h.1 h.2
set_option maxRecDepth 20000 in
theorem L_case_8 {Ln : Nat} {xs : Nat → Int32} {i : Int32} {τ : x_T} (h1 : vp_in (i + 1) Ln) (h2 : vp_in (i + 2) Ln) (h3 : vp_in (i + 3) Ln) (h4 : vp_in (i + 4) Ln) (h5 : vp_in (i + 5) Ln) (h : x_CI 2000 mX11_feed [.ref 0, .int (xs (i + 1).toNatClampNeg), .int (xs (i + 2).toNatClampNeg), .int (xs (i + 3).toNatClampNeg), .int (xs (i + 4).toNatClampNeg), .int (xs (i + 5).toNatClampNeg)] τ (fun τ1 u => x_CI 2000 mX12_feed [.ref 345, .int (xs (i + 1).toNatClampNeg), .int (xs (i + 2).toNatClampNeg), .int (xs (i + 3).toNatClampNeg), .int (xs (i + 4).toNatClampNeg), .int (xs (i + 5).toNatClampNeg)] τ1 (fun τ2 v => u = v ∧ x_Lj Ln xs 376 1184 [(1, .ref 0), (2, .ref 345), (3, .int i)] [] (x_fu τ2)))) : x_Lj Ln xs 376 404 [(1, .ref 0), (2, .ref 345), (3, .int i)] [] (x_fu τ) := by
  refine L_aload (k := 1) 0 (by decide +kernel) rfl ?_
  refine L_arg (i := i) (n := 1) (v := 1) 2 (by decide +kernel) (by decide +kernel) (by decide +kernel) (by decide +kernel) (by decide +kernel) rfl (by decide) h1 ?_
  refine L_arg (i := i) (n := 2) (v := 2) 2 (by decide +kernel) (by decide +kernel) (by decide +kernel) (by decide +kernel) (by decide +kernel) rfl (by decide) h2 ?_
  refine L_arg (i := i) (n := 3) (v := 3) 2 (by decide +kernel) (by decide +kernel) (by decide +kernel) (by decide +kernel) (by decide +kernel) rfl (by decide) h3 ?_
  refine L_arg (i := i) (n := 4) (v := 4) 2 (by decide +kernel) (by decide +kernel) (by decide +kernel) (by decide +kernel) (by decide +kernel) rfl (by decide) h4 ?_
  refine L_arg (i := i) (n := 5) (v := 5) 2 (by decide +kernel) (by decide +kernel) (by decide +kernel) (by decide +kernel) (by decide +kernel) rfl (by decide) h5 ?_
  refine L_callF (μ' := mX11_feed) (i := 49) (vs := [.int (xs (i + 1).toNatClampNeg), .int (xs (i + 2).toNatClampNeg), .int (xs (i + 3).toNatClampNeg), .int (xs (i + 4).toNatClampNeg), .int (xs (i + 5).toNatClampNeg)]) (by decide +kernel) ll_780 vok_mX11_feed sh_0 rfl rfl rfl rfl (Nat.le_of_ble_eq_true rfl) ?_
  refine x_CI.mono h (fun τ1 u h => ?_)
  refine L_aload (k := 2) 1 (by decide +kernel) rfl ?_
  refine L_arg (i := i) (n := 1) (v := 1) 2 (by decide +kernel) (by decide +kernel) (by decide +kernel) (by decide +kernel) (by decide +kernel) rfl (by decide) h1 ?_
  refine L_arg (i := i) (n := 2) (v := 2) 2 (by decide +kernel) (by decide +kernel) (by decide +kernel) (by decide +kernel) (by decide +kernel) rfl (by decide) h2 ?_
  refine L_arg (i := i) (n := 3) (v := 3) 2 (by decide +kernel) (by decide +kernel) (by decide +kernel) (by decide +kernel) (by decide +kernel) rfl (by decide) h3 ?_
  refine L_arg (i := i) (n := 4) (v := 4) 2 (by decide +kernel) (by decide +kernel) (by decide +kernel) (by decide +kernel) (by decide +kernel) rfl (by decide) h4 ?_
  refine L_arg (i := i) (n := 5) (v := 5) 2 (by decide +kernel) (by decide +kernel) (by decide +kernel) (by decide +kernel) (by decide +kernel) rfl (by decide) h5 ?_
  refine L_callF (μ' := mX12_feed) (i := 53) (vs := [.int (xs (i + 1).toNatClampNeg), .int (xs (i + 2).toNatClampNeg), .int (xs (i + 3).toNatClampNeg), .int (xs (i + 4).toNatClampNeg), .int (xs (i + 5).toNatClampNeg)]) (by decide +kernel) ll_1527 vok_mX12_feed sh_345 rfl rfl rfl rfl (Nat.le_of_ble_eq_true rfl) ?_
  refine x_CI.mono h (fun τ2 v h => ?_)
  exact L_eq (off := 722) 1184 (by decide +kernel) (by decide) h.1 h.2
set_option maxRecDepth 20000 in
theorem L_case_9 {Ln : Nat} {xs : Nat → Int32} {i : Int32} {τ : x_T} (h1 : vp_in (i + 1) Ln) (h : x_CI 2000 mX11_end [.ref 0, .int (xs (i + 1).toNatClampNeg)] τ (fun τ1 u => x_CI 2000 mX12_end [.ref 345, .int (xs (i + 1).toNatClampNeg)] τ1 (fun τ2 v => u = v ∧ x_Lj Ln xs 376 1184 [(1, .ref 0), (2, .ref 345), (3, .int i)] [] (x_fu τ2)))) : x_Lj Ln xs 376 467 [(1, .ref 0), (2, .ref 345), (3, .int i)] [] (x_fu τ) := by
  refine L_aload (k := 1) 0 (by decide +kernel) rfl ?_
  refine L_arg (i := i) (n := 1) (v := 1) 2 (by decide +kernel) (by decide +kernel) (by decide +kernel) (by decide +kernel) (by decide +kernel) rfl (by decide) h1 ?_
  refine L_callF (μ' := mX11_end) (i := 54) (vs := [.int (xs (i + 1).toNatClampNeg)]) (by decide +kernel) ll_788 vok_mX11_end sh_0 rfl rfl rfl rfl (Nat.le_of_ble_eq_true rfl) ?_
  refine x_CI.mono h (fun τ1 u h => ?_)
  refine L_aload (k := 2) 1 (by decide +kernel) rfl ?_
  refine L_arg (i := i) (n := 1) (v := 1) 2 (by decide +kernel) (by decide +kernel) (by decide +kernel) (by decide +kernel) (by decide +kernel) rfl (by decide) h1 ?_
  refine L_callF (μ' := mX12_end) (i := 57) (vs := [.int (xs (i + 1).toNatClampNeg)]) (by decide +kernel) ll_1535 vok_mX12_end sh_345 rfl rfl rfl rfl (Nat.le_of_ble_eq_true rfl) ?_
  refine x_CI.mono h (fun τ2 v h => ?_)
  exact L_eq (off := 699) 1184 (by decide +kernel) (by decide) h.1 h.2
set_option maxRecDepth 20000 in
theorem L_case_10 {Ln : Nat} {xs : Nat → Int32} {i : Int32} {τ : x_T} (h : x_CI 2000 mX11_text [.ref 0] τ (fun τ1 u => x_CI 2000 mX12_text [.ref 345] τ1 (fun τ2 v => u = v ∧ x_Lj Ln xs 376 1184 [(1, .ref 0), (2, .ref 345), (3, .int i)] [] (x_fu τ2)))) : x_Lj Ln xs 376 490 [(1, .ref 0), (2, .ref 345), (3, .int i)] [] (x_fu τ) := by
  refine L_aload (k := 1) 0 (by decide +kernel) rfl ?_
  refine L_callF (μ' := mX11_text) (i := 58) (vs := []) (by decide +kernel) ll_792 vok_mX11_text sh_0 rfl rfl rfl rfl (Nat.le_of_ble_eq_true rfl) ?_
  refine x_CI.mono h (fun τ1 u h => ?_)
  refine L_aload (k := 2) 1 (by decide +kernel) rfl ?_
  refine L_callF (μ' := mX12_text) (i := 62) (vs := []) (by decide +kernel) ll_1539 vok_mX12_text sh_345 rfl rfl rfl rfl (Nat.le_of_ble_eq_true rfl) ?_
  refine x_CI.mono h (fun τ2 v h => ?_)
  exact L_eq (off := 686) 1184 (by decide +kernel) (by decide) h.1 h.2
set_option maxRecDepth 20000 in
theorem L_case_11 {Ln : Nat} {xs : Nat → Int32} {i : Int32} {τ : x_T} (h1 : vp_in (i + 1) Ln) (h : x_CI 2000 mX11_fault [.ref 0, .int (xs (i + 1).toNatClampNeg)] τ (fun τ1 u => x_CI 2000 mX12_fault [.ref 345, .int (xs (i + 1).toNatClampNeg)] τ1 (fun τ2 v => u = v ∧ x_Lj Ln xs 376 1184 [(1, .ref 0), (2, .ref 345), (3, .int i)] [] (x_fu τ2)))) : x_Lj Ln xs 376 503 [(1, .ref 0), (2, .ref 345), (3, .int i)] [] (x_fu τ) := by
  refine L_aload (k := 1) 0 (by decide +kernel) rfl ?_
  refine L_arg (i := i) (n := 1) (v := 1) 2 (by decide +kernel) (by decide +kernel) (by decide +kernel) (by decide +kernel) (by decide +kernel) rfl (by decide) h1 ?_
  refine L_callF (μ' := mX11_fault) (i := 63) (vs := [.int (xs (i + 1).toNatClampNeg)]) (by decide +kernel) ll_1043 vok_mX11_fault sh_0 rfl rfl rfl rfl (Nat.le_of_ble_eq_true rfl) ?_
  refine x_CI.mono h (fun τ1 u h => ?_)
  refine L_aload (k := 2) 1 (by decide +kernel) rfl ?_
  refine L_arg (i := i) (n := 1) (v := 1) 2 (by decide +kernel) (by decide +kernel) (by decide +kernel) (by decide +kernel) (by decide +kernel) rfl (by decide) h1 ?_
  refine L_callF (μ' := mX12_fault) (i := 66) (vs := [.int (xs (i + 1).toNatClampNeg)]) (by decide +kernel) ll_1692 vok_mX12_fault sh_345 rfl rfl rfl rfl (Nat.le_of_ble_eq_true rfl) ?_
  refine x_CI.mono h (fun τ2 v h => ?_)
  exact L_eq (off := 663) 1184 (by decide +kernel) (by decide) h.1 h.2
set_option maxRecDepth 20000 in
theorem L_case_12 {Ln : Nat} {xs : Nat → Int32} {i : Int32} {τ : x_T} (h1 : vp_in (i + 1) Ln) (h : x_CI 2000 mX11_by [.ref 0, .int (xs (i + 1).toNatClampNeg)] τ (fun τ1 u => x_CI 2000 mX12_by [.ref 345, .int (xs (i + 1).toNatClampNeg)] τ1 (fun τ2 v => u = v ∧ x_Lj Ln xs 376 1184 [(1, .ref 0), (2, .ref 345), (3, .int i)] [] (x_fu τ2)))) : x_Lj Ln xs 376 526 [(1, .ref 0), (2, .ref 345), (3, .int i)] [] (x_fu τ) := by
  refine L_aload (k := 1) 0 (by decide +kernel) rfl ?_
  refine L_arg (i := i) (n := 1) (v := 1) 2 (by decide +kernel) (by decide +kernel) (by decide +kernel) (by decide +kernel) (by decide +kernel) rfl (by decide) h1 ?_
  refine L_callF (μ' := mX11_by) (i := 67) (vs := [.int (xs (i + 1).toNatClampNeg)]) (by decide +kernel) ll_1047 vok_mX11_by sh_0 rfl rfl rfl rfl (Nat.le_of_ble_eq_true rfl) ?_
  refine x_CI.mono h (fun τ1 u h => ?_)
  refine L_aload (k := 2) 1 (by decide +kernel) rfl ?_
  refine L_arg (i := i) (n := 1) (v := 1) 2 (by decide +kernel) (by decide +kernel) (by decide +kernel) (by decide +kernel) (by decide +kernel) rfl (by decide) h1 ?_
  refine L_callF (μ' := mX12_by) (i := 71) (vs := [.int (xs (i + 1).toNatClampNeg)]) (by decide +kernel) ll_1696 vok_mX12_by sh_345 rfl rfl rfl rfl (Nat.le_of_ble_eq_true rfl) ?_
  refine x_CI.mono h (fun τ2 v h => ?_)
  exact L_eq (off := 640) 1184 (by decide +kernel) (by decide) h.1 h.2
set_option maxRecDepth 20000 in
theorem L_case_13 {Ln : Nat} {xs : Nat → Int32} {i : Int32} {τ : x_T} (h1 : vp_in (i + 1) Ln) (h : x_CI 2000 mX11_played [.ref 0, .int (xs (i + 1).toNatClampNeg)] τ (fun τ1 u => x_CI 2000 mX12_played [.ref 345, .int (xs (i + 1).toNatClampNeg)] τ1 (fun τ2 v => u = v ∧ x_Lj Ln xs 376 1184 [(1, .ref 0), (2, .ref 345), (3, .int i)] [] (x_fu τ2)))) : x_Lj Ln xs 376 549 [(1, .ref 0), (2, .ref 345), (3, .int i)] [] (x_fu τ) := by
  refine L_aload (k := 1) 0 (by decide +kernel) rfl ?_
  refine L_arg (i := i) (n := 1) (v := 1) 2 (by decide +kernel) (by decide +kernel) (by decide +kernel) (by decide +kernel) (by decide +kernel) rfl (by decide) h1 ?_
  refine L_callF (μ' := mX11_played) (i := 72) (vs := [.int (xs (i + 1).toNatClampNeg)]) (by decide +kernel) ll_1059 vok_mX11_played sh_0 rfl rfl rfl rfl (Nat.le_of_ble_eq_true rfl) ?_
  refine x_CI.mono h (fun τ1 u h => ?_)
  refine L_aload (k := 2) 1 (by decide +kernel) rfl ?_
  refine L_arg (i := i) (n := 1) (v := 1) 2 (by decide +kernel) (by decide +kernel) (by decide +kernel) (by decide +kernel) (by decide +kernel) rfl (by decide) h1 ?_
  refine L_callF (μ' := mX12_played) (i := 75) (vs := [.int (xs (i + 1).toNatClampNeg)]) (by decide +kernel) ll_1827 vok_mX12_played sh_345 rfl rfl rfl rfl (Nat.le_of_ble_eq_true rfl) ?_
  refine x_CI.mono h (fun τ2 v h => ?_)
  exact L_eq (off := 617) 1184 (by decide +kernel) (by decide) h.1 h.2
set_option maxRecDepth 20000 in
theorem L_case_14 {Ln : Nat} {xs : Nat → Int32} {i : Int32} {τ : x_T} (h : x_CI 2000 mX11_undo [.ref 0] τ (fun τ1 u => x_CI 2000 mX12_undo [.ref 345] τ1 (fun τ2 v => u = v ∧ x_Lj Ln xs 376 1184 [(1, .ref 0), (2, .ref 345), (3, .int i)] [] (x_fu τ2)))) : x_Lj Ln xs 376 572 [(1, .ref 0), (2, .ref 345), (3, .int i)] [] (x_fu τ) := by
  refine L_aload (k := 1) 0 (by decide +kernel) rfl ?_
  refine L_callF (μ' := mX11_undo) (i := 76) (vs := []) (by decide +kernel) ll_1074 vok_mX11_undo sh_0 rfl rfl rfl rfl (Nat.le_of_ble_eq_true rfl) ?_
  refine x_CI.mono h (fun τ1 u h => ?_)
  refine L_aload (k := 2) 1 (by decide +kernel) rfl ?_
  refine L_callF (μ' := mX12_undo) (i := 79) (vs := []) (by decide +kernel) ll_1523 vok_mX12_undo sh_345 rfl rfl rfl rfl (Nat.le_of_ble_eq_true rfl) ?_
  refine x_CI.mono h (fun τ2 v h => ?_)
  exact L_eq (off := 604) 1184 (by decide +kernel) (by decide) h.1 h.2
set_option maxRecDepth 20000 in
theorem L_case_15 {Ln : Nat} {xs : Nat → Int32} {i : Int32} {τ : x_T} (h1 : vp_in (i + 1) Ln) (h2 : vp_in (i + 2) Ln) (h : x_CI 2000 mX11_of [.ref 0, .int (xs (i + 1).toNatClampNeg), .int (xs (i + 2).toNatClampNeg)] τ (fun τ1 u => x_CI 2000 mX12_of [.ref 345, .int (xs (i + 1).toNatClampNeg), .int (xs (i + 2).toNatClampNeg)] τ1 (fun τ2 v => u = v ∧ x_Lj Ln xs 376 1184 [(1, .ref 0), (2, .ref 345), (3, .int i)] [] (x_fu τ2)))) : x_Lj Ln xs 376 585 [(1, .ref 0), (2, .ref 345), (3, .int i)] [] (x_fu τ) := by
  refine L_aload (k := 1) 0 (by decide +kernel) rfl ?_
  refine L_arg (i := i) (n := 1) (v := 1) 2 (by decide +kernel) (by decide +kernel) (by decide +kernel) (by decide +kernel) (by decide +kernel) rfl (by decide) h1 ?_
  refine L_arg (i := i) (n := 2) (v := 2) 2 (by decide +kernel) (by decide +kernel) (by decide +kernel) (by decide +kernel) (by decide +kernel) rfl (by decide) h2 ?_
  refine L_callF (μ' := mX11_of) (i := 80) (vs := [.int (xs (i + 1).toNatClampNeg), .int (xs (i + 2).toNatClampNeg)]) (by decide +kernel) ll_1082 vok_mX11_of sh_0 rfl rfl rfl rfl (Nat.le_of_ble_eq_true rfl) ?_
  refine x_CI.mono h (fun τ1 u h => ?_)
  refine L_aload (k := 2) 1 (by decide +kernel) rfl ?_
  refine L_arg (i := i) (n := 1) (v := 1) 2 (by decide +kernel) (by decide +kernel) (by decide +kernel) (by decide +kernel) (by decide +kernel) rfl (by decide) h1 ?_
  refine L_arg (i := i) (n := 2) (v := 2) 2 (by decide +kernel) (by decide +kernel) (by decide +kernel) (by decide +kernel) (by decide +kernel) rfl (by decide) h2 ?_
  refine L_callF (μ' := mX12_of) (i := 83) (vs := [.int (xs (i + 1).toNatClampNeg), .int (xs (i + 2).toNatClampNeg)]) (by decide +kernel) ll_1842 vok_mX12_of sh_345 rfl rfl rfl rfl (Nat.le_of_ble_eq_true rfl) ?_
  refine x_CI.mono h (fun τ2 v h => ?_)
  exact L_eq (off := 571) 1184 (by decide +kernel) (by decide) h.1 h.2
set_option maxRecDepth 20000 in
theorem L_case_16 {Ln : Nat} {xs : Nat → Int32} {i : Int32} {τ : x_T} (h1 : vp_in (i + 1) Ln) (h2 : vp_in (i + 2) Ln) (h3 : vp_in (i + 3) Ln) (h : x_CI 2000 mX11_two [.ref 0, .int (xs (i + 1).toNatClampNeg), .int (xs (i + 2).toNatClampNeg), .int (xs (i + 3).toNatClampNeg)] τ (fun τ1 u => x_CI 2000 mX12_two [.ref 345, .int (xs (i + 1).toNatClampNeg), .int (xs (i + 2).toNatClampNeg), .int (xs (i + 3).toNatClampNeg)] τ1 (fun τ2 v => u = v ∧ x_Lj Ln xs 376 1184 [(1, .ref 0), (2, .ref 345), (3, .int i)] [] (x_fu τ2)))) : x_Lj Ln xs 376 618 [(1, .ref 0), (2, .ref 345), (3, .int i)] [] (x_fu τ) := by
  refine L_aload (k := 1) 0 (by decide +kernel) rfl ?_
  refine L_arg (i := i) (n := 1) (v := 1) 2 (by decide +kernel) (by decide +kernel) (by decide +kernel) (by decide +kernel) (by decide +kernel) rfl (by decide) h1 ?_
  refine L_arg (i := i) (n := 2) (v := 2) 2 (by decide +kernel) (by decide +kernel) (by decide +kernel) (by decide +kernel) (by decide +kernel) rfl (by decide) h2 ?_
  refine L_arg (i := i) (n := 3) (v := 3) 2 (by decide +kernel) (by decide +kernel) (by decide +kernel) (by decide +kernel) (by decide +kernel) rfl (by decide) h3 ?_
  refine L_callF (μ' := mX11_two) (i := 84) (vs := [.int (xs (i + 1).toNatClampNeg), .int (xs (i + 2).toNatClampNeg), .int (xs (i + 3).toNatClampNeg)]) (by decide +kernel) ll_1091 vok_mX11_two sh_0 rfl rfl rfl rfl (Nat.le_of_ble_eq_true rfl) ?_
  refine x_CI.mono h (fun τ1 u h => ?_)
  refine L_aload (k := 2) 1 (by decide +kernel) rfl ?_
  refine L_arg (i := i) (n := 1) (v := 1) 2 (by decide +kernel) (by decide +kernel) (by decide +kernel) (by decide +kernel) (by decide +kernel) rfl (by decide) h1 ?_
  refine L_arg (i := i) (n := 2) (v := 2) 2 (by decide +kernel) (by decide +kernel) (by decide +kernel) (by decide +kernel) (by decide +kernel) rfl (by decide) h2 ?_
  refine L_arg (i := i) (n := 3) (v := 3) 2 (by decide +kernel) (by decide +kernel) (by decide +kernel) (by decide +kernel) (by decide +kernel) rfl (by decide) h3 ?_
  refine L_callF (μ' := mX12_two) (i := 88) (vs := [.int (xs (i + 1).toNatClampNeg), .int (xs (i + 2).toNatClampNeg), .int (xs (i + 3).toNatClampNeg)]) (by decide +kernel) ll_1846 vok_mX12_two sh_345 rfl rfl rfl rfl (Nat.le_of_ble_eq_true rfl) ?_
  refine x_CI.mono h (fun τ2 v h => ?_)
  exact L_eq (off := 528) 1184 (by decide +kernel) (by decide) h.1 h.2
set_option maxRecDepth 20000 in
theorem L_case_17 {Ln : Nat} {xs : Nat → Int32} {i : Int32} {τ : x_T} (h1 : vp_in (i + 1) Ln) (h : x_CI 2000 mX11_barrow [.ref 0, .int (xs (i + 1).toNatClampNeg)] τ (fun τ1 u => x_CI 2000 mX12_barrow [.ref 345, .int (xs (i + 1).toNatClampNeg)] τ1 (fun τ2 v => u = v ∧ x_Lj Ln xs 376 1184 [(1, .ref 0), (2, .ref 345), (3, .int i)] [] (x_fu τ2)))) : x_Lj Ln xs 376 661 [(1, .ref 0), (2, .ref 345), (3, .int i)] [] (x_fu τ) := by
  refine L_aload (k := 1) 0 (by decide +kernel) rfl ?_
  refine L_arg (i := i) (n := 1) (v := 1) 2 (by decide +kernel) (by decide +kernel) (by decide +kernel) (by decide +kernel) (by decide +kernel) rfl (by decide) h1 ?_
  refine L_callF (μ' := mX11_barrow) (i := 89) (vs := [.int (xs (i + 1).toNatClampNeg)]) (by decide +kernel) ll_1101 vok_mX11_barrow sh_0 rfl rfl rfl rfl (Nat.le_of_ble_eq_true rfl) ?_
  refine x_CI.mono h (fun τ1 u h => ?_)
  refine L_aload (k := 2) 1 (by decide +kernel) rfl ?_
  refine L_arg (i := i) (n := 1) (v := 1) 2 (by decide +kernel) (by decide +kernel) (by decide +kernel) (by decide +kernel) (by decide +kernel) rfl (by decide) h1 ?_
  refine L_callF (μ' := mX12_barrow) (i := 92) (vs := [.int (xs (i + 1).toNatClampNeg)]) (by decide +kernel) ll_1854 vok_mX12_barrow sh_345 rfl rfl rfl rfl (Nat.le_of_ble_eq_true rfl) ?_
  refine x_CI.mono h (fun τ2 v h => ?_)
  exact L_eq (off := 505) 1184 (by decide +kernel) (by decide) h.1 h.2
set_option maxRecDepth 20000 in
theorem L_case_18 {Ln : Nat} {xs : Nat → Int32} {i : Int32} {τ : x_T} (h1 : vp_in (i + 1) Ln) (h2 : vp_in (i + 2) Ln) (h3 : vp_in (i + 3) Ln) (h : x_CI 2000 mX11_hard [.ref 0, .int (xs (i + 1).toNatClampNeg), .int (xs (i + 2).toNatClampNeg), .int (xs (i + 3).toNatClampNeg)] τ (fun τ1 u => x_CI 2000 mX12_hard [.ref 345, .int (xs (i + 1).toNatClampNeg), .int (xs (i + 2).toNatClampNeg), .int (xs (i + 3).toNatClampNeg)] τ1 (fun τ2 v => u = v ∧ x_Lj Ln xs 376 1184 [(1, .ref 0), (2, .ref 345), (3, .int i)] [] (x_fu τ2)))) : x_Lj Ln xs 376 684 [(1, .ref 0), (2, .ref 345), (3, .int i)] [] (x_fu τ) := by
  refine L_aload (k := 1) 0 (by decide +kernel) rfl ?_
  refine L_arg (i := i) (n := 1) (v := 1) 2 (by decide +kernel) (by decide +kernel) (by decide +kernel) (by decide +kernel) (by decide +kernel) rfl (by decide) h1 ?_
  refine L_arg (i := i) (n := 2) (v := 2) 2 (by decide +kernel) (by decide +kernel) (by decide +kernel) (by decide +kernel) (by decide +kernel) rfl (by decide) h2 ?_
  refine L_arg (i := i) (n := 3) (v := 3) 2 (by decide +kernel) (by decide +kernel) (by decide +kernel) (by decide +kernel) (by decide +kernel) rfl (by decide) h3 ?_
  refine L_callF (μ' := mX11_hard) (i := 93) (vs := [.int (xs (i + 1).toNatClampNeg), .int (xs (i + 2).toNatClampNeg), .int (xs (i + 3).toNatClampNeg)]) (by decide +kernel) ll_1106 vok_mX11_hard sh_0 rfl rfl rfl rfl (Nat.le_of_ble_eq_true rfl) ?_
  refine x_CI.mono h (fun τ1 u h => ?_)
  refine L_aload (k := 2) 1 (by decide +kernel) rfl ?_
  refine L_arg (i := i) (n := 1) (v := 1) 2 (by decide +kernel) (by decide +kernel) (by decide +kernel) (by decide +kernel) (by decide +kernel) rfl (by decide) h1 ?_
  refine L_arg (i := i) (n := 2) (v := 2) 2 (by decide +kernel) (by decide +kernel) (by decide +kernel) (by decide +kernel) (by decide +kernel) rfl (by decide) h2 ?_
  refine L_arg (i := i) (n := 3) (v := 3) 2 (by decide +kernel) (by decide +kernel) (by decide +kernel) (by decide +kernel) (by decide +kernel) rfl (by decide) h3 ?_
  refine L_callF (μ' := mX12_hard) (i := 96) (vs := [.int (xs (i + 1).toNatClampNeg), .int (xs (i + 2).toNatClampNeg), .int (xs (i + 3).toNatClampNeg)]) (by decide +kernel) ll_1858 vok_mX12_hard sh_345 rfl rfl rfl rfl (Nat.le_of_ble_eq_true rfl) ?_
  refine x_CI.mono h (fun τ2 v h => ?_)
  exact L_eq (off := 462) 1184 (by decide +kernel) (by decide) h.1 h.2
set_option maxRecDepth 20000 in
theorem L_case_19 {Ln : Nat} {xs : Nat → Int32} {i : Int32} {τ : x_T} (h1 : vp_in (i + 1) Ln) (h2 : vp_in (i + 2) Ln) (h : x_CI 2000 mX11_book [.ref 0, .int (xs (i + 1).toNatClampNeg), .int (xs (i + 2).toNatClampNeg)] τ (fun τ1 u => x_CI 2000 mX12_book [.ref 345, .int (xs (i + 1).toNatClampNeg), .int (xs (i + 2).toNatClampNeg)] τ1 (fun τ2 v => u = v ∧ x_Lj Ln xs 376 1184 [(1, .ref 0), (2, .ref 345), (3, .int i)] [] (x_fu τ2)))) : x_Lj Ln xs 376 727 [(1, .ref 0), (2, .ref 345), (3, .int i)] [] (x_fu τ) := by
  refine L_aload (k := 1) 0 (by decide +kernel) rfl ?_
  refine L_arg (i := i) (n := 1) (v := 1) 2 (by decide +kernel) (by decide +kernel) (by decide +kernel) (by decide +kernel) (by decide +kernel) rfl (by decide) h1 ?_
  refine L_arg (i := i) (n := 2) (v := 2) 2 (by decide +kernel) (by decide +kernel) (by decide +kernel) (by decide +kernel) (by decide +kernel) rfl (by decide) h2 ?_
  refine L_callF (μ' := mX11_book) (i := 97) (vs := [.int (xs (i + 1).toNatClampNeg), .int (xs (i + 2).toNatClampNeg)]) (by decide +kernel) ll_1112 vok_mX11_book sh_0 rfl rfl rfl rfl (Nat.le_of_ble_eq_true rfl) ?_
  refine x_CI.mono h (fun τ1 u h => ?_)
  refine L_aload (k := 2) 1 (by decide +kernel) rfl ?_
  refine L_arg (i := i) (n := 1) (v := 1) 2 (by decide +kernel) (by decide +kernel) (by decide +kernel) (by decide +kernel) (by decide +kernel) rfl (by decide) h1 ?_
  refine L_arg (i := i) (n := 2) (v := 2) 2 (by decide +kernel) (by decide +kernel) (by decide +kernel) (by decide +kernel) (by decide +kernel) rfl (by decide) h2 ?_
  refine L_callF (μ' := mX12_book) (i := 100) (vs := [.int (xs (i + 1).toNatClampNeg), .int (xs (i + 2).toNatClampNeg)]) (by decide +kernel) ll_1862 vok_mX12_book sh_345 rfl rfl rfl rfl (Nat.le_of_ble_eq_true rfl) ?_
  refine x_CI.mono h (fun τ2 v h => ?_)
  exact L_eq (off := 429) 1184 (by decide +kernel) (by decide) h.1 h.2
set_option maxRecDepth 20000 in
theorem L_case_20 {Ln : Nat} {xs : Nat → Int32} {i : Int32} {τ : x_T} (h1 : vp_in (i + 1) Ln) (h2 : vp_in (i + 2) Ln) (h3 : vp_in (i + 3) Ln) (h : x_CI 2000 mX11_foretold [.ref 0, .int (xs (i + 1).toNatClampNeg), .int (xs (i + 2).toNatClampNeg), .int (xs (i + 3).toNatClampNeg)] τ (fun τ1 u => x_CI 2000 mX12_foretold [.ref 345, .int (xs (i + 1).toNatClampNeg), .int (xs (i + 2).toNatClampNeg), .int (xs (i + 3).toNatClampNeg)] τ1 (fun τ2 v => u = v ∧ x_Lj Ln xs 376 1184 [(1, .ref 0), (2, .ref 345), (3, .int i)] [] (x_fu τ2)))) : x_Lj Ln xs 376 760 [(1, .ref 0), (2, .ref 345), (3, .int i)] [] (x_fu τ) := by
  refine L_aload (k := 1) 0 (by decide +kernel) rfl ?_
  refine L_arg (i := i) (n := 1) (v := 1) 2 (by decide +kernel) (by decide +kernel) (by decide +kernel) (by decide +kernel) (by decide +kernel) rfl (by decide) h1 ?_
  refine L_arg (i := i) (n := 2) (v := 2) 2 (by decide +kernel) (by decide +kernel) (by decide +kernel) (by decide +kernel) (by decide +kernel) rfl (by decide) h2 ?_
  refine L_arg (i := i) (n := 3) (v := 3) 2 (by decide +kernel) (by decide +kernel) (by decide +kernel) (by decide +kernel) (by decide +kernel) rfl (by decide) h3 ?_
  refine L_callF (μ' := mX11_foretold) (i := 101) (vs := [.int (xs (i + 1).toNatClampNeg), .int (xs (i + 2).toNatClampNeg), .int (xs (i + 3).toNatClampNeg)]) (by decide +kernel) ll_1120 vok_mX11_foretold sh_0 rfl rfl rfl rfl (Nat.le_of_ble_eq_true rfl) ?_
  refine x_CI.mono h (fun τ1 u h => ?_)
  refine L_aload (k := 2) 1 (by decide +kernel) rfl ?_
  refine L_arg (i := i) (n := 1) (v := 1) 2 (by decide +kernel) (by decide +kernel) (by decide +kernel) (by decide +kernel) (by decide +kernel) rfl (by decide) h1 ?_
  refine L_arg (i := i) (n := 2) (v := 2) 2 (by decide +kernel) (by decide +kernel) (by decide +kernel) (by decide +kernel) (by decide +kernel) rfl (by decide) h2 ?_
  refine L_arg (i := i) (n := 3) (v := 3) 2 (by decide +kernel) (by decide +kernel) (by decide +kernel) (by decide +kernel) (by decide +kernel) rfl (by decide) h3 ?_
  refine L_callF (μ' := mX12_foretold) (i := 104) (vs := [.int (xs (i + 1).toNatClampNeg), .int (xs (i + 2).toNatClampNeg), .int (xs (i + 3).toNatClampNeg)]) (by decide +kernel) ll_1866 vok_mX12_foretold sh_345 rfl rfl rfl rfl (Nat.le_of_ble_eq_true rfl) ?_
  refine x_CI.mono h (fun τ2 v h => ?_)
  exact L_eq (off := 386) 1184 (by decide +kernel) (by decide) h.1 h.2
set_option maxRecDepth 20000 in
theorem L_case_21 {Ln : Nat} {xs : Nat → Int32} {i : Int32} {τ : x_T} (h : x_CI 2000 mX11_arrives [.ref 0] τ (fun τ1 u => x_CI 2000 mX12_arrives [.ref 345] τ1 (fun τ2 v => u = v ∧ x_Lj Ln xs 376 1184 [(1, .ref 0), (2, .ref 345), (3, .int i)] [] (x_fu τ2)))) : x_Lj Ln xs 376 803 [(1, .ref 0), (2, .ref 345), (3, .int i)] [] (x_fu τ) := by
  refine L_aload (k := 1) 0 (by decide +kernel) rfl ?_
  refine L_callF (μ' := mX11_arrives) (i := 105) (vs := []) (by decide +kernel) ll_1125 vok_mX11_arrives sh_0 rfl rfl rfl rfl (Nat.le_of_ble_eq_true rfl) ?_
  refine x_CI.mono h (fun τ1 u h => ?_)
  refine L_aload (k := 2) 1 (by decide +kernel) rfl ?_
  refine L_callF (μ' := mX12_arrives) (i := 108) (vs := []) (by decide +kernel) ll_1870 vok_mX12_arrives sh_345 rfl rfl rfl rfl (Nat.le_of_ble_eq_true rfl) ?_
  refine x_CI.mono h (fun τ2 v h => ?_)
  exact L_eq (off := 373) 1184 (by decide +kernel) (by decide) h.1 h.2
set_option maxRecDepth 20000 in
theorem L_case_22 {Ln : Nat} {xs : Nat → Int32} {i : Int32} {τ : x_T} (h1 : vp_in (i + 1) Ln) (h2 : vp_in (i + 2) Ln) (h : x_CI 2000 mX11_want [.ref 0, .int (xs (i + 1).toNatClampNeg), .int (xs (i + 2).toNatClampNeg)] τ (fun τ1 u => x_CI 2000 mX12_want [.ref 345, .int (xs (i + 1).toNatClampNeg), .int (xs (i + 2).toNatClampNeg)] τ1 (fun τ2 v => u = v ∧ x_Lj Ln xs 376 1184 [(1, .ref 0), (2, .ref 345), (3, .int i)] [] (x_fu τ2)))) : x_Lj Ln xs 376 816 [(1, .ref 0), (2, .ref 345), (3, .int i)] [] (x_fu τ) := by
  refine L_aload (k := 1) 0 (by decide +kernel) rfl ?_
  refine L_arg (i := i) (n := 1) (v := 1) 2 (by decide +kernel) (by decide +kernel) (by decide +kernel) (by decide +kernel) (by decide +kernel) rfl (by decide) h1 ?_
  refine L_arg (i := i) (n := 2) (v := 2) 2 (by decide +kernel) (by decide +kernel) (by decide +kernel) (by decide +kernel) (by decide +kernel) rfl (by decide) h2 ?_
  refine L_callF (μ' := mX11_want) (i := 109) (vs := [.int (xs (i + 1).toNatClampNeg), .int (xs (i + 2).toNatClampNeg)]) (by decide +kernel) ll_1130 vok_mX11_want sh_0 rfl rfl rfl rfl (Nat.le_of_ble_eq_true rfl) ?_
  refine x_CI.mono h (fun τ1 u h => ?_)
  refine L_aload (k := 2) 1 (by decide +kernel) rfl ?_
  refine L_arg (i := i) (n := 1) (v := 1) 2 (by decide +kernel) (by decide +kernel) (by decide +kernel) (by decide +kernel) (by decide +kernel) rfl (by decide) h1 ?_
  refine L_arg (i := i) (n := 2) (v := 2) 2 (by decide +kernel) (by decide +kernel) (by decide +kernel) (by decide +kernel) (by decide +kernel) rfl (by decide) h2 ?_
  refine L_callF (μ' := mX12_want) (i := 112) (vs := [.int (xs (i + 1).toNatClampNeg), .int (xs (i + 2).toNatClampNeg)]) (by decide +kernel) ll_1874 vok_mX12_want sh_345 rfl rfl rfl rfl (Nat.le_of_ble_eq_true rfl) ?_
  refine x_CI.mono h (fun τ2 v h => ?_)
  exact L_eq (off := 340) 1184 (by decide +kernel) (by decide) h.1 h.2
set_option maxRecDepth 20000 in
theorem L_case_23 {Ln : Nat} {xs : Nat → Int32} {i : Int32} {τ : x_T} (h : x_CI 2000 mX11_fitting [.ref 0] τ (fun τ1 u => x_CI 2000 mX12_fitting [.ref 345] τ1 (fun τ2 v => u = v ∧ x_Lj Ln xs 376 1184 [(1, .ref 0), (2, .ref 345), (3, .int i)] [] (x_fu τ2)))) : x_Lj Ln xs 376 849 [(1, .ref 0), (2, .ref 345), (3, .int i)] [] (x_fu τ) := by
  refine L_aload (k := 1) 0 (by decide +kernel) rfl ?_
  refine L_callF (μ' := mX11_fitting) (i := 113) (vs := []) (by decide +kernel) ll_1138 vok_mX11_fitting sh_0 rfl rfl rfl rfl (Nat.le_of_ble_eq_true rfl) ?_
  refine x_CI.mono h (fun τ1 u h => ?_)
  refine L_aload (k := 2) 1 (by decide +kernel) rfl ?_
  refine L_callF (μ' := mX12_fitting) (i := 116) (vs := []) (by decide +kernel) ll_1878 vok_mX12_fitting sh_345 rfl rfl rfl rfl (Nat.le_of_ble_eq_true rfl) ?_
  refine x_CI.mono h (fun τ2 v h => ?_)
  exact L_eq (off := 327) 1184 (by decide +kernel) (by decide) h.1 h.2
set_option maxRecDepth 20000 in
theorem L_case_24 {Ln : Nat} {xs : Nat → Int32} {i : Int32} {τ : x_T} (h1 : vp_in (i + 1) Ln) (h : x_CI 2000 mX11_route [.ref 0, .int (xs (i + 1).toNatClampNeg)] τ (fun τ1 u => x_CI 2000 mX12_route [.ref 345, .int (xs (i + 1).toNatClampNeg)] τ1 (fun τ2 v => u = v ∧ x_Lj Ln xs 376 1184 [(1, .ref 0), (2, .ref 345), (3, .int i)] [] (x_fu τ2)))) : x_Lj Ln xs 376 862 [(1, .ref 0), (2, .ref 345), (3, .int i)] [] (x_fu τ) := by
  refine L_aload (k := 1) 0 (by decide +kernel) rfl ?_
  refine L_arg (i := i) (n := 1) (v := 1) 2 (by decide +kernel) (by decide +kernel) (by decide +kernel) (by decide +kernel) (by decide +kernel) rfl (by decide) h1 ?_
  refine L_callF (μ' := mX11_route) (i := 117) (vs := [.int (xs (i + 1).toNatClampNeg)]) (by decide +kernel) ll_1151 vok_mX11_route sh_0 rfl rfl rfl rfl (Nat.le_of_ble_eq_true rfl) ?_
  refine x_CI.mono h (fun τ1 u h => ?_)
  refine L_aload (k := 2) 1 (by decide +kernel) rfl ?_
  refine L_arg (i := i) (n := 1) (v := 1) 2 (by decide +kernel) (by decide +kernel) (by decide +kernel) (by decide +kernel) (by decide +kernel) rfl (by decide) h1 ?_
  refine L_callF (μ' := mX12_route) (i := 120) (vs := [.int (xs (i + 1).toNatClampNeg)]) (by decide +kernel) ll_1886 vok_mX12_route sh_345 rfl rfl rfl rfl (Nat.le_of_ble_eq_true rfl) ?_
  refine x_CI.mono h (fun τ2 v h => ?_)
  exact L_eq (off := 304) 1184 (by decide +kernel) (by decide) h.1 h.2
set_option maxRecDepth 20000 in
theorem L_case_25 {Ln : Nat} {xs : Nat → Int32} {i : Int32} {τ : x_T} (h1 : vp_in (i + 1) Ln) (h2 : vp_in (i + 2) Ln) (h3 : vp_in (i + 3) Ln) (h : x_CI 2000 mX11_least [.ref 0, .int (xs (i + 1).toNatClampNeg), .int (xs (i + 2).toNatClampNeg), .int (xs (i + 3).toNatClampNeg)] τ (fun τ1 u => x_CI 2000 mX12_least [.ref 345, .int (xs (i + 1).toNatClampNeg), .int (xs (i + 2).toNatClampNeg), .int (xs (i + 3).toNatClampNeg)] τ1 (fun τ2 v => u = v ∧ x_Lj Ln xs 376 1184 [(1, .ref 0), (2, .ref 345), (3, .int i)] [] (x_fu τ2)))) : x_Lj Ln xs 376 885 [(1, .ref 0), (2, .ref 345), (3, .int i)] [] (x_fu τ) := by
  refine L_aload (k := 1) 0 (by decide +kernel) rfl ?_
  refine L_arg (i := i) (n := 1) (v := 1) 2 (by decide +kernel) (by decide +kernel) (by decide +kernel) (by decide +kernel) (by decide +kernel) rfl (by decide) h1 ?_
  refine L_arg (i := i) (n := 2) (v := 2) 2 (by decide +kernel) (by decide +kernel) (by decide +kernel) (by decide +kernel) (by decide +kernel) rfl (by decide) h2 ?_
  refine L_arg (i := i) (n := 3) (v := 3) 2 (by decide +kernel) (by decide +kernel) (by decide +kernel) (by decide +kernel) (by decide +kernel) rfl (by decide) h3 ?_
  refine L_callF (μ' := mX11_least) (i := 121) (vs := [.int (xs (i + 1).toNatClampNeg), .int (xs (i + 2).toNatClampNeg), .int (xs (i + 3).toNatClampNeg)]) (by decide +kernel) ll_1182 vok_mX11_least sh_0 rfl rfl rfl rfl (Nat.le_of_ble_eq_true rfl) ?_
  refine x_CI.mono h (fun τ1 u h => ?_)
  refine L_aload (k := 2) 1 (by decide +kernel) rfl ?_
  refine L_arg (i := i) (n := 1) (v := 1) 2 (by decide +kernel) (by decide +kernel) (by decide +kernel) (by decide +kernel) (by decide +kernel) rfl (by decide) h1 ?_
  refine L_arg (i := i) (n := 2) (v := 2) 2 (by decide +kernel) (by decide +kernel) (by decide +kernel) (by decide +kernel) (by decide +kernel) rfl (by decide) h2 ?_
  refine L_arg (i := i) (n := 3) (v := 3) 2 (by decide +kernel) (by decide +kernel) (by decide +kernel) (by decide +kernel) (by decide +kernel) rfl (by decide) h3 ?_
  refine L_callF (μ' := mX12_least) (i := 124) (vs := [.int (xs (i + 1).toNatClampNeg), .int (xs (i + 2).toNatClampNeg), .int (xs (i + 3).toNatClampNeg)]) (by decide +kernel) ll_1898 vok_mX12_least sh_345 rfl rfl rfl rfl (Nat.le_of_ble_eq_true rfl) ?_
  refine x_CI.mono h (fun τ2 v h => ?_)
  exact L_eq (off := 261) 1184 (by decide +kernel) (by decide) h.1 h.2
set_option maxRecDepth 20000 in
theorem L_case_26 {Ln : Nat} {xs : Nat → Int32} {i : Int32} {τ : x_T} (h : x_CI 2000 mX11_winner [.ref 0] τ (fun τ1 u => x_CI 2000 mX12_winner [.ref 345] τ1 (fun τ2 v => u = v ∧ x_Lj Ln xs 376 1184 [(1, .ref 0), (2, .ref 345), (3, .int i)] [] (x_fu τ2)))) : x_Lj Ln xs 376 928 [(1, .ref 0), (2, .ref 345), (3, .int i)] [] (x_fu τ) := by
  refine L_aload (k := 1) 0 (by decide +kernel) rfl ?_
  refine L_callF (μ' := mX11_winner) (i := 125) (vs := []) (by decide +kernel) ll_1209 vok_mX11_winner sh_0 rfl rfl rfl rfl (Nat.le_of_ble_eq_true rfl) ?_
  refine x_CI.mono h (fun τ1 u h => ?_)
  refine L_aload (k := 2) 1 (by decide +kernel) rfl ?_
  refine L_callF (μ' := mX12_winner) (i := 128) (vs := []) (by decide +kernel) ll_1907 vok_mX12_winner sh_345 rfl rfl rfl rfl (Nat.le_of_ble_eq_true rfl) ?_
  refine x_CI.mono h (fun τ2 v h => ?_)
  exact L_eq (off := 248) 1184 (by decide +kernel) (by decide) h.1 h.2
set_option maxRecDepth 20000 in
theorem L_case_27 {Ln : Nat} {xs : Nat → Int32} {i : Int32} {τ : x_T} (h1 : vp_in (i + 1) Ln) (h2 : vp_in (i + 2) Ln) (h : x_CI 2000 mX11_agenda [.ref 0, .int (xs (i + 1).toNatClampNeg), .int (xs (i + 2).toNatClampNeg)] τ (fun τ1 u => x_CI 2000 mX12_agenda [.ref 345, .int (xs (i + 1).toNatClampNeg), .int (xs (i + 2).toNatClampNeg)] τ1 (fun τ2 v => u = v ∧ x_Lj Ln xs 376 1184 [(1, .ref 0), (2, .ref 345), (3, .int i)] [] (x_fu τ2)))) : x_Lj Ln xs 376 941 [(1, .ref 0), (2, .ref 345), (3, .int i)] [] (x_fu τ) := by
  refine L_aload (k := 1) 0 (by decide +kernel) rfl ?_
  refine L_arg (i := i) (n := 1) (v := 1) 2 (by decide +kernel) (by decide +kernel) (by decide +kernel) (by decide +kernel) (by decide +kernel) rfl (by decide) h1 ?_
  refine L_arg (i := i) (n := 2) (v := 2) 2 (by decide +kernel) (by decide +kernel) (by decide +kernel) (by decide +kernel) (by decide +kernel) rfl (by decide) h2 ?_
  refine L_callF (μ' := mX11_agenda) (i := 129) (vs := [.int (xs (i + 1).toNatClampNeg), .int (xs (i + 2).toNatClampNeg)]) (by decide +kernel) ll_1226 vok_mX11_agenda sh_0 rfl rfl rfl rfl (Nat.le_of_ble_eq_true rfl) ?_
  refine x_CI.mono h (fun τ1 u h => ?_)
  refine L_aload (k := 2) 1 (by decide +kernel) rfl ?_
  refine L_arg (i := i) (n := 1) (v := 1) 2 (by decide +kernel) (by decide +kernel) (by decide +kernel) (by decide +kernel) (by decide +kernel) rfl (by decide) h1 ?_
  refine L_arg (i := i) (n := 2) (v := 2) 2 (by decide +kernel) (by decide +kernel) (by decide +kernel) (by decide +kernel) (by decide +kernel) rfl (by decide) h2 ?_
  refine L_callF (μ' := mX12_agenda) (i := 132) (vs := [.int (xs (i + 1).toNatClampNeg), .int (xs (i + 2).toNatClampNeg)]) (by decide +kernel) ll_1915 vok_mX12_agenda sh_345 rfl rfl rfl rfl (Nat.le_of_ble_eq_true rfl) ?_
  refine x_CI.mono h (fun τ2 v h => ?_)
  exact L_eq (off := 215) 1184 (by decide +kernel) (by decide) h.1 h.2
set_option maxRecDepth 20000 in
theorem L_case_28 {Ln : Nat} {xs : Nat → Int32} {i : Int32} {τ : x_T} (h1 : vp_in (i + 1) Ln) (h2 : vp_in (i + 2) Ln) (h : x_CI 2000 mX11_weight [.ref 0, .int (xs (i + 1).toNatClampNeg), .int (xs (i + 2).toNatClampNeg)] τ (fun τ1 u => x_CI 2000 mX12_weight [.ref 345, .int (xs (i + 1).toNatClampNeg), .int (xs (i + 2).toNatClampNeg)] τ1 (fun τ2 v => u = v ∧ x_Lj Ln xs 376 1184 [(1, .ref 0), (2, .ref 345), (3, .int i)] [] (x_fu τ2)))) : x_Lj Ln xs 376 974 [(1, .ref 0), (2, .ref 345), (3, .int i)] [] (x_fu τ) := by
  refine L_aload (k := 1) 0 (by decide +kernel) rfl ?_
  refine L_arg (i := i) (n := 1) (v := 1) 2 (by decide +kernel) (by decide +kernel) (by decide +kernel) (by decide +kernel) (by decide +kernel) rfl (by decide) h1 ?_
  refine L_arg (i := i) (n := 2) (v := 2) 2 (by decide +kernel) (by decide +kernel) (by decide +kernel) (by decide +kernel) (by decide +kernel) rfl (by decide) h2 ?_
  refine L_callF (μ' := mX11_weight) (i := 133) (vs := [.int (xs (i + 1).toNatClampNeg), .int (xs (i + 2).toNatClampNeg)]) (by decide +kernel) ll_1240 vok_mX11_weight sh_0 rfl rfl rfl rfl (Nat.le_of_ble_eq_true rfl) ?_
  refine x_CI.mono h (fun τ1 u h => ?_)
  refine L_aload (k := 2) 1 (by decide +kernel) rfl ?_
  refine L_arg (i := i) (n := 1) (v := 1) 2 (by decide +kernel) (by decide +kernel) (by decide +kernel) (by decide +kernel) (by decide +kernel) rfl (by decide) h1 ?_
  refine L_arg (i := i) (n := 2) (v := 2) 2 (by decide +kernel) (by decide +kernel) (by decide +kernel) (by decide +kernel) (by decide +kernel) rfl (by decide) h2 ?_
  refine L_callF (μ' := mX12_weight) (i := 137) (vs := [.int (xs (i + 1).toNatClampNeg), .int (xs (i + 2).toNatClampNeg)]) (by decide +kernel) ll_1922 vok_mX12_weight sh_345 rfl rfl rfl rfl (Nat.le_of_ble_eq_true rfl) ?_
  refine x_CI.mono h (fun τ2 v h => ?_)
  exact L_eq (off := 182) 1184 (by decide +kernel) (by decide) h.1 h.2
set_option maxRecDepth 20000 in
theorem L_case_29 {Ln : Nat} {xs : Nat → Int32} {i : Int32} {τ : x_T} (h1 : vp_in (i + 1) Ln) (h : x_CI 2000 mX11_fair [.ref 0, .int (xs (i + 1).toNatClampNeg)] τ (fun τ1 u => x_CI 2000 mX12_fair [.ref 345, .int (xs (i + 1).toNatClampNeg)] τ1 (fun τ2 v => u = v ∧ x_Lj Ln xs 376 1184 [(1, .ref 0), (2, .ref 345), (3, .int i)] [] (x_fu τ2)))) : x_Lj Ln xs 376 1007 [(1, .ref 0), (2, .ref 345), (3, .int i)] [] (x_fu τ) := by
  refine L_aload (k := 1) 0 (by decide +kernel) rfl ?_
  refine L_arg (i := i) (n := 1) (v := 1) 2 (by decide +kernel) (by decide +kernel) (by decide +kernel) (by decide +kernel) (by decide +kernel) rfl (by decide) h1 ?_
  refine L_callF (μ' := mX11_fair) (i := 138) (vs := [.int (xs (i + 1).toNatClampNeg)]) (by decide +kernel) ll_1244 vok_mX11_fair sh_0 rfl rfl rfl rfl (Nat.le_of_ble_eq_true rfl) ?_
  refine x_CI.mono h (fun τ1 u h => ?_)
  refine L_aload (k := 2) 1 (by decide +kernel) rfl ?_
  refine L_arg (i := i) (n := 1) (v := 1) 2 (by decide +kernel) (by decide +kernel) (by decide +kernel) (by decide +kernel) (by decide +kernel) rfl (by decide) h1 ?_
  refine L_callF (μ' := mX12_fair) (i := 141) (vs := [.int (xs (i + 1).toNatClampNeg)]) (by decide +kernel) ll_1926 vok_mX12_fair sh_345 rfl rfl rfl rfl (Nat.le_of_ble_eq_true rfl) ?_
  refine x_CI.mono h (fun τ2 v h => ?_)
  exact L_eq (off := 159) 1184 (by decide +kernel) (by decide) h.1 h.2
set_option maxRecDepth 20000 in
theorem L_case_30 {Ln : Nat} {xs : Nat → Int32} {i : Int32} {τ : x_T} (h1 : vp_in (i + 1) Ln) (h2 : vp_in (i + 2) Ln) (h : x_CI 2000 mX11_feel [.ref 0, .int (xs (i + 1).toNatClampNeg), .int (xs (i + 2).toNatClampNeg)] τ (fun τ1 u => x_CI 2000 mX12_feel [.ref 345, .int (xs (i + 1).toNatClampNeg), .int (xs (i + 2).toNatClampNeg)] τ1 (fun τ2 v => u = v ∧ x_Lj Ln xs 376 1184 [(1, .ref 0), (2, .ref 345), (3, .int i)] [] (x_fu τ2)))) : x_Lj Ln xs 376 1030 [(1, .ref 0), (2, .ref 345), (3, .int i)] [] (x_fu τ) := by
  refine L_aload (k := 1) 0 (by decide +kernel) rfl ?_
  refine L_arg (i := i) (n := 1) (v := 1) 2 (by decide +kernel) (by decide +kernel) (by decide +kernel) (by decide +kernel) (by decide +kernel) rfl (by decide) h1 ?_
  refine L_arg (i := i) (n := 2) (v := 2) 2 (by decide +kernel) (by decide +kernel) (by decide +kernel) (by decide +kernel) (by decide +kernel) rfl (by decide) h2 ?_
  refine L_callF (μ' := mX11_feel) (i := 142) (vs := [.int (xs (i + 1).toNatClampNeg), .int (xs (i + 2).toNatClampNeg)]) (by decide +kernel) ll_1260 vok_mX11_feel sh_0 rfl rfl rfl rfl (Nat.le_of_ble_eq_true rfl) ?_
  refine x_CI.mono h (fun τ1 u h => ?_)
  refine L_aload (k := 2) 1 (by decide +kernel) rfl ?_
  refine L_arg (i := i) (n := 1) (v := 1) 2 (by decide +kernel) (by decide +kernel) (by decide +kernel) (by decide +kernel) (by decide +kernel) rfl (by decide) h1 ?_
  refine L_arg (i := i) (n := 2) (v := 2) 2 (by decide +kernel) (by decide +kernel) (by decide +kernel) (by decide +kernel) (by decide +kernel) rfl (by decide) h2 ?_
  refine L_callF (μ' := mX12_feel) (i := 145) (vs := [.int (xs (i + 1).toNatClampNeg), .int (xs (i + 2).toNatClampNeg)]) (by decide +kernel) ll_1934 vok_mX12_feel sh_345 rfl rfl rfl rfl (Nat.le_of_ble_eq_true rfl) ?_
  refine x_CI.mono h (fun τ2 v h => ?_)
  exact L_eq (off := 126) 1184 (by decide +kernel) (by decide) h.1 h.2
set_option maxRecDepth 20000 in
theorem L_case_31 {Ln : Nat} {xs : Nat → Int32} {i : Int32} {τ : x_T} (h : x_CI 2000 mX11_lost [.ref 0] τ (fun τ1 u => x_CI 2000 mX12_lost [.ref 345] τ1 (fun τ2 v => u = v ∧ x_Lj Ln xs 376 1184 [(1, .ref 0), (2, .ref 345), (3, .int i)] [] (x_fu τ2)))) : x_Lj Ln xs 376 1063 [(1, .ref 0), (2, .ref 345), (3, .int i)] [] (x_fu τ) := by
  refine L_aload (k := 1) 0 (by decide +kernel) rfl ?_
  refine L_callF (μ' := mX11_lost) (i := 146) (vs := []) (by decide +kernel) ll_1264 vok_mX11_lost sh_0 rfl rfl rfl rfl (Nat.le_of_ble_eq_true rfl) ?_
  refine x_CI.mono h (fun τ1 u h => ?_)
  refine L_aload (k := 2) 1 (by decide +kernel) rfl ?_
  refine L_callF (μ' := mX12_lost) (i := 149) (vs := []) (by decide +kernel) ll_1938 vok_mX12_lost sh_345 rfl rfl rfl rfl (Nat.le_of_ble_eq_true rfl) ?_
  refine x_CI.mono h (fun τ2 v h => ?_)
  exact L_eq (off := 113) 1184 (by decide +kernel) (by decide) h.1 h.2
set_option maxRecDepth 20000 in
theorem L_case_32 {Ln : Nat} {xs : Nat → Int32} {i : Int32} {τ : x_T} (h : x_CI 2000 mX11_yard [.ref 0] τ (fun τ1 u => x_CI 2000 mX12_yard [.ref 345] τ1 (fun τ2 v => u = v ∧ x_Lj Ln xs 376 1184 [(1, .ref 0), (2, .ref 345), (3, .int i)] [] (x_fu τ2)))) : x_Lj Ln xs 376 1076 [(1, .ref 0), (2, .ref 345), (3, .int i)] [] (x_fu τ) := by
  refine L_aload (k := 1) 0 (by decide +kernel) rfl ?_
  refine L_callF (μ' := mX11_yard) (i := 150) (vs := []) (by decide +kernel) ll_1277 vok_mX11_yard sh_0 rfl rfl rfl rfl (Nat.le_of_ble_eq_true rfl) ?_
  refine x_CI.mono h (fun τ1 u h => ?_)
  refine L_aload (k := 2) 1 (by decide +kernel) rfl ?_
  refine L_callF (μ' := mX12_yard) (i := 153) (vs := []) (by decide +kernel) ll_1942 vok_mX12_yard sh_345 rfl rfl rfl rfl (Nat.le_of_ble_eq_true rfl) ?_
  refine x_CI.mono h (fun τ2 v h => ?_)
  exact L_eq (off := 100) 1184 (by decide +kernel) (by decide) h.1 h.2
set_option maxRecDepth 20000 in
theorem L_case_33 {Ln : Nat} {xs : Nat → Int32} {i : Int32} {τ : x_T} (h : x_CI 2000 mX11_thieves [.ref 0] τ (fun τ1 u => x_CI 2000 mX12_thieves [.ref 345] τ1 (fun τ2 v => u = v ∧ x_Lj Ln xs 376 1184 [(1, .ref 0), (2, .ref 345), (3, .int i)] [] (x_fu τ2)))) : x_Lj Ln xs 376 1089 [(1, .ref 0), (2, .ref 345), (3, .int i)] [] (x_fu τ) := by
  refine L_aload (k := 1) 0 (by decide +kernel) rfl ?_
  refine L_callF (μ' := mX11_thieves) (i := 154) (vs := []) (by decide +kernel) ll_1294 vok_mX11_thieves sh_0 rfl rfl rfl rfl (Nat.le_of_ble_eq_true rfl) ?_
  refine x_CI.mono h (fun τ1 u h => ?_)
  refine L_aload (k := 2) 1 (by decide +kernel) rfl ?_
  refine L_callF (μ' := mX12_thieves) (i := 157) (vs := []) (by decide +kernel) ll_1951 vok_mX12_thieves sh_345 rfl rfl rfl rfl (Nat.le_of_ble_eq_true rfl) ?_
  refine x_CI.mono h (fun τ2 v h => ?_)
  exact L_eq (off := 87) 1184 (by decide +kernel) (by decide) h.1 h.2
set_option maxRecDepth 20000 in
theorem L_case_34 {Ln : Nat} {xs : Nat → Int32} {i : Int32} {τ : x_T} (h1 : vp_in (i + 1) Ln) (h2 : vp_in (i + 2) Ln) (h : x_CI 2000 mX11_watch [.ref 0, .int (xs (i + 1).toNatClampNeg), .int (xs (i + 2).toNatClampNeg)] τ (fun τ1 u => x_CI 2000 mX12_watch [.ref 345, .int (xs (i + 1).toNatClampNeg), .int (xs (i + 2).toNatClampNeg)] τ1 (fun τ2 v => u = v ∧ x_Lj Ln xs 376 1184 [(1, .ref 0), (2, .ref 345), (3, .int i)] [] (x_fu τ2)))) : x_Lj Ln xs 376 1102 [(1, .ref 0), (2, .ref 345), (3, .int i)] [] (x_fu τ) := by
  refine L_aload (k := 1) 0 (by decide +kernel) rfl ?_
  refine L_arg (i := i) (n := 1) (v := 1) 2 (by decide +kernel) (by decide +kernel) (by decide +kernel) (by decide +kernel) (by decide +kernel) rfl (by decide) h1 ?_
  refine L_arg (i := i) (n := 2) (v := 2) 2 (by decide +kernel) (by decide +kernel) (by decide +kernel) (by decide +kernel) (by decide +kernel) rfl (by decide) h2 ?_
  refine L_callF (μ' := mX11_watch) (i := 158) (vs := [.int (xs (i + 1).toNatClampNeg), .int (xs (i + 2).toNatClampNeg)]) (by decide +kernel) ll_1303 vok_mX11_watch sh_0 rfl rfl rfl rfl (Nat.le_of_ble_eq_true rfl) ?_
  refine x_CI.mono h (fun τ1 u h => ?_)
  refine L_aload (k := 2) 1 (by decide +kernel) rfl ?_
  refine L_arg (i := i) (n := 1) (v := 1) 2 (by decide +kernel) (by decide +kernel) (by decide +kernel) (by decide +kernel) (by decide +kernel) rfl (by decide) h1 ?_
  refine L_arg (i := i) (n := 2) (v := 2) 2 (by decide +kernel) (by decide +kernel) (by decide +kernel) (by decide +kernel) (by decide +kernel) rfl (by decide) h2 ?_
  refine L_callF (μ' := mX12_watch) (i := 161) (vs := [.int (xs (i + 1).toNatClampNeg), .int (xs (i + 2).toNatClampNeg)]) (by decide +kernel) ll_1955 vok_mX12_watch sh_345 rfl rfl rfl rfl (Nat.le_of_ble_eq_true rfl) ?_
  refine x_CI.mono h (fun τ2 v h => ?_)
  exact L_eq (off := 54) 1184 (by decide +kernel) (by decide) h.1 h.2
set_option maxRecDepth 20000 in
theorem L_case_35 {Ln : Nat} {xs : Nat → Int32} {i : Int32} {τ : x_T} (h : x_CI 2000 mX11_image [.ref 0] τ (fun τ1 u => x_CI 2000 mX12_image [.ref 345] τ1 (fun τ2 v => u = v ∧ x_Lj Ln xs 376 1184 [(1, .ref 0), (2, .ref 345), (3, .int i)] [] (x_fu τ2)))) : x_Lj Ln xs 376 1135 [(1, .ref 0), (2, .ref 345), (3, .int i)] [] (x_fu τ) := by
  refine L_aload (k := 1) 0 (by decide +kernel) rfl ?_
  refine L_callF (μ' := mX11_image) (i := 162) (vs := []) (by decide +kernel) ll_1325 vok_mX11_image sh_0 rfl rfl rfl rfl (Nat.le_of_ble_eq_true rfl) ?_
  refine x_CI.mono h (fun τ1 u h => ?_)
  refine L_aload (k := 2) 1 (by decide +kernel) rfl ?_
  refine L_callF (μ' := mX12_image) (i := 165) (vs := []) (by decide +kernel) ll_1966 vok_mX12_image sh_345 rfl rfl rfl rfl (Nat.le_of_ble_eq_true rfl) ?_
  refine x_CI.mono h (fun τ2 v h => ?_)
  exact L_eq (off := 41) 1184 (by decide +kernel) (by decide) h.1 h.2
set_option maxRecDepth 20000 in
theorem L_case_36 {Ln : Nat} {xs : Nat → Int32} {i : Int32} {τ : x_T} (h : x_CI 2000 mX11_back [.ref 0] τ (fun τ1 u => x_CI 2000 mX12_back [.ref 345] τ1 (fun τ2 v => u = v ∧ x_Lj Ln xs 376 1184 [(1, .ref 0), (2, .ref 345), (3, .int i)] [] (x_fu τ2)))) : x_Lj Ln xs 376 1148 [(1, .ref 0), (2, .ref 345), (3, .int i)] [] (x_fu τ) := by
  refine L_aload (k := 1) 0 (by decide +kernel) rfl ?_
  refine L_callF (μ' := mX11_back) (i := 166) (vs := []) (by decide +kernel) ll_1343 vok_mX11_back sh_0 rfl rfl rfl rfl (Nat.le_of_ble_eq_true rfl) ?_
  refine x_CI.mono h (fun τ1 u h => ?_)
  refine L_aload (k := 2) 1 (by decide +kernel) rfl ?_
  refine L_callF (μ' := mX12_back) (i := 169) (vs := []) (by decide +kernel) ll_1970 vok_mX12_back sh_345 rfl rfl rfl rfl (Nat.le_of_ble_eq_true rfl) ?_
  refine x_CI.mono h (fun τ2 v h => ?_)
  exact L_eq (off := 28) 1184 (by decide +kernel) (by decide) h.1 h.2
set_option maxRecDepth 20000 in
theorem L_case_37 {Ln : Nat} {xs : Nat → Int32} {i : Int32} {τ : x_T} (h1 : vp_in (i + 1) Ln) (h : x_CI 2000 mX11_about [.ref 0, .int (xs (i + 1).toNatClampNeg)] τ (fun τ1 u => x_CI 2000 mX12_about [.ref 345, .int (xs (i + 1).toNatClampNeg)] τ1 (fun τ2 v => u = v ∧ x_Lj Ln xs 376 1184 [(1, .ref 0), (2, .ref 345), (3, .int i)] [] (x_fu τ2)))) : x_Lj Ln xs 376 1161 [(1, .ref 0), (2, .ref 345), (3, .int i)] [] (x_fu τ) := by
  refine L_aload (k := 1) 0 (by decide +kernel) rfl ?_
  refine L_arg (i := i) (n := 1) (v := 1) 2 (by decide +kernel) (by decide +kernel) (by decide +kernel) (by decide +kernel) (by decide +kernel) rfl (by decide) h1 ?_
  refine L_callF (μ' := mX11_about) (i := 170) (vs := [.int (xs (i + 1).toNatClampNeg)]) (by decide +kernel) ll_1347 vok_mX11_about sh_0 rfl rfl rfl rfl (Nat.le_of_ble_eq_true rfl) ?_
  refine x_CI.mono h (fun τ1 u h => ?_)
  refine L_aload (k := 2) 1 (by decide +kernel) rfl ?_
  refine L_arg (i := i) (n := 1) (v := 1) 2 (by decide +kernel) (by decide +kernel) (by decide +kernel) (by decide +kernel) (by decide +kernel) rfl (by decide) h1 ?_
  refine L_callF (μ' := mX12_about) (i := 173) (vs := [.int (xs (i + 1).toNatClampNeg)]) (by decide +kernel) ll_1974 vok_mX12_about sh_345 rfl rfl rfl rfl (Nat.le_of_ble_eq_true rfl) ?_
  refine x_CI.mono h (fun τ2 v h => ?_)
  exact L_eq (off := 5) 1184 (by decide +kernel) (by decide) h.1 h.2
end
section
/-- what each call asks: class and model answer alike, and J holds behind them -/
def x_Steps (J : x_T → Prop) (τ : x_T) : Prop := ∀ a1 a2 a3 a4 a5 : Int32,
  (x_CI 2000 mX11_house [.ref 0, .int a1] τ (fun τ1 u => x_CI 2000 mX12_house [.ref 345, .int a1] τ1 (fun τ2 v => u = v ∧ J τ2))) ∧
  (x_CI 2000 mX11_lane [.ref 0, .int a1, .int a2, .int a3] τ (fun τ1 u => x_CI 2000 mX12_lane [.ref 345, .int a1, .int a2, .int a3] τ1 (fun τ2 v => u = v ∧ J τ2))) ∧
  (x_CI 2000 mX11_pusher [.ref 0, .int a1] τ (fun τ1 u => x_CI 2000 mX12_pusher [.ref 345, .int a1] τ1 (fun τ2 v => u = v ∧ J τ2))) ∧
  (x_CI 2000 mX11_push [.ref 0, .int a1, .int a2] τ (fun τ1 u => x_CI 2000 mX12_push [.ref 345, .int a1, .int a2] τ1 (fun τ2 v => u = v ∧ J τ2))) ∧
  (x_CI 2000 mX11_tip [.ref 0] τ (fun τ1 u => x_CI 2000 mX12_tip [.ref 345] τ1 (fun τ2 v => u = v ∧ J τ2))) ∧
  (x_CI 2000 mX11_mend [.ref 0] τ (fun τ1 u => x_CI 2000 mX12_mend [.ref 345] τ1 (fun τ2 v => u = v ∧ J τ2))) ∧
  (x_CI 2000 mX11_minute [.ref 0, .int a1] τ (fun τ1 u => x_CI 2000 mX12_minute [.ref 345, .int a1] τ1 (fun τ2 v => u = v ∧ J τ2))) ∧
  (x_CI 2000 mX11_years [.ref 0, .int a1, .int a2] τ (fun τ1 u => x_CI 2000 mX12_years [.ref 345, .int a1, .int a2] τ1 (fun τ2 v => u = v ∧ J τ2))) ∧
  (x_CI 2000 mX11_feed [.ref 0, .int a1, .int a2, .int a3, .int a4, .int a5] τ (fun τ1 u => x_CI 2000 mX12_feed [.ref 345, .int a1, .int a2, .int a3, .int a4, .int a5] τ1 (fun τ2 v => u = v ∧ J τ2))) ∧
  (x_CI 2000 mX11_end [.ref 0, .int a1] τ (fun τ1 u => x_CI 2000 mX12_end [.ref 345, .int a1] τ1 (fun τ2 v => u = v ∧ J τ2))) ∧
  (x_CI 2000 mX11_text [.ref 0] τ (fun τ1 u => x_CI 2000 mX12_text [.ref 345] τ1 (fun τ2 v => u = v ∧ J τ2))) ∧
  (x_CI 2000 mX11_fault [.ref 0, .int a1] τ (fun τ1 u => x_CI 2000 mX12_fault [.ref 345, .int a1] τ1 (fun τ2 v => u = v ∧ J τ2))) ∧
  (x_CI 2000 mX11_by [.ref 0, .int a1] τ (fun τ1 u => x_CI 2000 mX12_by [.ref 345, .int a1] τ1 (fun τ2 v => u = v ∧ J τ2))) ∧
  (x_CI 2000 mX11_played [.ref 0, .int a1] τ (fun τ1 u => x_CI 2000 mX12_played [.ref 345, .int a1] τ1 (fun τ2 v => u = v ∧ J τ2))) ∧
  (x_CI 2000 mX11_undo [.ref 0] τ (fun τ1 u => x_CI 2000 mX12_undo [.ref 345] τ1 (fun τ2 v => u = v ∧ J τ2))) ∧
  (x_CI 2000 mX11_of [.ref 0, .int a1, .int a2] τ (fun τ1 u => x_CI 2000 mX12_of [.ref 345, .int a1, .int a2] τ1 (fun τ2 v => u = v ∧ J τ2))) ∧
  (x_CI 2000 mX11_two [.ref 0, .int a1, .int a2, .int a3] τ (fun τ1 u => x_CI 2000 mX12_two [.ref 345, .int a1, .int a2, .int a3] τ1 (fun τ2 v => u = v ∧ J τ2))) ∧
  (x_CI 2000 mX11_barrow [.ref 0, .int a1] τ (fun τ1 u => x_CI 2000 mX12_barrow [.ref 345, .int a1] τ1 (fun τ2 v => u = v ∧ J τ2))) ∧
  (x_CI 2000 mX11_hard [.ref 0, .int a1, .int a2, .int a3] τ (fun τ1 u => x_CI 2000 mX12_hard [.ref 345, .int a1, .int a2, .int a3] τ1 (fun τ2 v => u = v ∧ J τ2))) ∧
  (x_CI 2000 mX11_book [.ref 0, .int a1, .int a2] τ (fun τ1 u => x_CI 2000 mX12_book [.ref 345, .int a1, .int a2] τ1 (fun τ2 v => u = v ∧ J τ2))) ∧
  (x_CI 2000 mX11_foretold [.ref 0, .int a1, .int a2, .int a3] τ (fun τ1 u => x_CI 2000 mX12_foretold [.ref 345, .int a1, .int a2, .int a3] τ1 (fun τ2 v => u = v ∧ J τ2))) ∧
  (x_CI 2000 mX11_arrives [.ref 0] τ (fun τ1 u => x_CI 2000 mX12_arrives [.ref 345] τ1 (fun τ2 v => u = v ∧ J τ2))) ∧
  (x_CI 2000 mX11_want [.ref 0, .int a1, .int a2] τ (fun τ1 u => x_CI 2000 mX12_want [.ref 345, .int a1, .int a2] τ1 (fun τ2 v => u = v ∧ J τ2))) ∧
  (x_CI 2000 mX11_fitting [.ref 0] τ (fun τ1 u => x_CI 2000 mX12_fitting [.ref 345] τ1 (fun τ2 v => u = v ∧ J τ2))) ∧
  (x_CI 2000 mX11_route [.ref 0, .int a1] τ (fun τ1 u => x_CI 2000 mX12_route [.ref 345, .int a1] τ1 (fun τ2 v => u = v ∧ J τ2))) ∧
  (x_CI 2000 mX11_least [.ref 0, .int a1, .int a2, .int a3] τ (fun τ1 u => x_CI 2000 mX12_least [.ref 345, .int a1, .int a2, .int a3] τ1 (fun τ2 v => u = v ∧ J τ2))) ∧
  (x_CI 2000 mX11_winner [.ref 0] τ (fun τ1 u => x_CI 2000 mX12_winner [.ref 345] τ1 (fun τ2 v => u = v ∧ J τ2))) ∧
  (x_CI 2000 mX11_agenda [.ref 0, .int a1, .int a2] τ (fun τ1 u => x_CI 2000 mX12_agenda [.ref 345, .int a1, .int a2] τ1 (fun τ2 v => u = v ∧ J τ2))) ∧
  (x_CI 2000 mX11_weight [.ref 0, .int a1, .int a2] τ (fun τ1 u => x_CI 2000 mX12_weight [.ref 345, .int a1, .int a2] τ1 (fun τ2 v => u = v ∧ J τ2))) ∧
  (x_CI 2000 mX11_fair [.ref 0, .int a1] τ (fun τ1 u => x_CI 2000 mX12_fair [.ref 345, .int a1] τ1 (fun τ2 v => u = v ∧ J τ2))) ∧
  (x_CI 2000 mX11_feel [.ref 0, .int a1, .int a2] τ (fun τ1 u => x_CI 2000 mX12_feel [.ref 345, .int a1, .int a2] τ1 (fun τ2 v => u = v ∧ J τ2))) ∧
  (x_CI 2000 mX11_lost [.ref 0] τ (fun τ1 u => x_CI 2000 mX12_lost [.ref 345] τ1 (fun τ2 v => u = v ∧ J τ2))) ∧
  (x_CI 2000 mX11_yard [.ref 0] τ (fun τ1 u => x_CI 2000 mX12_yard [.ref 345] τ1 (fun τ2 v => u = v ∧ J τ2))) ∧
  (x_CI 2000 mX11_thieves [.ref 0] τ (fun τ1 u => x_CI 2000 mX12_thieves [.ref 345] τ1 (fun τ2 v => u = v ∧ J τ2))) ∧
  (x_CI 2000 mX11_watch [.ref 0, .int a1, .int a2] τ (fun τ1 u => x_CI 2000 mX12_watch [.ref 345, .int a1, .int a2] τ1 (fun τ2 v => u = v ∧ J τ2))) ∧
  (x_CI 2000 mX11_image [.ref 0] τ (fun τ1 u => x_CI 2000 mX12_image [.ref 345] τ1 (fun τ2 v => u = v ∧ J τ2))) ∧
  (x_CI 2000 mX11_back [.ref 0] τ (fun τ1 u => x_CI 2000 mX12_back [.ref 345] τ1 (fun τ2 v => u = v ∧ J τ2))) ∧
  (x_CI 2000 mX11_about [.ref 0, .int a1] τ (fun τ1 u => x_CI 2000 mX12_about [.ref 345, .int a1] τ1 (fun τ2 v => u = v ∧ J τ2)))
theorem d_law_33 : decode code 33 = .ok (.tableswitch 1151 0 37 #[167, 190, 233, 256, 289, 302, 315, 338, 371, 434, 457, 470, 493, 516, 539, 552, 585, 628, 651, 694, 727, 770, 783, 816, 829, 852, 895, 908, 941, 974, 997, 1030, 1043, 1056, 1069, 1102, 1115, 1128], 167) := by decide +kernel
set_option maxRecDepth 100000 in
set_option maxHeartbeats 4000000 in
theorem L_body {Ln : Nat} {xs : Nat → Int32} {i : Int32} {τ : x_T} {J : x_T → Prop} (h0 : vp_in i Ln) (h1 : vp_in (i + 1) Ln) (h2 : vp_in (i + 2) Ln) (h3 : vp_in (i + 3) Ln) (h4 : vp_in (i + 4) Ln) (h5 : vp_in (i + 5) Ln) (hs : x_Steps J τ) (hJ : J τ) (h : ∀ τ2, J τ2 → x_Lj Ln xs 376 1184 [(1, .ref 0), (2, .ref 345), (3, .int i)] [] (x_fu τ2)) : x_Lj Ln xs 376 27 [(1, .ref 0), (2, .ref 345), (3, .int i)] [] (x_fu τ) := by
  refine L_sel (i := i) 2 (by decide +kernel) (by decide +kernel) (by decide +kernel) rfl h0 ?_
  refine L_bipush (n := 63) (v := 63) (by decide +kernel) (by decide) ?_
  refine L_iand (by decide +kernel) ?_
  have hs := hs (xs (i + 1).toNatClampNeg) (xs (i + 2).toNatClampNeg) (xs (i + 3).toNatClampNeg) (xs (i + 4).toNatClampNeg) (xs (i + 5).toNatClampNeg)
  generalize xs i.toNatClampNeg &&& 63 = x
  by_cases c0 : x = 0
  · refine L_switchIn (off := 167) (tgt := 200) d_law_33 (by rw [c0]; decide) (by rw [c0]; decide) (by rw [c0]; rfl) (by decide) ?_
    exact L_case_0 h1 (x_CI.mono hs.1 (fun _ _ g => x_CI.mono g (fun _ _ g => ⟨g.1, h _ g.2⟩)))
  by_cases c1 : x = 1
  · refine L_switchIn (off := 190) (tgt := 223) d_law_33 (by rw [c1]; decide) (by rw [c1]; decide) (by rw [c1]; rfl) (by decide) ?_
    exact L_case_1 h1 h2 h3 (x_CI.mono hs.2.1 (fun _ _ g => x_CI.mono g (fun _ _ g => ⟨g.1, h _ g.2⟩)))
  by_cases c2 : x = 2
  · refine L_switchIn (off := 233) (tgt := 266) d_law_33 (by rw [c2]; decide) (by rw [c2]; decide) (by rw [c2]; rfl) (by decide) ?_
    exact L_case_2 h1 (x_CI.mono hs.2.2.1 (fun _ _ g => x_CI.mono g (fun _ _ g => ⟨g.1, h _ g.2⟩)))
  by_cases c3 : x = 3
  · refine L_switchIn (off := 256) (tgt := 289) d_law_33 (by rw [c3]; decide) (by rw [c3]; decide) (by rw [c3]; rfl) (by decide) ?_
    exact L_case_3 h1 h2 (x_CI.mono hs.2.2.2.1 (fun _ _ g => x_CI.mono g (fun _ _ g => ⟨g.1, h _ g.2⟩)))
  by_cases c4 : x = 4
  · refine L_switchIn (off := 289) (tgt := 322) d_law_33 (by rw [c4]; decide) (by rw [c4]; decide) (by rw [c4]; rfl) (by decide) ?_
    exact L_case_4  (x_CI.mono hs.2.2.2.2.1 (fun _ _ g => x_CI.mono g (fun _ _ g => ⟨g.1, h _ g.2⟩)))
  by_cases c5 : x = 5
  · refine L_switchIn (off := 302) (tgt := 335) d_law_33 (by rw [c5]; decide) (by rw [c5]; decide) (by rw [c5]; rfl) (by decide) ?_
    exact L_case_5  (x_CI.mono hs.2.2.2.2.2.1 (fun _ _ g => x_CI.mono g (fun _ _ g => ⟨g.1, h _ g.2⟩)))
  by_cases c6 : x = 6
  · refine L_switchIn (off := 315) (tgt := 348) d_law_33 (by rw [c6]; decide) (by rw [c6]; decide) (by rw [c6]; rfl) (by decide) ?_
    exact L_case_6 h1 (x_CI.mono hs.2.2.2.2.2.2.1 (fun _ _ g => x_CI.mono g (fun _ _ g => ⟨g.1, h _ g.2⟩)))
  by_cases c7 : x = 7
  · refine L_switchIn (off := 338) (tgt := 371) d_law_33 (by rw [c7]; decide) (by rw [c7]; decide) (by rw [c7]; rfl) (by decide) ?_
    exact L_case_7 h1 h2 (x_CI.mono hs.2.2.2.2.2.2.2.1 (fun _ _ g => x_CI.mono g (fun _ _ g => ⟨g.1, h _ g.2⟩)))
  by_cases c8 : x = 8
  · refine L_switchIn (off := 371) (tgt := 404) d_law_33 (by rw [c8]; decide) (by rw [c8]; decide) (by rw [c8]; rfl) (by decide) ?_
    exact L_case_8 h1 h2 h3 h4 h5 (x_CI.mono hs.2.2.2.2.2.2.2.2.1 (fun _ _ g => x_CI.mono g (fun _ _ g => ⟨g.1, h _ g.2⟩)))
  by_cases c9 : x = 9
  · refine L_switchIn (off := 434) (tgt := 467) d_law_33 (by rw [c9]; decide) (by rw [c9]; decide) (by rw [c9]; rfl) (by decide) ?_
    exact L_case_9 h1 (x_CI.mono hs.2.2.2.2.2.2.2.2.2.1 (fun _ _ g => x_CI.mono g (fun _ _ g => ⟨g.1, h _ g.2⟩)))
  by_cases c10 : x = 10
  · refine L_switchIn (off := 457) (tgt := 490) d_law_33 (by rw [c10]; decide) (by rw [c10]; decide) (by rw [c10]; rfl) (by decide) ?_
    exact L_case_10  (x_CI.mono hs.2.2.2.2.2.2.2.2.2.2.1 (fun _ _ g => x_CI.mono g (fun _ _ g => ⟨g.1, h _ g.2⟩)))
  by_cases c11 : x = 11
  · refine L_switchIn (off := 470) (tgt := 503) d_law_33 (by rw [c11]; decide) (by rw [c11]; decide) (by rw [c11]; rfl) (by decide) ?_
    exact L_case_11 h1 (x_CI.mono hs.2.2.2.2.2.2.2.2.2.2.2.1 (fun _ _ g => x_CI.mono g (fun _ _ g => ⟨g.1, h _ g.2⟩)))
  by_cases c12 : x = 12
  · refine L_switchIn (off := 493) (tgt := 526) d_law_33 (by rw [c12]; decide) (by rw [c12]; decide) (by rw [c12]; rfl) (by decide) ?_
    exact L_case_12 h1 (x_CI.mono hs.2.2.2.2.2.2.2.2.2.2.2.2.1 (fun _ _ g => x_CI.mono g (fun _ _ g => ⟨g.1, h _ g.2⟩)))
  by_cases c13 : x = 13
  · refine L_switchIn (off := 516) (tgt := 549) d_law_33 (by rw [c13]; decide) (by rw [c13]; decide) (by rw [c13]; rfl) (by decide) ?_
    exact L_case_13 h1 (x_CI.mono hs.2.2.2.2.2.2.2.2.2.2.2.2.2.1 (fun _ _ g => x_CI.mono g (fun _ _ g => ⟨g.1, h _ g.2⟩)))
  by_cases c14 : x = 14
  · refine L_switchIn (off := 539) (tgt := 572) d_law_33 (by rw [c14]; decide) (by rw [c14]; decide) (by rw [c14]; rfl) (by decide) ?_
    exact L_case_14  (x_CI.mono hs.2.2.2.2.2.2.2.2.2.2.2.2.2.2.1 (fun _ _ g => x_CI.mono g (fun _ _ g => ⟨g.1, h _ g.2⟩)))
  by_cases c15 : x = 15
  · refine L_switchIn (off := 552) (tgt := 585) d_law_33 (by rw [c15]; decide) (by rw [c15]; decide) (by rw [c15]; rfl) (by decide) ?_
    exact L_case_15 h1 h2 (x_CI.mono hs.2.2.2.2.2.2.2.2.2.2.2.2.2.2.2.1 (fun _ _ g => x_CI.mono g (fun _ _ g => ⟨g.1, h _ g.2⟩)))
  by_cases c16 : x = 16
  · refine L_switchIn (off := 585) (tgt := 618) d_law_33 (by rw [c16]; decide) (by rw [c16]; decide) (by rw [c16]; rfl) (by decide) ?_
    exact L_case_16 h1 h2 h3 (x_CI.mono hs.2.2.2.2.2.2.2.2.2.2.2.2.2.2.2.2.1 (fun _ _ g => x_CI.mono g (fun _ _ g => ⟨g.1, h _ g.2⟩)))
  by_cases c17 : x = 17
  · refine L_switchIn (off := 628) (tgt := 661) d_law_33 (by rw [c17]; decide) (by rw [c17]; decide) (by rw [c17]; rfl) (by decide) ?_
    exact L_case_17 h1 (x_CI.mono hs.2.2.2.2.2.2.2.2.2.2.2.2.2.2.2.2.2.1 (fun _ _ g => x_CI.mono g (fun _ _ g => ⟨g.1, h _ g.2⟩)))
  by_cases c18 : x = 18
  · refine L_switchIn (off := 651) (tgt := 684) d_law_33 (by rw [c18]; decide) (by rw [c18]; decide) (by rw [c18]; rfl) (by decide) ?_
    exact L_case_18 h1 h2 h3 (x_CI.mono hs.2.2.2.2.2.2.2.2.2.2.2.2.2.2.2.2.2.2.1 (fun _ _ g => x_CI.mono g (fun _ _ g => ⟨g.1, h _ g.2⟩)))
  by_cases c19 : x = 19
  · refine L_switchIn (off := 694) (tgt := 727) d_law_33 (by rw [c19]; decide) (by rw [c19]; decide) (by rw [c19]; rfl) (by decide) ?_
    exact L_case_19 h1 h2 (x_CI.mono hs.2.2.2.2.2.2.2.2.2.2.2.2.2.2.2.2.2.2.2.1 (fun _ _ g => x_CI.mono g (fun _ _ g => ⟨g.1, h _ g.2⟩)))
  by_cases c20 : x = 20
  · refine L_switchIn (off := 727) (tgt := 760) d_law_33 (by rw [c20]; decide) (by rw [c20]; decide) (by rw [c20]; rfl) (by decide) ?_
    exact L_case_20 h1 h2 h3 (x_CI.mono hs.2.2.2.2.2.2.2.2.2.2.2.2.2.2.2.2.2.2.2.2.1 (fun _ _ g => x_CI.mono g (fun _ _ g => ⟨g.1, h _ g.2⟩)))
  by_cases c21 : x = 21
  · refine L_switchIn (off := 770) (tgt := 803) d_law_33 (by rw [c21]; decide) (by rw [c21]; decide) (by rw [c21]; rfl) (by decide) ?_
    exact L_case_21  (x_CI.mono hs.2.2.2.2.2.2.2.2.2.2.2.2.2.2.2.2.2.2.2.2.2.1 (fun _ _ g => x_CI.mono g (fun _ _ g => ⟨g.1, h _ g.2⟩)))
  by_cases c22 : x = 22
  · refine L_switchIn (off := 783) (tgt := 816) d_law_33 (by rw [c22]; decide) (by rw [c22]; decide) (by rw [c22]; rfl) (by decide) ?_
    exact L_case_22 h1 h2 (x_CI.mono hs.2.2.2.2.2.2.2.2.2.2.2.2.2.2.2.2.2.2.2.2.2.2.1 (fun _ _ g => x_CI.mono g (fun _ _ g => ⟨g.1, h _ g.2⟩)))
  by_cases c23 : x = 23
  · refine L_switchIn (off := 816) (tgt := 849) d_law_33 (by rw [c23]; decide) (by rw [c23]; decide) (by rw [c23]; rfl) (by decide) ?_
    exact L_case_23  (x_CI.mono hs.2.2.2.2.2.2.2.2.2.2.2.2.2.2.2.2.2.2.2.2.2.2.2.1 (fun _ _ g => x_CI.mono g (fun _ _ g => ⟨g.1, h _ g.2⟩)))
  by_cases c24 : x = 24
  · refine L_switchIn (off := 829) (tgt := 862) d_law_33 (by rw [c24]; decide) (by rw [c24]; decide) (by rw [c24]; rfl) (by decide) ?_
    exact L_case_24 h1 (x_CI.mono hs.2.2.2.2.2.2.2.2.2.2.2.2.2.2.2.2.2.2.2.2.2.2.2.2.1 (fun _ _ g => x_CI.mono g (fun _ _ g => ⟨g.1, h _ g.2⟩)))
  by_cases c25 : x = 25
  · refine L_switchIn (off := 852) (tgt := 885) d_law_33 (by rw [c25]; decide) (by rw [c25]; decide) (by rw [c25]; rfl) (by decide) ?_
    exact L_case_25 h1 h2 h3 (x_CI.mono hs.2.2.2.2.2.2.2.2.2.2.2.2.2.2.2.2.2.2.2.2.2.2.2.2.2.1 (fun _ _ g => x_CI.mono g (fun _ _ g => ⟨g.1, h _ g.2⟩)))
  by_cases c26 : x = 26
  · refine L_switchIn (off := 895) (tgt := 928) d_law_33 (by rw [c26]; decide) (by rw [c26]; decide) (by rw [c26]; rfl) (by decide) ?_
    exact L_case_26  (x_CI.mono hs.2.2.2.2.2.2.2.2.2.2.2.2.2.2.2.2.2.2.2.2.2.2.2.2.2.2.1 (fun _ _ g => x_CI.mono g (fun _ _ g => ⟨g.1, h _ g.2⟩)))
  by_cases c27 : x = 27
  · refine L_switchIn (off := 908) (tgt := 941) d_law_33 (by rw [c27]; decide) (by rw [c27]; decide) (by rw [c27]; rfl) (by decide) ?_
    exact L_case_27 h1 h2 (x_CI.mono hs.2.2.2.2.2.2.2.2.2.2.2.2.2.2.2.2.2.2.2.2.2.2.2.2.2.2.2.1 (fun _ _ g => x_CI.mono g (fun _ _ g => ⟨g.1, h _ g.2⟩)))
  by_cases c28 : x = 28
  · refine L_switchIn (off := 941) (tgt := 974) d_law_33 (by rw [c28]; decide) (by rw [c28]; decide) (by rw [c28]; rfl) (by decide) ?_
    exact L_case_28 h1 h2 (x_CI.mono hs.2.2.2.2.2.2.2.2.2.2.2.2.2.2.2.2.2.2.2.2.2.2.2.2.2.2.2.2.1 (fun _ _ g => x_CI.mono g (fun _ _ g => ⟨g.1, h _ g.2⟩)))
  by_cases c29 : x = 29
  · refine L_switchIn (off := 974) (tgt := 1007) d_law_33 (by rw [c29]; decide) (by rw [c29]; decide) (by rw [c29]; rfl) (by decide) ?_
    exact L_case_29 h1 (x_CI.mono hs.2.2.2.2.2.2.2.2.2.2.2.2.2.2.2.2.2.2.2.2.2.2.2.2.2.2.2.2.2.1 (fun _ _ g => x_CI.mono g (fun _ _ g => ⟨g.1, h _ g.2⟩)))
  by_cases c30 : x = 30
  · refine L_switchIn (off := 997) (tgt := 1030) d_law_33 (by rw [c30]; decide) (by rw [c30]; decide) (by rw [c30]; rfl) (by decide) ?_
    exact L_case_30 h1 h2 (x_CI.mono hs.2.2.2.2.2.2.2.2.2.2.2.2.2.2.2.2.2.2.2.2.2.2.2.2.2.2.2.2.2.2.1 (fun _ _ g => x_CI.mono g (fun _ _ g => ⟨g.1, h _ g.2⟩)))
  by_cases c31 : x = 31
  · refine L_switchIn (off := 1030) (tgt := 1063) d_law_33 (by rw [c31]; decide) (by rw [c31]; decide) (by rw [c31]; rfl) (by decide) ?_
    exact L_case_31  (x_CI.mono hs.2.2.2.2.2.2.2.2.2.2.2.2.2.2.2.2.2.2.2.2.2.2.2.2.2.2.2.2.2.2.2.1 (fun _ _ g => x_CI.mono g (fun _ _ g => ⟨g.1, h _ g.2⟩)))
  by_cases c32 : x = 32
  · refine L_switchIn (off := 1043) (tgt := 1076) d_law_33 (by rw [c32]; decide) (by rw [c32]; decide) (by rw [c32]; rfl) (by decide) ?_
    exact L_case_32  (x_CI.mono hs.2.2.2.2.2.2.2.2.2.2.2.2.2.2.2.2.2.2.2.2.2.2.2.2.2.2.2.2.2.2.2.2.1 (fun _ _ g => x_CI.mono g (fun _ _ g => ⟨g.1, h _ g.2⟩)))
  by_cases c33 : x = 33
  · refine L_switchIn (off := 1056) (tgt := 1089) d_law_33 (by rw [c33]; decide) (by rw [c33]; decide) (by rw [c33]; rfl) (by decide) ?_
    exact L_case_33  (x_CI.mono hs.2.2.2.2.2.2.2.2.2.2.2.2.2.2.2.2.2.2.2.2.2.2.2.2.2.2.2.2.2.2.2.2.2.1 (fun _ _ g => x_CI.mono g (fun _ _ g => ⟨g.1, h _ g.2⟩)))
  by_cases c34 : x = 34
  · refine L_switchIn (off := 1069) (tgt := 1102) d_law_33 (by rw [c34]; decide) (by rw [c34]; decide) (by rw [c34]; rfl) (by decide) ?_
    exact L_case_34 h1 h2 (x_CI.mono hs.2.2.2.2.2.2.2.2.2.2.2.2.2.2.2.2.2.2.2.2.2.2.2.2.2.2.2.2.2.2.2.2.2.2.1 (fun _ _ g => x_CI.mono g (fun _ _ g => ⟨g.1, h _ g.2⟩)))
  by_cases c35 : x = 35
  · refine L_switchIn (off := 1102) (tgt := 1135) d_law_33 (by rw [c35]; decide) (by rw [c35]; decide) (by rw [c35]; rfl) (by decide) ?_
    exact L_case_35  (x_CI.mono hs.2.2.2.2.2.2.2.2.2.2.2.2.2.2.2.2.2.2.2.2.2.2.2.2.2.2.2.2.2.2.2.2.2.2.2.1 (fun _ _ g => x_CI.mono g (fun _ _ g => ⟨g.1, h _ g.2⟩)))
  by_cases c36 : x = 36
  · refine L_switchIn (off := 1115) (tgt := 1148) d_law_33 (by rw [c36]; decide) (by rw [c36]; decide) (by rw [c36]; rfl) (by decide) ?_
    exact L_case_36  (x_CI.mono hs.2.2.2.2.2.2.2.2.2.2.2.2.2.2.2.2.2.2.2.2.2.2.2.2.2.2.2.2.2.2.2.2.2.2.2.2.1 (fun _ _ g => x_CI.mono g (fun _ _ g => ⟨g.1, h _ g.2⟩)))
  by_cases c37 : x = 37
  · refine L_switchIn (off := 1128) (tgt := 1161) d_law_33 (by rw [c37]; decide) (by rw [c37]; decide) (by rw [c37]; rfl) (by decide) ?_
    exact L_case_37 h1 (x_CI.mono hs.2.2.2.2.2.2.2.2.2.2.2.2.2.2.2.2.2.2.2.2.2.2.2.2.2.2.2.2.2.2.2.2.2.2.2.2.2 (fun _ _ g => x_CI.mono g (fun _ _ g => ⟨g.1, h _ g.2⟩)))
  refine L_switchOut (tgt := 1184) d_law_33 (by have := x_ne (z := 0) (by decide) c0; have := x_ne (z := 1) (by decide) c1; have := x_ne (z := 2) (by decide) c2; have := x_ne (z := 3) (by decide) c3; have := x_ne (z := 4) (by decide) c4; have := x_ne (z := 5) (by decide) c5; have := x_ne (z := 6) (by decide) c6; have := x_ne (z := 7) (by decide) c7; have := x_ne (z := 8) (by decide) c8; have := x_ne (z := 9) (by decide) c9; have := x_ne (z := 10) (by decide) c10; have := x_ne (z := 11) (by decide) c11; have := x_ne (z := 12) (by decide) c12; have := x_ne (z := 13) (by decide) c13; have := x_ne (z := 14) (by decide) c14; have := x_ne (z := 15) (by decide) c15; have := x_ne (z := 16) (by decide) c16; have := x_ne (z := 17) (by decide) c17; have := x_ne (z := 18) (by decide) c18; have := x_ne (z := 19) (by decide) c19; have := x_ne (z := 20) (by decide) c20; have := x_ne (z := 21) (by decide) c21; have := x_ne (z := 22) (by decide) c22; have := x_ne (z := 23) (by decide) c23; have := x_ne (z := 24) (by decide) c24; have := x_ne (z := 25) (by decide) c25; have := x_ne (z := 26) (by decide) c26; have := x_ne (z := 27) (by decide) c27; have := x_ne (z := 28) (by decide) c28; have := x_ne (z := 29) (by decide) c29; have := x_ne (z := 30) (by decide) c30; have := x_ne (z := 31) (by decide) c31; have := x_ne (z := 32) (by decide) c32; have := x_ne (z := 33) (by decide) c33; have := x_ne (z := 34) (by decide) c34; have := x_ne (z := 35) (by decide) c35; have := x_ne (z := 36) (by decide) c36; have := x_ne (z := 37) (by decide) c37; omega) (by decide) (h τ hJ)
theorem x_i6 {k Ln : Nat} (hL : Ln ≤ 3072) (h : k + 6 ≤ Ln) (j : Nat) (hj : j < 6) : vp_in (nI k + nI j) Ln := by
  have : nI k + nI j = nI (k + j) := by
    show Int32.ofNat k + Int32.ofNat j = Int32.ofNat (k + j)
    exact (Int32.ofNat_add k j).symm
  rw [this]
  exact vp_in_nI (by omega) (by omega)
set_option maxRecDepth 20000 in
/-- THE LOOP -/
theorem L_loop {Ln : Nat} {xs : Nat → Int32} {J : x_T → Prop} (hL : Ln ≤ 3072) (hs : ∀ τ, J τ → x_Steps J τ) : ∀ (n k : Nat) (τ : x_T), J τ → Ln < k + n → k ≤ 3078 → x_Lj Ln xs 376 18 [(1, .ref 0), (2, .ref 345), (3, .int (nI k))] [] (x_fu τ) := by
  intro n
  induction n with
  | zero =>
    intro k τ hJ hn hk
    refine L_head (i := nI k) 2 (by decide +kernel) (by decide +kernel) (by decide +kernel) rfl ?_
    refine L_bipush (n := 6) (v := 6) (by decide +kernel) (by decide) ?_
    refine L_isub (by decide +kernel) ?_
    refine L_gt (off := 1166) 1190 (by decide +kernel) (by decide) (fun _ => ?_) (fun q => ?_)
    · exact L_end (by omega) x_sl376 (by decide +kernel) (by decide +kernel)
    · exfalso
      apply q
      rw [Int32.lt_iff_toInt_lt, nI_toInt (by omega)]
      have h1 : (Int32.ofNat Ln - 6).toInt = (Ln : Int) - 6 := by
        rw [Int32.toInt_sub, show (Int32.ofNat Ln).toInt = (Ln : Int) from nI_toInt (by omega)]
        show ((Ln : Int) - 6).bmod (2 ^ 32) = _
        exact Int.bmod_eq_of_le (by omega) (by omega)
      rw [h1]
      omega
  | succ n ih =>
    intro k τ hJ hn hk
    refine L_head (i := nI k) 2 (by decide +kernel) (by decide +kernel) (by decide +kernel) rfl ?_
    refine L_bipush (n := 6) (v := 6) (by decide +kernel) (by decide) ?_
    refine L_isub (by decide +kernel) ?_
    have h1 : (Int32.ofNat Ln - 6).toInt = (Ln : Int) - 6 := by
      rw [Int32.toInt_sub, show (Int32.ofNat Ln).toInt = (Ln : Int) from nI_toInt (by omega)]
      show ((Ln : Int) - 6).bmod (2 ^ 32) = _
      exact Int.bmod_eq_of_le (by omega) (by omega)
    refine L_gt (off := 1166) 1190 (by decide +kernel) (by decide) (fun _ => ?_) (fun q => ?_)
    · exact L_end (by omega) x_sl376 (by decide +kernel) (by decide +kernel)
    · have hk6 : k + 6 ≤ Ln := by
        rw [Int32.lt_iff_toInt_lt, nI_toInt (by omega), h1] at q
        omega
      refine L_body (by have := x_i6 hL hk6 0 (by omega); rw [show nI k + nI 0 = nI k by rw [nI_0]; exact Int32.add_zero _] at this; exact this) (x_i6 hL hk6 1 (by omega)) (x_i6 hL hk6 2 (by omega)) (x_i6 hL hk6 3 (by omega)) (x_i6 hL hk6 4 (by omega)) (x_i6 hL hk6 5 (by omega)) (hs τ hJ) hJ (fun τ2 hJ2 => ?_)
      refine L_iinc (i := 3) (n := 6) (v := nI (k + 6)) (L' := [(3, .int (nI (k + 6))), (1, .ref 0), (2, .ref 345)]) 2 (by decide) (by decide +kernel) rfl (by show Int32.ofNat k + Int32.ofInt 6 = Int32.ofNat (k + 6); rw [Int32.ofNat_add]; rfl) (by decide) rfl ?_
      refine L_goto (off := -1169) 18 (by decide +kernel) (by decide) ?_
      exact L_sub [1, 2, 0] rfl (ih (k + 6) τ2 hJ2 (by omega) (by omega))
end
section
theorem x_slS {c t n : Nat} (h : x_sh c = (t, n)) : x_sl (c + 1) = x_sl c + n := by show x_sl c + (x_sh c).2 = _; rw [h]
theorem x_Mt.congr {d : Nat} {μ : x_M} {N : Nat} {vs : List Value} {σ σ' : x_S} {Q : x_S → Option Value → Prop} (hw : ∀ G, x_ws G N σ = x_ws G N σ') (h : x_Mt d μ N vs σ' Q) : x_Mt d μ N vs σ Q := by
  intro l G
  have h1 := h l G
  unfold x_W at h1 ⊢
  rw [hw G]
  exact h1
def s5 (o : Nat) (σ : x_S) : x_S := (x_wr (x_nw (x_wr (x_nw σ (o + 1)) o 0 (some (o + 1))) (o + 2)) o 1 (some (o + 2)))
theorem c5 {d o : Nat} {σ : x_S} {Q : x_S → Option Value → Prop} (ho : x_sh o = (5, 3)) (h : Q (s5 o σ) none) : x_Mt (d + 1) mX5_init (o + 1) [.ref o] σ Q := by
  have b1 : x_sl (o + 2) = x_sl (o + 1) + 8 := x_slS (shd_5_1 ho)
  have b2 : x_sl (o + 3) = x_sl (o + 2) + 8 := x_slS (shd_5_2 ho)
  refine e_X5_init ho ?_
  refine ⟨(shd_5_1 ho), by (try simp only [Nat.add_assoc, Nat.reduceAdd]); omega, by (try simp only [Nat.add_assoc, Nat.reduceAdd]); omega, ?_⟩
  refine ⟨by omega, fun u e => ?_⟩
  subst e
  refine ⟨(shd_5_2 ho), by (try simp only [Nat.add_assoc, Nat.reduceAdd]); omega, by (try simp only [Nat.add_assoc, Nat.reduceAdd]); omega, ?_⟩
  refine ⟨by omega, fun u e => ?_⟩
  subst e
  exact ⟨by omega, h⟩
def s1 (o : Nat) (σ : x_S) : x_S := (x_wr (x_nw (x_wr (x_nw (x_wr (x_nw (x_wi (x_wi (x_wi (x_wi σ o 1 (-1)) o 3 (-1)) o 4 99) o 6 89) (o + 1)) o 7 (some (o + 1))) (o + 2)) o 8 (some (o + 2))) (o + 3)) o 10 (some (o + 3)))
theorem c1 {d o : Nat} {σ : x_S} {Q : x_S → Option Value → Prop} (ho : x_sh o = (1, 11)) (h : Q (s1 o σ) none) : x_Mt (d + 1) mX1_init (o + 1) [.ref o] σ Q := by
  have b1 : x_sl (o + 2) = x_sl (o + 1) + 8 := x_slS (shd_1_1 ho)
  have b2 : x_sl (o + 3) = x_sl (o + 2) + 8 := x_slS (shd_1_2 ho)
  have b3 : x_sl (o + 4) = x_sl (o + 3) + 90 := x_slS (shd_1_3 ho)
  refine e_X1_init ho ?_
  refine ⟨by omega, fun u e => ?_⟩
  subst e
  refine ⟨by omega, fun u e => ?_⟩
  subst e
  refine ⟨by omega, fun u e => ?_⟩
  subst e
  refine ⟨by omega, fun u e => ?_⟩
  subst e
  refine ⟨(shd_1_1 ho), by (try simp only [Nat.add_assoc, Nat.reduceAdd]); omega, by (try simp only [Nat.add_assoc, Nat.reduceAdd]); omega, ?_⟩
  refine ⟨by omega, fun u e => ?_⟩
  subst e
  refine ⟨(shd_1_2 ho), by (try simp only [Nat.add_assoc, Nat.reduceAdd]); omega, by (try simp only [Nat.add_assoc, Nat.reduceAdd]); omega, ?_⟩
  refine ⟨by omega, fun u e => ?_⟩
  subst e
  refine ⟨(shd_1_3 ho), by (try simp only [Nat.add_assoc, Nat.reduceAdd]); omega, by (try simp only [Nat.add_assoc, Nat.reduceAdd]); omega, ?_⟩
  refine ⟨by omega, fun u e => ?_⟩
  subst e
  exact ⟨by omega, h⟩
def s9 (o : Nat) (σ : x_S) : x_S := (x_wr (x_nw (x_wr (x_nw (x_wr (x_nw (x_wr (x_nw (x_wr (x_nw (x_wr (x_nw (x_wr (x_nw (x_wr (x_nw σ (o + 1)) o 0 (some (o + 1))) (o + 2)) o 1 (some (o + 2))) (o + 3)) o 2 (some (o + 3))) (o + 4)) o 3 (some (o + 4))) (o + 5)) o 5 (some (o + 5))) (o + 6)) o 6 (some (o + 6))) (o + 7)) o 7 (some (o + 7))) (o + 8)) o 8 (some (o + 8)))
theorem c9 {d o : Nat} {σ : x_S} {Q : x_S → Option Value → Prop} (ho : x_sh o = (9, 10)) (h : Q (s9 o σ) none) : x_Mt (d + 1) mX9_init (o + 1) [.ref o] σ Q := by
  have b1 : x_sl (o + 2) = x_sl (o + 1) + 24 := x_slS (shd_9_1 ho)
  have b2 : x_sl (o + 3) = x_sl (o + 2) + 24 := x_slS (shd_9_2 ho)
  have b3 : x_sl (o + 4) = x_sl (o + 3) + 24 := x_slS (shd_9_3 ho)
  have b4 : x_sl (o + 5) = x_sl (o + 4) + 24 := x_slS (shd_9_4 ho)
  have b5 : x_sl (o + 6) = x_sl (o + 5) + 4 := x_slS (shd_9_5 ho)
  have b6 : x_sl (o + 7) = x_sl (o + 6) + 4 := x_slS (shd_9_6 ho)
  have b7 : x_sl (o + 8) = x_sl (o + 7) + 300 := x_slS (shd_9_7 ho)
  have b8 : x_sl (o + 9) = x_sl (o + 8) + 300 := x_slS (shd_9_8 ho)
  refine e_X9_init ho ?_
  refine ⟨(shd_9_1 ho), by (try simp only [Nat.add_assoc, Nat.reduceAdd]); omega, by (try simp only [Nat.add_assoc, Nat.reduceAdd]); omega, ?_⟩
  refine ⟨by omega, fun u e => ?_⟩
  subst e
  refine ⟨(shd_9_2 ho), by (try simp only [Nat.add_assoc, Nat.reduceAdd]); omega, by (try simp only [Nat.add_assoc, Nat.reduceAdd]); omega, ?_⟩
  refine ⟨by omega, fun u e => ?_⟩
  subst e
  refine ⟨(shd_9_3 ho), by (try simp only [Nat.add_assoc, Nat.reduceAdd]); omega, by (try simp only [Nat.add_assoc, Nat.reduceAdd]); omega, ?_⟩
  refine ⟨by omega, fun u e => ?_⟩
  subst e
  refine ⟨(shd_9_4 ho), by (try simp only [Nat.add_assoc, Nat.reduceAdd]); omega, by (try simp only [Nat.add_assoc, Nat.reduceAdd]); omega, ?_⟩
  refine ⟨by omega, fun u e => ?_⟩
  subst e
  refine ⟨(shd_9_5 ho), by (try simp only [Nat.add_assoc, Nat.reduceAdd]); omega, by (try simp only [Nat.add_assoc, Nat.reduceAdd]); omega, ?_⟩
  refine ⟨by omega, fun u e => ?_⟩
  subst e
  refine ⟨(shd_9_6 ho), by (try simp only [Nat.add_assoc, Nat.reduceAdd]); omega, by (try simp only [Nat.add_assoc, Nat.reduceAdd]); omega, ?_⟩
  refine ⟨by omega, fun u e => ?_⟩
  subst e
  refine ⟨(shd_9_7 ho), by (try simp only [Nat.add_assoc, Nat.reduceAdd]); omega, by (try simp only [Nat.add_assoc, Nat.reduceAdd]); omega, ?_⟩
  refine ⟨by omega, fun u e => ?_⟩
  subst e
  refine ⟨(shd_9_8 ho), by (try simp only [Nat.add_assoc, Nat.reduceAdd]); omega, by (try simp only [Nat.add_assoc, Nat.reduceAdd]); omega, ?_⟩
  refine ⟨by omega, fun u e => ?_⟩
  subst e
  exact ⟨by omega, h⟩
def s3 (o : Nat) (σ : x_S) : x_S := (x_wr (s5 (o + 9) (x_nw (x_wr (s5 (o + 6) (x_nw (x_wr (x_nw (x_wr (x_nw (x_wr (x_nw (x_wr (x_nw (x_wr (x_nw σ (o + 1)) o 2 (some (o + 1))) (o + 2)) o 3 (some (o + 2))) (o + 3)) o 4 (some (o + 3))) (o + 4)) o 5 (some (o + 4))) (o + 5)) o 6 (some (o + 5))) (o + 6))) o 7 (some (o + 6))) (o + 9))) o 8 (some (o + 9)))
theorem c3 {d o : Nat} {σ : x_S} {Q : x_S → Option Value → Prop} (ho : x_sh o = (3, 9)) (h : Q (s3 o σ) none) : x_Mt (d + 1 + 1) mX3_init (o + 1) [.ref o] σ Q := by
  have b1 : x_sl (o + 2) = x_sl (o + 1) + 8 := x_slS (shd_3_1 ho)
  have b2 : x_sl (o + 3) = x_sl (o + 2) + 8 := x_slS (shd_3_2 ho)
  have b3 : x_sl (o + 4) = x_sl (o + 3) + 4 := x_slS (shd_3_3 ho)
  have b4 : x_sl (o + 5) = x_sl (o + 4) + 64 := x_slS (shd_3_4 ho)
  have b5 : x_sl (o + 6) = x_sl (o + 5) + 64 := x_slS (shd_3_5 ho)
  have b6 : x_sl (o + 7) = x_sl (o + 6) + 3 := x_slS (shd_3_6 ho)
  have b7 : x_sl (o + 8) = x_sl (o + 7) + 8 := x_slS (shd_5_1 (shd_3_6 ho))
  have b8 : x_sl (o + 9) = x_sl (o + 8) + 8 := x_slS (shd_5_2 (shd_3_6 ho))
  have b9 : x_sl (o + 10) = x_sl (o + 9) + 3 := x_slS (shd_3_9 ho)
  have b10 : x_sl (o + 11) = x_sl (o + 10) + 8 := x_slS (shd_5_1 (shd_3_9 ho))
  have b11 : x_sl (o + 12) = x_sl (o + 11) + 8 := x_slS (shd_5_2 (shd_3_9 ho))
  refine e_X3_init ho ?_
  refine ⟨(shd_3_1 ho), by (try simp only [Nat.add_assoc, Nat.reduceAdd]); omega, by (try simp only [Nat.add_assoc, Nat.reduceAdd]); omega, ?_⟩
  refine ⟨by omega, fun u e => ?_⟩
  subst e
  refine ⟨(shd_3_2 ho), by (try simp only [Nat.add_assoc, Nat.reduceAdd]); omega, by (try simp only [Nat.add_assoc, Nat.reduceAdd]); omega, ?_⟩
  refine ⟨by omega, fun u e => ?_⟩
  subst e
  refine ⟨(shd_3_3 ho), by (try simp only [Nat.add_assoc, Nat.reduceAdd]); omega, by (try simp only [Nat.add_assoc, Nat.reduceAdd]); omega, ?_⟩
  refine ⟨by omega, fun u e => ?_⟩
  subst e
  refine ⟨(shd_3_4 ho), by (try simp only [Nat.add_assoc, Nat.reduceAdd]); omega, by (try simp only [Nat.add_assoc, Nat.reduceAdd]); omega, ?_⟩
  refine ⟨by omega, fun u e => ?_⟩
  subst e
  refine ⟨(shd_3_5 ho), by (try simp only [Nat.add_assoc, Nat.reduceAdd]); omega, by (try simp only [Nat.add_assoc, Nat.reduceAdd]); omega, ?_⟩
  refine ⟨by omega, fun u e => ?_⟩
  subst e
  refine ⟨(shd_3_6 ho), by (try simp only [Nat.add_assoc, Nat.reduceAdd]); omega, by (try simp only [Nat.add_assoc, Nat.reduceAdd]); omega, ?_⟩
  refine ⟨by (try simp only [Nat.add_assoc, Nat.reduceAdd]); omega, by (try simp only [Nat.add_assoc, Nat.reduceAdd]); omega, by (try simp only [Nat.add_assoc, Nat.reduceAdd]); omega, c5 (d := d) (shd_3_6 ho) ⟨rfl, ?_⟩⟩
  refine ⟨by omega, fun u e => ?_⟩
  subst e
  refine ⟨(shd_3_9 ho), by (try simp only [Nat.add_assoc, Nat.reduceAdd]); omega, by (try simp only [Nat.add_assoc, Nat.reduceAdd]); omega, ?_⟩
  refine ⟨by (try simp only [Nat.add_assoc, Nat.reduceAdd]); omega, by (try simp only [Nat.add_assoc, Nat.reduceAdd]); omega, by (try simp only [Nat.add_assoc, Nat.reduceAdd]); omega, c5 (d := d) (shd_3_9 ho) ⟨rfl, ?_⟩⟩
  refine ⟨by omega, fun u e => ?_⟩
  subst e
  exact ⟨by omega, h⟩
def s8 (σ : x_S) : x_S := (x_wr (x_nw (x_wr (x_nw (x_wr (x_nw (x_wr (x_nw σ 315) 314 0 (some 315)) 316) 314 2 (some 316)) 317) 314 3 (some 317)) 318) 314 4 (some 318))
theorem c8 {d : Nat} {σ : x_S} {Q : x_S → Option Value → Prop} (h : Q (s8 σ) none) : x_Mt (d + 1) mX8_init 315 [.ref 314] σ Q := by
  refine e_X8_init (by decide +kernel) ?_
  refine ⟨(by decide +kernel), by decide +kernel, by decide +kernel, ?_⟩
  refine ⟨by omega, fun u e => ?_⟩
  subst e
  refine ⟨(by decide +kernel), by decide +kernel, by decide +kernel, ?_⟩
  refine ⟨by omega, fun u e => ?_⟩
  subst e
  refine ⟨(by decide +kernel), by decide +kernel, by decide +kernel, ?_⟩
  refine ⟨by omega, fun u e => ?_⟩
  subst e
  refine ⟨(by decide +kernel), by decide +kernel, by decide +kernel, ?_⟩
  refine ⟨by omega, fun u e => ?_⟩
  subst e
  exact ⟨rfl, h⟩
def s4 (σ : x_S) : x_S := (x_wr (x_wr (x_nw (x_wr (x_nw σ 330) 329 1 (some 330)) 331) 329 2 (some 331)) 329 0 (some 1))
theorem c4 {d : Nat} {σ : x_S} {Q : x_S → Option Value → Prop} (h : Q (s4 σ) none) : x_Mt (d + 1) mX4_init 330 [.ref 329, .ref 1] σ Q := by
  refine e_X4_init (by decide +kernel) ?_
  refine ⟨(by decide +kernel), by decide +kernel, by decide +kernel, ?_⟩
  refine ⟨by omega, fun u e => ?_⟩
  subst e
  refine ⟨(by decide +kernel), by decide +kernel, by decide +kernel, ?_⟩
  refine ⟨by omega, fun u e => ?_⟩
  subst e
  refine ⟨by omega, fun u e => ?_⟩
  subst e
  exact ⟨rfl, h⟩
def s2 (σ : x_S) : x_S := (x_wr (x_wr σ 332 0 (some 1)) 332 1 (some 329))
theorem c2 {d : Nat} {σ : x_S} {Q : x_S → Option Value → Prop} (h : Q (s2 σ) none) : x_Mt (d + 1) mX2_init 333 [.ref 332, .ref 1, .ref 329] σ Q := by
  refine e_X2_init (by decide +kernel) ?_
  refine ⟨by omega, fun u e => ?_⟩
  subst e
  refine ⟨by omega, fun u e => ?_⟩
  subst e
  exact ⟨rfl, h⟩
def s10 (σ : x_S) : x_S := (x_wr (x_wr (x_wr (x_nw (x_wr (x_nw (x_wr (x_nw (x_wr (x_nw (x_wr (x_nw σ 334) 333 2 (some 334)) 335) 333 3 (some 335)) 336) 333 6 (some 336)) 337) 333 7 (some 337)) 338) 333 8 (some 338)) 333 0 (some 1)) 333 1 (some 329))
theorem c10 {d : Nat} {σ : x_S} {Q : x_S → Option Value → Prop} (h : Q (s10 σ) none) : x_Mt (d + 1) mX10_init 334 [.ref 333, .ref 1, .ref 329] σ Q := by
  refine e_X10_init (by decide +kernel) ?_
  refine ⟨(by decide +kernel), by decide +kernel, by decide +kernel, ?_⟩
  refine ⟨by omega, fun u e => ?_⟩
  subst e
  refine ⟨(by decide +kernel), by decide +kernel, by decide +kernel, ?_⟩
  refine ⟨by omega, fun u e => ?_⟩
  subst e
  refine ⟨(by decide +kernel), by decide +kernel, by decide +kernel, ?_⟩
  refine ⟨by omega, fun u e => ?_⟩
  subst e
  refine ⟨(by decide +kernel), by decide +kernel, by decide +kernel, ?_⟩
  refine ⟨by omega, fun u e => ?_⟩
  subst e
  refine ⟨(by decide +kernel), by decide +kernel, by decide +kernel, ?_⟩
  refine ⟨by omega, fun u e => ?_⟩
  subst e
  refine ⟨by omega, fun u e => ?_⟩
  subst e
  refine ⟨by omega, fun u e => ?_⟩
  subst e
  exact ⟨rfl, h⟩
def s0 (σ : x_S) : x_S := (x_wr (x_wr (x_wr (x_nw σ 340) 339 2 (some 340)) 339 0 (some 1)) 339 1 (some 329))
theorem c0 {d : Nat} {σ : x_S} {Q : x_S → Option Value → Prop} (h : Q (s0 σ) none) : x_Mt (d + 1) mX0_init 340 [.ref 339, .ref 1, .ref 329] σ Q := by
  refine e_X0_init (by decide +kernel) ?_
  refine ⟨(by decide +kernel), by decide +kernel, by decide +kernel, ?_⟩
  refine ⟨by omega, fun u e => ?_⟩
  subst e
  refine ⟨by omega, fun u e => ?_⟩
  subst e
  refine ⟨by omega, fun u e => ?_⟩
  subst e
  exact ⟨rfl, h⟩
def s6 (σ : x_S) : x_S := (x_wr (s9 320 (x_nw (x_wr (x_wi (x_wi σ 319 4 (-1)) 319 5 (-1)) 319 0 (some 314)) 320)) 319 1 (some 320))
theorem c6 {d : Nat} {σ : x_S} {Q : x_S → Option Value → Prop} (h : Q (s6 σ) none) : x_Mt (d + 1 + 1) mX6_init 320 [.ref 319, .ref 314] σ Q := by
  refine e_X6_init (by decide +kernel) ?_
  refine ⟨by omega, fun u e => ?_⟩
  subst e
  refine ⟨by omega, fun u e => ?_⟩
  subst e
  refine ⟨by omega, fun u e => ?_⟩
  subst e
  refine ⟨(by decide +kernel), by decide +kernel, by decide +kernel, ?_⟩
  refine ⟨by decide +kernel, by decide +kernel, by decide +kernel, c9 (d := d) (by decide +kernel) ⟨rfl, ?_⟩⟩
  refine ⟨by omega, fun u e => ?_⟩
  subst e
  exact ⟨rfl, h⟩
/-- the thirty days of the steps at o -/
def s7l (o : Nat) : Nat → Nat → x_S → x_S
  | 0, _, σ => σ
  | n + 1, k, σ => s7l o n (k + 1) (x_wr (s1 (o + 2 + 4 * k) (x_nw σ (o + 2 + 4 * k))) (o + 1) k (some (o + 2 + 4 * k)))
def s7 (o : Nat) (σ : x_S) : x_S := s7l o 30 0 (x_wr (x_nw σ (o + 1)) o 0 (some (o + 1)))
theorem s1_r {o a k : Nat} {σ : x_S} (h : a < o) : (s1 o σ).2.2 a k = σ.2.2 a k := by
  simp only [s1, x_wi, x_wr, x_nw]
  simp [show ¬ a = o by omega, show ¬ a = o + 1 by omega, show ¬ a = o + 2 by omega, show ¬ a = o + 3 by omega]
theorem c7l {d o : Nat} {Q : x_S → Option Value → Prop} (ho : x_sh o = (7, 3)) (ha : x_sh (o + 1) = (24, 30)) (hsh : ∀ k, k < 30 → x_sh (o + 2 + 4 * k) = (1, 11)) (hsl : ∀ k, k ≤ 30 → x_sl (o + 2 + 4 * k) = x_sl (o + 1) + 30 + 117 * k) : ∀ (n k : Nat) (σ : x_S), n + k = 30 → σ.2.2 o 0 = some (o + 1) → Q (s7l o n k σ) none → x_Wg (d + 1 + 1) mX7_init (o + 1) Q (o + 2 + 4 * k) 15 [(0, .ref o), (1, .int (nI k))] [] σ := by
  intro n
  induction n with
  | zero =>
    intro k σ hk hr h
    have : k = 30 := by omega
    subst this
    refine k_X7_init_15 ho ⟨fun _ => ⟨by omega, h⟩, fun q => absurd (by decide) q⟩
  | succ n ih =>
    intro k σ hk hr h
    have h0 := hsh k (by omega)
    have g0 := hsl k (by omega)
    have g1 := hsl (k + 1) (by omega)
    rw [show o + 2 + 4 * (k + 1) = o + 2 + 4 * k + 4 by omega] at g1
    have b0 := x_slS h0
    have b1 := x_slS (shd_1_1 h0)
    have b2 := x_slS (shd_1_2 h0)
    have b3 := x_slS (shd_1_3 h0)
    simp only [Nat.add_assoc, Nat.reduceAdd] at b0 b1 b2 b3 g0 g1
    refine k_X7_init_15 ho ⟨fun q => absurd q (nI_ge (a := k) (b := 30) (by omega) (by decide)), fun _ => ⟨by omega, o + 1, hr, h0, by omega, by (try simp only [Nat.add_assoc, Nat.reduceAdd]); omega, by omega, by (try simp only [Nat.add_assoc, Nat.reduceAdd]); omega, by (try simp only [Nat.add_assoc, Nat.reduceAdd]); omega, ?_⟩⟩
    refine c1 h0 ⟨rfl, ha, by omega, vp_in_nI (by omega) (by decide), h0, by omega, fun u3 e3 y4 e4 => ?_⟩
    subst e3
    have e4 : y4 = nI (k + 1) := by rw [e4, nI_succ]
    subst e4
    rw [nI_clamp (by omega)]
    refine ih (k + 1) _ (by omega) ?_ h
    show (x_wr _ _ _ _).2.2 o 0 = _
    simp only [x_wr]
    rw [if_neg (by omega), s1_r (by omega)]
    simp only [x_nw]
    rw [if_neg (by omega)]
    exact hr
theorem c7 {d o : Nat} {σ : x_S} {Q : x_S → Option Value → Prop} (ho : x_sh o = (7, 3)) (hsh : ∀ k, k < 30 → x_sh (o + 2 + 4 * k) = (1, 11)) (hsl : ∀ k, k ≤ 30 → x_sl (o + 2 + 4 * k) = x_sl (o + 1) + 30 + 117 * k) (h : Q (s7 o σ) none) : x_Mt (d + 1 + 1) mX7_init (o + 1) [.ref o] σ Q := by
  refine e_X7_init ho ⟨shd_7_1 ho, by omega, by omega, by omega, fun u1 e1 => ?_⟩
  subst e1
  exact c7l ho (shd_7_1 ho) hsh hsl 30 0 _ (by omega) (by simp [x_wr]) h
theorem x_sh7a : ∀ k, k < 30 → x_sh (17 + 2 + 4 * k) = (1, 11) := by decide +kernel
theorem x_sl7a : ∀ k, k < 31 → x_sl (17 + 2 + 4 * k) = x_sl (17 + 1) + 30 + 117 * k := by decide +kernel
theorem x_sh7b : ∀ k, k < 30 → x_sh (192 + 2 + 4 * k) = (1, 11) := by decide +kernel
theorem x_sl7b : ∀ k, k < 31 → x_sl (192 + 2 + 4 * k) = x_sl (192 + 1) + 30 + 117 * k := by decide +kernel
end
section
def s11_1 (σ : x_S) : x_S := (s3 1 (x_nw σ 1))
def s11_2 (σ : x_S) : x_S := (s1 13 (x_nw (x_wr (s11_1 σ) 0 0 (some 1)) 13))
def s11_3 (σ : x_S) : x_S := (s7 17 (x_nw (x_wr (s11_2 σ) 0 1 (some 13)) 17))
def s11_4 (σ : x_S) : x_S := (x_wr (x_nw (x_wr (s11_3 σ) 0 2 (some 17)) 139) 0 3 (some 139))
def s11_5 (σ : x_S) : x_S := (s9 140 (x_nw (s11_4 σ) 140))
def s11_6 (σ : x_S) : x_S := (x_wr (s11_5 σ) 139 (0 : Int32).toNatClampNeg (some 140))
def s11_7 (σ : x_S) : x_S := (s9 149 (x_nw (s11_6 σ) 149))
def s11_8 (σ : x_S) : x_S := (x_wr (s11_7 σ) 139 (1 : Int32).toNatClampNeg (some 149))
def s11_9 (σ : x_S) : x_S := (s9 158 (x_nw (s11_8 σ) 158))
def s11_10 (σ : x_S) : x_S := (x_wr (s11_9 σ) 139 (2 : Int32).toNatClampNeg (some 158))
def s11_11 (σ : x_S) : x_S := (s9 167 (x_nw (s11_10 σ) 167))
def s11_12 (σ : x_S) : x_S := (x_wr (s11_11 σ) 139 (3 : Int32).toNatClampNeg (some 167))
def s11_13 (σ : x_S) : x_S := (s3 176 (x_nw (x_wi (x_wi (s11_12 σ) 0 4 0) 0 5 (-1)) 176))
def s11_14 (σ : x_S) : x_S := (s1 188 (x_nw (x_wr (s11_13 σ) 0 6 (some 176)) 188))
def s11_15 (σ : x_S) : x_S := (s7 192 (x_nw (x_wr (s11_14 σ) 0 7 (some 188)) 192))
def s11_16 (σ : x_S) : x_S := (s8 (x_nw (x_wi (x_wi (x_wr (s11_15 σ) 0 8 (some 192)) 0 9 0) 0 10 (-1)) 314))
def s11_17 (σ : x_S) : x_S := (s6 (x_nw (x_wr (s11_16 σ) 0 11 (some 314)) 319))
def s11_18 (σ : x_S) : x_S := (s4 (x_nw (x_wr (s11_17 σ) 0 12 (some 319)) 329))
def s11_19 (σ : x_S) : x_S := (s2 (x_nw (x_wr (s11_18 σ) 0 13 (some 329)) 332))
def s11_20 (σ : x_S) : x_S := (s10 (x_nw (x_wr (s11_19 σ) 0 14 (some 332)) 333))
def s11_21 (σ : x_S) : x_S := (s0 (x_nw (x_wr (s11_20 σ) 0 15 (some 333)) 339))
def s11_22 (σ : x_S) : x_S := (s1 341 (x_nw (x_wr (s11_21 σ) 0 16 (some 339)) 341))
def s11 (σ : x_S) : x_S := (x_wr (s11_22 σ) 0 17 (some 341))
set_option maxRecDepth 100000 in
set_option maxHeartbeats 4000000 in
theorem c11 {d : Nat} {σ : x_S} {Q : x_S → Option Value → Prop} (h : Q (s11 σ) none) : x_Mt (d + 1 + 1 + 1) mX11_init 1 [.ref 0] σ Q := by
  refine e_X11_init (by decide +kernel) ?_
  refine ⟨by decide +kernel, by decide +kernel, by decide +kernel, ?_⟩
  refine ⟨by decide +kernel, by decide +kernel, by decide +kernel, ?_⟩
  refine c3 (by decide +kernel) ⟨rfl, ?_⟩
  refine ⟨by decide +kernel, fun u e => ?_⟩
  subst e
  refine ⟨by decide +kernel, by decide +kernel, by decide +kernel, ?_⟩
  refine ⟨by decide +kernel, by decide +kernel, by decide +kernel, ?_⟩
  refine c1 (by decide +kernel) ⟨rfl, ?_⟩
  refine ⟨by decide +kernel, fun u e => ?_⟩
  subst e
  refine ⟨by decide +kernel, by decide +kernel, by decide +kernel, ?_⟩
  refine ⟨by decide +kernel, by decide +kernel, by decide +kernel, ?_⟩
  refine c7 (by decide +kernel) x_sh7a (fun k hk => x_sl7a k (by omega)) ⟨rfl, ?_⟩
  refine ⟨by decide +kernel, fun u e => ?_⟩
  subst e
  refine ⟨by decide +kernel, by decide +kernel, by decide +kernel, ?_⟩
  refine ⟨by decide +kernel, fun u e => ?_⟩
  subst e
  refine k_X11_init_47 (by decide +kernel) ⟨by decide +kernel, 139, rfl, by decide +kernel, by decide +kernel, ?_⟩
  refine ⟨fun q => absurd q (by decide), fun _ => ?_⟩
  refine ⟨by decide +kernel, 139, rfl, ?_⟩
  refine ⟨by decide +kernel, by decide +kernel, by decide +kernel, ?_⟩
  refine ⟨by decide +kernel, by decide +kernel, by decide +kernel, ?_⟩
  refine c9 (by decide +kernel) ⟨rfl, ?_⟩
  refine ⟨by decide +kernel, by decide +kernel, by unfold vp_in; decide, by decide +kernel, by decide +kernel, fun u e => ?_⟩
  subst e
  refine fun y e => ?_
  have e : y = 1 := by rw [e]; decide
  subst e
  refine k_X11_init_47 (by decide +kernel) ⟨by decide +kernel, 139, rfl, by decide +kernel, by decide +kernel, ?_⟩
  refine ⟨fun q => absurd q (by decide), fun _ => ?_⟩
  refine ⟨by decide +kernel, 139, rfl, ?_⟩
  refine ⟨by decide +kernel, by decide +kernel, by decide +kernel, ?_⟩
  refine ⟨by decide +kernel, by decide +kernel, by decide +kernel, ?_⟩
  refine c9 (by decide +kernel) ⟨rfl, ?_⟩
  refine ⟨by decide +kernel, by decide +kernel, by unfold vp_in; decide, by decide +kernel, by decide +kernel, fun u e => ?_⟩
  subst e
  refine fun y e => ?_
  have e : y = 2 := by rw [e]; decide
  subst e
  refine k_X11_init_47 (by decide +kernel) ⟨by decide +kernel, 139, rfl, by decide +kernel, by decide +kernel, ?_⟩
  refine ⟨fun q => absurd q (by decide), fun _ => ?_⟩
  refine ⟨by decide +kernel, 139, rfl, ?_⟩
  refine ⟨by decide +kernel, by decide +kernel, by decide +kernel, ?_⟩
  refine ⟨by decide +kernel, by decide +kernel, by decide +kernel, ?_⟩
  refine c9 (by decide +kernel) ⟨rfl, ?_⟩
  refine ⟨by decide +kernel, by decide +kernel, by unfold vp_in; decide, by decide +kernel, by decide +kernel, fun u e => ?_⟩
  subst e
  refine fun y e => ?_
  have e : y = 3 := by rw [e]; decide
  subst e
  refine k_X11_init_47 (by decide +kernel) ⟨by decide +kernel, 139, rfl, by decide +kernel, by decide +kernel, ?_⟩
  refine ⟨fun q => absurd q (by decide), fun _ => ?_⟩
  refine ⟨by decide +kernel, 139, rfl, ?_⟩
  refine ⟨by decide +kernel, by decide +kernel, by decide +kernel, ?_⟩
  refine ⟨by decide +kernel, by decide +kernel, by decide +kernel, ?_⟩
  refine c9 (by decide +kernel) ⟨rfl, ?_⟩
  refine ⟨by decide +kernel, by decide +kernel, by unfold vp_in; decide, by decide +kernel, by decide +kernel, fun u e => ?_⟩
  subst e
  refine fun y e => ?_
  have e : y = 4 := by rw [e]; decide
  subst e
  refine k_X11_init_47 (by decide +kernel) ⟨by decide +kernel, 139, rfl, by decide +kernel, by decide +kernel, ?_⟩
  refine ⟨fun _ => ?_, fun q => absurd (by decide) q⟩
  refine ⟨by decide +kernel, fun u e => ?_⟩
  subst e
  refine ⟨by decide +kernel, fun u e => ?_⟩
  subst e
  refine ⟨by decide +kernel, by decide +kernel, by decide +kernel, ?_⟩
  refine ⟨by decide +kernel, by decide +kernel, by decide +kernel, ?_⟩
  refine c3 (by decide +kernel) ⟨rfl, ?_⟩
  refine ⟨by decide +kernel, fun u e => ?_⟩
  subst e
  refine ⟨by decide +kernel, by decide +kernel, by decide +kernel, ?_⟩
  refine ⟨by decide +kernel, by decide +kernel, by decide +kernel, ?_⟩
  refine c1 (by decide +kernel) ⟨rfl, ?_⟩
  refine ⟨by decide +kernel, fun u e => ?_⟩
  subst e
  refine ⟨by decide +kernel, by decide +kernel, by decide +kernel, ?_⟩
  refine ⟨by decide +kernel, by decide +kernel, by decide +kernel, ?_⟩
  refine c7 (by decide +kernel) x_sh7b (fun k hk => x_sl7b k (by omega)) ⟨rfl, ?_⟩
  refine ⟨by decide +kernel, fun u e => ?_⟩
  subst e
  refine ⟨by decide +kernel, fun u e => ?_⟩
  subst e
  refine ⟨by decide +kernel, fun u e => ?_⟩
  subst e
  refine ⟨by decide +kernel, by decide +kernel, by decide +kernel, ?_⟩
  refine ⟨by decide +kernel, by decide +kernel, by decide +kernel, ?_⟩
  refine c8 ⟨rfl, ?_⟩
  refine ⟨by decide +kernel, fun u e => ?_⟩
  subst e
  refine ⟨by decide +kernel, by decide +kernel, by decide +kernel, ?_⟩
  refine ⟨by decide +kernel, 314, rfl, ?_⟩
  refine ⟨by decide +kernel, by decide +kernel, by decide +kernel, ?_⟩
  refine c6 ⟨rfl, ?_⟩
  refine ⟨by decide +kernel, fun u e => ?_⟩
  subst e
  refine ⟨by decide +kernel, by decide +kernel, by decide +kernel, ?_⟩
  refine ⟨by decide +kernel, 1, rfl, ?_⟩
  refine ⟨by decide +kernel, by decide +kernel, by decide +kernel, ?_⟩
  refine c4 ⟨rfl, ?_⟩
  refine ⟨by decide +kernel, fun u e => ?_⟩
  subst e
  refine ⟨by decide +kernel, by decide +kernel, by decide +kernel, ?_⟩
  refine ⟨by decide +kernel, 1, rfl, ?_⟩
  refine ⟨by decide +kernel, 329, rfl, ?_⟩
  refine ⟨by decide +kernel, by decide +kernel, by decide +kernel, ?_⟩
  refine c2 ⟨rfl, ?_⟩
  refine ⟨by decide +kernel, fun u e => ?_⟩
  subst e
  refine ⟨by decide +kernel, by decide +kernel, by decide +kernel, ?_⟩
  refine ⟨by decide +kernel, 1, rfl, ?_⟩
  refine ⟨by decide +kernel, 329, rfl, ?_⟩
  refine ⟨by decide +kernel, by decide +kernel, by decide +kernel, ?_⟩
  refine c10 ⟨rfl, ?_⟩
  refine ⟨by decide +kernel, fun u e => ?_⟩
  subst e
  refine ⟨by decide +kernel, by decide +kernel, by decide +kernel, ?_⟩
  refine ⟨by decide +kernel, 1, rfl, ?_⟩
  refine ⟨by decide +kernel, 329, rfl, ?_⟩
  refine ⟨by decide +kernel, by decide +kernel, by decide +kernel, ?_⟩
  refine c0 ⟨rfl, ?_⟩
  refine ⟨by decide +kernel, fun u e => ?_⟩
  subst e
  refine ⟨by decide +kernel, by decide +kernel, by decide +kernel, ?_⟩
  refine ⟨by decide +kernel, by decide +kernel, by decide +kernel, ?_⟩
  refine c1 (by decide +kernel) ⟨rfl, ?_⟩
  refine ⟨by decide +kernel, fun u e => ?_⟩
  subst e
  exact ⟨rfl, h⟩
def s12 (σ : x_S) : x_S := (x_wi (x_wi (x_wi (x_wi (x_wi (x_wi (x_wi (x_wi (x_wi (x_wi (x_wi (x_wi (x_wi (x_wr (x_nw (x_wr (x_nw (x_wr (x_nw (x_wr (x_nw (x_wr (x_nw (x_wr (x_nw (x_wr (x_nw (x_wr (x_nw (x_wr (x_nw (x_wr (x_nw (x_wr (x_nw (x_wr (x_nw (x_wr (x_nw (x_wr (x_nw (x_wr (x_nw (x_wr (x_nw (x_wr (x_nw (x_wr (x_nw (x_wr (x_nw (x_wr (x_nw (x_wr (x_nw (x_wr (x_nw (x_wr (x_nw (x_wr (x_nw (x_wr (x_nw (x_wr (x_nw (x_wr (x_nw (x_wi (x_wi (x_wr (x_nw (x_wr (x_nw (x_wr (x_nw σ 346) 345 0 (some 346)) 347) 345 1 (some 347)) 348) 345 2 (some 348)) 345 4 (-1)) 345 5 (-1)) 349) 345 6 (some 349)) 350) 345 7 (some 350)) 351) 345 8 (some 351)) 352) 345 9 (some 352)) 353) 345 10 (some 353)) 354) 345 11 (some 354)) 355) 345 12 (some 355)) 356) 345 13 (some 356)) 357) 345 23 (some 357)) 358) 345 24 (some 358)) 359) 345 26 (some 359)) 360) 345 27 (some 360)) 361) 345 29 (some 361)) 362) 345 32 (some 362)) 363) 345 33 (some 363)) 364) 345 34 (some 364)) 365) 345 35 (some 365)) 366) 345 36 (some 366)) 367) 345 38 (some 367)) 368) 345 39 (some 368)) 369) 345 40 (some 369)) 370) 345 41 (some 370)) 371) 345 42 (some 371)) 372) 345 43 (some 372)) 373) 345 44 (some 373)) 374) 345 45 (some 374)) 375) 345 46 (some 375)) 346 (3 : Int32).toNatClampNeg (-1)) 346 (131 : Int32).toNatClampNeg (-1)) 346 (133 : Int32).toNatClampNeg (-1)) 346 (134 : Int32).toNatClampNeg 99) 346 (22 + 114 : Int32).toNatClampNeg 89) 346 (22 + 0 : Int32).toNatClampNeg 1) 346 (22 + 1 : Int32).toNatClampNeg 1) 346 (22 + 2 : Int32).toNatClampNeg 1) 346 (22 + 3 : Int32).toNatClampNeg 1) 346 (22 + 4 : Int32).toNatClampNeg 1) 346 (22 + 5 : Int32).toNatClampNeg 1) 346 (22 + 6 : Int32).toNatClampNeg 1) 346 (22 + 7 : Int32).toNatClampNeg 1)
set_option maxRecDepth 100000 in
set_option maxHeartbeats 4000000 in
theorem c12 {d : Nat} {σ : x_S} {Q : x_S → Option Value → Prop} (h : x_Mt d mX12_copies 376 [.ref 345, .int 1] (s12 σ) (fun u r => r = none ∧ Q u none)) : x_Mt (d + 1) mX12_init 346 [.ref 345] σ Q := by
  refine e_X12_init (by decide +kernel) ?_
  refine ⟨by decide +kernel, by decide +kernel, by decide +kernel, ?_⟩
  refine ⟨by decide +kernel, fun u e => ?_⟩
  subst e
  refine ⟨by decide +kernel, by decide +kernel, by decide +kernel, ?_⟩
  refine ⟨by decide +kernel, fun u e => ?_⟩
  subst e
  refine ⟨by decide +kernel, by decide +kernel, by decide +kernel, ?_⟩
  refine ⟨by decide +kernel, fun u e => ?_⟩
  subst e
  refine ⟨by decide +kernel, fun u e => ?_⟩
  subst e
  refine ⟨by decide +kernel, fun u e => ?_⟩
  subst e
  refine ⟨by decide +kernel, by decide +kernel, by decide +kernel, ?_⟩
  refine ⟨by decide +kernel, fun u e => ?_⟩
  subst e
  refine ⟨by decide +kernel, by decide +kernel, by decide +kernel, ?_⟩
  refine ⟨by decide +kernel, fun u e => ?_⟩
  subst e
  refine ⟨by decide +kernel, by decide +kernel, by decide +kernel, ?_⟩
  refine ⟨by decide +kernel, fun u e => ?_⟩
  subst e
  refine ⟨by decide +kernel, by decide +kernel, by decide +kernel, ?_⟩
  refine ⟨by decide +kernel, fun u e => ?_⟩
  subst e
  refine ⟨by decide +kernel, by decide +kernel, by decide +kernel, ?_⟩
  refine ⟨by decide +kernel, fun u e => ?_⟩
  subst e
  refine ⟨by decide +kernel, by decide +kernel, by decide +kernel, ?_⟩
  refine ⟨by decide +kernel, fun u e => ?_⟩
  subst e
  refine ⟨by decide +kernel, by decide +kernel, by decide +kernel, ?_⟩
  refine ⟨by decide +kernel, fun u e => ?_⟩
  subst e
  refine ⟨by decide +kernel, by decide +kernel, by decide +kernel, ?_⟩
  refine ⟨by decide +kernel, fun u e => ?_⟩
  subst e
  refine ⟨by decide +kernel, by decide +kernel, by decide +kernel, ?_⟩
  refine ⟨by decide +kernel, fun u e => ?_⟩
  subst e
  refine ⟨by decide +kernel, by decide +kernel, by decide +kernel, ?_⟩
  refine ⟨by decide +kernel, fun u e => ?_⟩
  subst e
  refine ⟨by decide +kernel, by decide +kernel, by decide +kernel, ?_⟩
  refine ⟨by decide +kernel, fun u e => ?_⟩
  subst e
  refine ⟨by decide +kernel, by decide +kernel, by decide +kernel, ?_⟩
  refine ⟨by decide +kernel, fun u e => ?_⟩
  subst e
  refine ⟨by decide +kernel, by decide +kernel, by decide +kernel, ?_⟩
  refine ⟨by decide +kernel, fun u e => ?_⟩
  subst e
  refine ⟨by decide +kernel, by decide +kernel, by decide +kernel, ?_⟩
  refine ⟨by decide +kernel, fun u e => ?_⟩
  subst e
  refine ⟨by decide +kernel, by decide +kernel, by decide +kernel, ?_⟩
  refine ⟨by decide +kernel, fun u e => ?_⟩
  subst e
  refine ⟨by decide +kernel, by decide +kernel, by decide +kernel, ?_⟩
  refine ⟨by decide +kernel, fun u e => ?_⟩
  subst e
  refine ⟨by decide +kernel, by decide +kernel, by decide +kernel, ?_⟩
  refine ⟨by decide +kernel, fun u e => ?_⟩
  subst e
  refine ⟨by decide +kernel, by decide +kernel, by decide +kernel, ?_⟩
  refine ⟨by decide +kernel, fun u e => ?_⟩
  subst e
  refine ⟨by decide +kernel, by decide +kernel, by decide +kernel, ?_⟩
  refine ⟨by decide +kernel, fun u e => ?_⟩
  subst e
  refine ⟨by decide +kernel, by decide +kernel, by decide +kernel, ?_⟩
  refine ⟨by decide +kernel, fun u e => ?_⟩
  subst e
  refine ⟨by decide +kernel, by decide +kernel, by decide +kernel, ?_⟩
  refine ⟨by decide +kernel, fun u e => ?_⟩
  subst e
  refine ⟨by decide +kernel, by decide +kernel, by decide +kernel, ?_⟩
  refine ⟨by decide +kernel, fun u e => ?_⟩
  subst e
  refine ⟨by decide +kernel, by decide +kernel, by decide +kernel, ?_⟩
  refine ⟨by decide +kernel, fun u e => ?_⟩
  subst e
  refine ⟨by decide +kernel, by decide +kernel, by decide +kernel, ?_⟩
  refine ⟨by decide +kernel, fun u e => ?_⟩
  subst e
  refine ⟨by decide +kernel, by decide +kernel, by decide +kernel, ?_⟩
  refine ⟨by decide +kernel, fun u e => ?_⟩
  subst e
  refine ⟨by decide +kernel, by decide +kernel, by decide +kernel, ?_⟩
  refine ⟨by decide +kernel, fun u e => ?_⟩
  subst e
  refine ⟨by decide +kernel, by decide +kernel, by decide +kernel, ?_⟩
  refine ⟨by decide +kernel, fun u e => ?_⟩
  subst e
  refine ⟨by decide +kernel, 346, rfl, ?_⟩
  refine ⟨by decide +kernel, by decide +kernel, by unfold vp_in; decide, fun u e => ?_⟩
  subst e
  refine ⟨by decide +kernel, 346, rfl, ?_⟩
  refine ⟨by decide +kernel, by decide +kernel, by unfold vp_in; decide, fun u e => ?_⟩
  subst e
  refine ⟨by decide +kernel, 346, rfl, ?_⟩
  refine ⟨by decide +kernel, by decide +kernel, by unfold vp_in; decide, fun u e => ?_⟩
  subst e
  refine ⟨by decide +kernel, 346, rfl, ?_⟩
  refine ⟨by decide +kernel, by decide +kernel, by unfold vp_in; decide, fun u e => ?_⟩
  subst e
  refine ⟨by decide +kernel, 346, rfl, ?_⟩
  refine ⟨by decide +kernel, by decide +kernel, by unfold vp_in; decide, fun u e => ?_⟩
  subst e
  refine k_X12_init_308 (by decide +kernel) ?_
  refine ⟨fun q => absurd q (by decide), fun _ => ?_⟩
  refine ⟨by decide +kernel, 346, rfl, ?_⟩
  refine ⟨by decide +kernel, by decide +kernel, by unfold vp_in; decide, fun u e => ?_⟩
  subst e
  refine fun y e => ?_
  have e : y = 1 := by rw [e]; decide
  subst e
  refine k_X12_init_308 (by decide +kernel) ?_
  refine ⟨fun q => absurd q (by decide), fun _ => ?_⟩
  refine ⟨by decide +kernel, 346, rfl, ?_⟩
  refine ⟨by decide +kernel, by decide +kernel, by unfold vp_in; decide, fun u e => ?_⟩
  subst e
  refine fun y e => ?_
  have e : y = 2 := by rw [e]; decide
  subst e
  refine k_X12_init_308 (by decide +kernel) ?_
  refine ⟨fun q => absurd q (by decide), fun _ => ?_⟩
  refine ⟨by decide +kernel, 346, rfl, ?_⟩
  refine ⟨by decide +kernel, by decide +kernel, by unfold vp_in; decide, fun u e => ?_⟩
  subst e
  refine fun y e => ?_
  have e : y = 3 := by rw [e]; decide
  subst e
  refine k_X12_init_308 (by decide +kernel) ?_
  refine ⟨fun q => absurd q (by decide), fun _ => ?_⟩
  refine ⟨by decide +kernel, 346, rfl, ?_⟩
  refine ⟨by decide +kernel, by decide +kernel, by unfold vp_in; decide, fun u e => ?_⟩
  subst e
  refine fun y e => ?_
  have e : y = 4 := by rw [e]; decide
  subst e
  refine k_X12_init_308 (by decide +kernel) ?_
  refine ⟨fun q => absurd q (by decide), fun _ => ?_⟩
  refine ⟨by decide +kernel, 346, rfl, ?_⟩
  refine ⟨by decide +kernel, by decide +kernel, by unfold vp_in; decide, fun u e => ?_⟩
  subst e
  refine fun y e => ?_
  have e : y = 5 := by rw [e]; decide
  subst e
  refine k_X12_init_308 (by decide +kernel) ?_
  refine ⟨fun q => absurd q (by decide), fun _ => ?_⟩
  refine ⟨by decide +kernel, 346, rfl, ?_⟩
  refine ⟨by decide +kernel, by decide +kernel, by unfold vp_in; decide, fun u e => ?_⟩
  subst e
  refine fun y e => ?_
  have e : y = 6 := by rw [e]; decide
  subst e
  refine k_X12_init_308 (by decide +kernel) ?_
  refine ⟨fun q => absurd q (by decide), fun _ => ?_⟩
  refine ⟨by decide +kernel, 346, rfl, ?_⟩
  refine ⟨by decide +kernel, by decide +kernel, by unfold vp_in; decide, fun u e => ?_⟩
  subst e
  refine fun y e => ?_
  have e : y = 7 := by rw [e]; decide
  subst e
  refine k_X12_init_308 (by decide +kernel) ?_
  refine ⟨fun q => absurd q (by decide), fun _ => ?_⟩
  refine ⟨by decide +kernel, 346, rfl, ?_⟩
  refine ⟨by decide +kernel, by decide +kernel, by unfold vp_in; decide, fun u e => ?_⟩
  subst e
  refine fun y e => ?_
  have e : y = 8 := by rw [e]; decide
  subst e
  refine k_X12_init_308 (by decide +kernel) ?_
  refine ⟨fun _ => ?_, fun q => absurd (by decide) q⟩
  refine ⟨by decide +kernel, ?_⟩
  exact x_Mt.mono h (fun u r g => ⟨g.1, rfl, g.2⟩)
end
section
def x_s00 : x_S := (fun _ _ => 0, fun _ _ => 0, fun _ _ => none)
def x_sC : x_S := s11 (x_nw x_s00 0)
def x_sM : x_S := s12 (x_nw x_sC 345)
def x_tM : x_T := (x_sM.1, x_sM.2.1, 320, none)
/-- a slot that holds a reference -/
def x_isr (c k : Nat) : Bool := match x_sh c with
  | (20, _) => false
  | (21, _) => false
  | (22, _) => false
  | (23, _) => true
  | (24, _) => true
  | (t, _) => match x_ty t k with
    | .int => false
    | .long => false
    | _ => true
set_option maxRecDepth 100000 in
theorem x_refs : ∀ c, c < 376 → ∀ k, k < 48 → k < (x_sh c).2 → x_isr c k = true → x_sM.2.2 c k = (x_fu x_tM).2.2 c k := by decide +kernel
theorem x_Mt.congr' {d : Nat} {μ : x_M} {N : Nat} {vs : List Value} {σ σ' : x_S} {Q : x_S → Option Value → Prop} (hw : ∀ G H, x_W G N σ H → x_W G N σ' H) (h : x_Mt d μ N vs σ' Q) : x_Mt d μ N vs σ Q := by
  intro l G p e a1 a2 a3 s m args below b1 b2 b3 b4
  obtain ⟨c1, c2, c3, c4⟩ := b3
  exact h l G p e a1 a2 a3 s m args below b1 b2 ⟨c1, c2, hw G _ c3, c4⟩ b4
theorem x_arrV_congr {cA : ClassId} {n : Nat} {f g : Nat → Value} (h : ∀ j, j < n → f j = g j) : arrV cA n f = arrV cA n g := by
  unfold arrV
  congr 1
  congr 1
  funext j
  exact h j.val j.isLt
theorem x_el_oo {G : x_G} {σ : x_S} {c t n : Nat} (h : x_sh c = (t, n)) (ht : ¬ (20 ≤ t ∧ t ≤ 24)) : x_el G σ c = .inr (t, (List.range n).map (fun k => x_ad G.2.2.1 (x_av (x_ty t k) σ c k))) := by
  unfold x_el
  rw [h]
  split
  · rename_i q; have := (Prod.mk.inj q).1; omega
  · rename_i q; have := (Prod.mk.inj q).1; omega
  · rename_i q; have := (Prod.mk.inj q).1; omega
  · rename_i q; have := (Prod.mk.inj q).1; omega
  · rename_i q; have := (Prod.mk.inj q).1; omega
  · rename_i q; have q1 := (Prod.mk.inj q).1; have q2 := (Prod.mk.inj q).2; subst q1; subst q2; rfl
theorem x_isr_oo {c t n k : Nat} (h : x_sh c = (t, n)) (ht : ¬ (20 ≤ t ∧ t ≤ 24)) (h1 : ¬ x_ty t k = .int) (h2 : ¬ x_ty t k = .long) : x_isr c k = true := by
  unfold x_isr
  rw [h]
  split
  · rename_i q; have := (Prod.mk.inj q).1; omega
  · rename_i q; have := (Prod.mk.inj q).1; omega
  · rename_i q; have := (Prod.mk.inj q).1; omega
  · rfl
  · rfl
  · rename_i q; have q1 := (Prod.mk.inj q).1; subst q1
    split
    · rename_i e; exact absurd e h1
    · rename_i e; exact absurd e h2
    · rfl
theorem x_W_of {G : x_G} {N : Nat} {σ σ' : x_S} {H : Heap} (h1 : σ.1 = σ'.1) (h2 : σ.2.1 = σ'.2.1) (h3 : ∀ c, c < N → ∀ k, k < (x_sh c).2 → x_isr c k = true → σ.2.2 c k = σ'.2.2 c k) (hW : x_W G N σ H) : x_W G N σ' H := by
  intro c q hq
  obtain ⟨hc, rfl⟩ := x_ws_inv hq
  have hw := hW c _ (x_ws_at hc)
  have h3 := h3 c hc
  cases hs : x_sh c with
  | mk t n =>
    rw [hs] at h3
    by_cases ht : 20 ≤ t ∧ t ≤ 24
    · rcases (show t = 20 ∨ t = 21 ∨ t = 22 ∨ t = 23 ∨ t = 24 by omega) with rfl | rfl | rfl | rfl | rfl
      · rw [x_el_i hs] at hw ⊢; rw [← h1]; exact hw
      · rw [x_el_b hs] at hw ⊢; rw [← h1]; exact hw
      · rw [x_el_l hs] at hw ⊢; rw [← h2]; exact hw
      · rw [x_el_t hs] at hw ⊢
        have hw : H[G.2.2.1 + c]? = some (vp_cell _ _) := hw
        show H[G.2.2.1 + c]? = some (vp_cell _ _)
        rw [vp_cell_q] at hw ⊢
        rw [hw]
        congr 1
        exact x_arrV_congr (fun j hj => by rw [h3 j hj (by unfold x_isr; rw [hs]; rfl)])
      · rw [x_el_d hs] at hw ⊢
        have hw : H[G.2.2.1 + c]? = some (vp_cell _ _) := hw
        show H[G.2.2.1 + c]? = some (vp_cell _ _)
        rw [vp_cell_q] at hw ⊢
        rw [hw]
        congr 1
        exact x_arrV_congr (fun j hj => by rw [h3 j hj (by unfold x_isr; rw [hs]; rfl)])
    · rw [x_el_oo hs ht] at hw ⊢
      have : (List.range n).map (fun k => x_ad G.2.2.1 (x_av (x_ty t k) σ c k)) = (List.range n).map (fun k => x_ad G.2.2.1 (x_av (x_ty t k) σ' c k)) := by
        apply List.map_congr_left
        intro k hk
        have hk := List.mem_range.mp hk
        congr 1
        unfold x_av
        split
        · rw [h1]
        · rw [h2]
        · rename_i na nb
          rw [h3 k hk (x_isr_oo hs ht na nb)]
      rw [this] at hw
      exact hw
end
section
theorem lc_ins11 : Cond.instantiable "NoonOnABarrow" 18 ∈ x_tb := x_tb_in (List.mem_of_getElem? (i := 137) (by decide +kernel)) (by decide +kernel)
theorem lc_ini11 : Cond.initialized "NoonOnABarrow" ∈ x_tb := x_tb_in (List.mem_of_getElem? (i := 115) (by decide +kernel)) (by decide +kernel)
theorem lc_ins12 : Cond.instantiable "NoonOnABarrowModel" 47 ∈ x_tb := x_tb_in (List.mem_of_getElem? (i := 1352) (by decide +kernel)) (by decide +kernel)
theorem lc_ini12 : Cond.initialized "NoonOnABarrowModel" ∈ x_tb := x_tb_in (List.mem_of_getElem? (i := 127) (by decide +kernel)) (by decide +kernel)
theorem x_slot48 : ∀ c, c < 376 → ∀ k, k < (x_sh c).2 → x_isr c k = true → k < 48 := by
  intro c hc k hk hr
  have h1 : ∀ c, c < 376 → (20 ≤ (x_sh c).1 ∧ (x_sh c).1 ≤ 22) ∨ (x_sh c).2 ≤ 48 := by decide +kernel
  rcases h1 c hc with h | h
  · exfalso
    cases hs : x_sh c with
    | mk t n =>
      rw [hs] at h
      unfold x_isr at hr
      rw [hs] at hr
      have h : 20 ≤ t ∧ t ≤ 22 := h
      rcases (show t = 20 ∨ t = 21 ∨ t = 22 by omega) with rfl | rfl | rfl <;> exact absurd (show false = true from hr) (by decide)
  · omega
theorem x_startW (G : x_G) (H : Heap) (h : x_W G 376 x_sM H) : x_W G 376 (x_fu x_tM) H := x_W_of (σ := x_sM) rfl rfl (fun c hc k hk hr => x_refs c hc k (x_slot48 c hc k hk hr) hk hr) h
theorem x_slC : x_sl (1 + 344) = x_sl 1 + 12964 := by decide +kernel
theorem x_slM : x_sl (346 + 30) = x_sl 346 + 13004 := by decide +kernel
set_option maxRecDepth 20000 in
/-- THE LAW FROM ITS FIRST INSTRUCTION -/
theorem L_start {Ln : Nat} {xs : Nat → Int32} {J : x_T → Prop} (hL : Ln ≤ 3072) (hcp : x_CV 1999 mX12_copies [.ref 345, .int 1] x_tM J) (hs : ∀ τ, J τ → x_Steps J τ) : x_Lj Ln xs 0 0 [] [] x_s00 := by
  refine L_new (t := 11) (i := 7) (by decide +kernel) (x_tb_in (List.mem_of_getElem? (i := 136) (by decide +kernel)) (by decide +kernel)) lc_ins11 lc_ini11 (by decide +kernel) rfl (by decide) (by decide +kernel) ?_
  refine L_dup (by decide +kernel) rfl ?_
  refine L_callI (o := 0) (vs := []) (i := 9) (μ' := mX11_init) rfl (by decide +kernel) (x_tb_in (List.mem_of_getElem? (i := 138) (by decide +kernel)) (by decide +kernel)) cok_mX11_init lc_ins_mX11_init rfl rfl rfl (Nat.le_of_ble_eq_true rfl) (by decide) (by decide +kernel) x_slC ?_
  refine c11 ?_
  show x_Lj Ln xs 345 7 [] [.ref 0] x_sC
  refine L_astore (k := 1) (L' := [(1, .ref 0)]) (by decide) (by decide +kernel) rfl ?_
  refine L_new (t := 12) (i := 10) (by decide +kernel) (x_tb_in (List.mem_of_getElem? (i := 1351) (by decide +kernel)) (by decide +kernel)) lc_ins12 lc_ini12 (by decide +kernel) rfl (by decide) (by decide +kernel) ?_
  refine L_dup (by decide +kernel) rfl ?_
  refine L_callI (o := 345) (vs := []) (i := 12) (μ' := mX12_init) rfl (by decide +kernel) (x_tb_in (List.mem_of_getElem? (i := 1353) (by decide +kernel)) (by decide +kernel)) cok_mX12_init lc_ins_mX12_init rfl rfl rfl (Nat.le_of_ble_eq_true rfl) (by decide) (by decide +kernel) x_slM ?_
  refine c12 ?_
  refine x_Mt.congr' x_startW ?_
  refine x_Mt.mono hcp (fun σ v ⟨τ', e, e1, e2⟩ => ?_)
  subst e; subst e1
  refine ⟨rfl, ?_⟩
  show x_Lj Ln xs 376 15 [(1, .ref 0)] [.ref 345] (x_fu τ')
  refine L_astore (k := 2) (L' := [(2, .ref 345), (1, .ref 0)]) (by decide) (by decide +kernel) rfl ?_
  refine L_iconst (n := 0) (v := 0) (by decide +kernel) (by decide) ?_
  refine L_istore (k := 3) (L' := [(3, .int 0), (2, .ref 345), (1, .ref 0)]) (by decide) (by decide +kernel) rfl ?_
  refine L_sub [2, 1, 0] rfl ?_
  exact L_loop hL hs (Ln + 1) 0 τ' e2 (by omega) (by omega)
end
section
def x_fl : List Cond := flatC (Jvm.Cond.and given_1 narrow_1)
def x_tN : Term := .static "NoonOnABarrow" "NAMED_IN" "[I"
def x_tS (i : Nat) : Term := if i = 0 then .string "NoonOnABarrow$Tape" 59 else .string "NoonOnABarrow$Tape" 75
def x_eN (j : Nat) : Cond := Cond.eq (.elem x_tN (.int (Int32.ofNat j))) (.int (x_named.getD j 0))
def x_eW (j : Nat) : Cond := Cond.eq (.elem (.field (x_tS 0) "java/lang/String" "value" "[B") (.int (Int32.ofNat j))) (.int (x_words.getD j 0))
def x_eS (j : Nat) : Cond := Cond.eq (.elem (.field (x_tS 1) "java/lang/String" "value" "[B") (.int (Int32.ofNat j))) (.int (x_signs.getD j 0))
theorem x_flN : ∀ j, j < 32 → x_fl[12 + j]? = some (x_eN j) := by decide +kernel
theorem x_flS1 : ∀ j, j < 11 → x_fl[238 + j]? = some (x_eS j) := by decide +kernel
theorem x_flW0 : ∀ j, j < 10 → x_fl[74 + j]? = some (x_eW (0 + j)) := by decide +kernel
theorem x_flW1 : ∀ j, j < 10 → x_fl[84 + j]? = some (x_eW (10 + j)) := by decide +kernel
theorem x_flW2 : ∀ j, j < 10 → x_fl[94 + j]? = some (x_eW (20 + j)) := by decide +kernel
theorem x_flW3 : ∀ j, j < 10 → x_fl[104 + j]? = some (x_eW (30 + j)) := by decide +kernel
theorem x_flW4 : ∀ j, j < 10 → x_fl[114 + j]? = some (x_eW (40 + j)) := by decide +kernel
theorem x_flW5 : ∀ j, j < 10 → x_fl[124 + j]? = some (x_eW (50 + j)) := by decide +kernel
theorem x_flW6 : ∀ j, j < 10 → x_fl[134 + j]? = some (x_eW (60 + j)) := by decide +kernel
theorem x_flW7 : ∀ j, j < 10 → x_fl[144 + j]? = some (x_eW (70 + j)) := by decide +kernel
theorem x_flW8 : ∀ j, j < 10 → x_fl[154 + j]? = some (x_eW (80 + j)) := by decide +kernel
theorem x_flW9 : ∀ j, j < 10 → x_fl[164 + j]? = some (x_eW (90 + j)) := by decide +kernel
theorem x_flW10 : ∀ j, j < 10 → x_fl[174 + j]? = some (x_eW (100 + j)) := by decide +kernel
theorem x_flW11 : ∀ j, j < 10 → x_fl[184 + j]? = some (x_eW (110 + j)) := by decide +kernel
theorem x_flW12 : ∀ j, j < 10 → x_fl[194 + j]? = some (x_eW (120 + j)) := by decide +kernel
theorem x_flW13 : ∀ j, j < 10 → x_fl[204 + j]? = some (x_eW (130 + j)) := by decide +kernel
theorem x_flW14 : ∀ j, j < 10 → x_fl[214 + j]? = some (x_eW (140 + j)) := by decide +kernel
theorem x_flW15 : ∀ j, j < 10 → x_fl[224 + j]? = some (x_eW (150 + j)) := by decide +kernel
theorem x_flW : ∀ j, j < 160 → x_eW j ∈ x_fl := by
  intro j hj
  rcases Nat.lt_or_ge j 10 with h | h
  · have := x_flW0 (j - 0) (by omega); rw [show 0 + (j - 0) = j by omega] at this; exact List.mem_of_getElem? this
  rcases Nat.lt_or_ge j 20 with h | h
  · have := x_flW1 (j - 10) (by omega); rw [show 10 + (j - 10) = j by omega] at this; exact List.mem_of_getElem? this
  rcases Nat.lt_or_ge j 30 with h | h
  · have := x_flW2 (j - 20) (by omega); rw [show 20 + (j - 20) = j by omega] at this; exact List.mem_of_getElem? this
  rcases Nat.lt_or_ge j 40 with h | h
  · have := x_flW3 (j - 30) (by omega); rw [show 30 + (j - 30) = j by omega] at this; exact List.mem_of_getElem? this
  rcases Nat.lt_or_ge j 50 with h | h
  · have := x_flW4 (j - 40) (by omega); rw [show 40 + (j - 40) = j by omega] at this; exact List.mem_of_getElem? this
  rcases Nat.lt_or_ge j 60 with h | h
  · have := x_flW5 (j - 50) (by omega); rw [show 50 + (j - 50) = j by omega] at this; exact List.mem_of_getElem? this
  rcases Nat.lt_or_ge j 70 with h | h
  · have := x_flW6 (j - 60) (by omega); rw [show 60 + (j - 60) = j by omega] at this; exact List.mem_of_getElem? this
  rcases Nat.lt_or_ge j 80 with h | h
  · have := x_flW7 (j - 70) (by omega); rw [show 70 + (j - 70) = j by omega] at this; exact List.mem_of_getElem? this
  rcases Nat.lt_or_ge j 90 with h | h
  · have := x_flW8 (j - 80) (by omega); rw [show 80 + (j - 80) = j by omega] at this; exact List.mem_of_getElem? this
  rcases Nat.lt_or_ge j 100 with h | h
  · have := x_flW9 (j - 90) (by omega); rw [show 90 + (j - 90) = j by omega] at this; exact List.mem_of_getElem? this
  rcases Nat.lt_or_ge j 110 with h | h
  · have := x_flW10 (j - 100) (by omega); rw [show 100 + (j - 100) = j by omega] at this; exact List.mem_of_getElem? this
  rcases Nat.lt_or_ge j 120 with h | h
  · have := x_flW11 (j - 110) (by omega); rw [show 110 + (j - 110) = j by omega] at this; exact List.mem_of_getElem? this
  rcases Nat.lt_or_ge j 130 with h | h
  · have := x_flW12 (j - 120) (by omega); rw [show 120 + (j - 120) = j by omega] at this; exact List.mem_of_getElem? this
  rcases Nat.lt_or_ge j 140 with h | h
  · have := x_flW13 (j - 130) (by omega); rw [show 130 + (j - 130) = j by omega] at this; exact List.mem_of_getElem? this
  rcases Nat.lt_or_ge j 150 with h | h
  · have := x_flW14 (j - 140) (by omega); rw [show 140 + (j - 140) = j by omega] at this; exact List.mem_of_getElem? this
  rcases Nat.lt_or_ge j 160 with h | h
  · have := x_flW15 (j - 150) (by omega); rw [show 150 + (j - 150) = j by omega] at this; exact List.mem_of_getElem? this
  omega
theorem x_flE : x_fl[10]? = some (Cond.arrayOf x_tN .int) ∧ x_fl[11]? = some (Cond.eq (.length x_tN) (.int (Int32.ofNat 32))) ∧ x_fl[4]? = some (Cond.eq (.static "java/lang/String" "COMPACT_STRINGS" "Z") (.int 1)) := by decide +kernel
theorem x_flT0 : x_fl[70]? = some (Cond.exactly (x_tS 0) "java/lang/String") ∧ x_fl[71]? = some (Cond.eq (.field (x_tS 0) "java/lang/String" "coder" "B") (.int 0)) ∧ x_fl[72]? = some (Cond.arrayOf (.field (x_tS 0) "java/lang/String" "value" "[B") .byte) ∧ x_fl[73]? = some (Cond.eq (.length (.field (x_tS 0) "java/lang/String" "value" "[B")) (.int (Int32.ofNat 160))) := by decide +kernel
theorem x_flT1 : x_fl[234]? = some (Cond.exactly (x_tS 1) "java/lang/String") ∧ x_fl[235]? = some (Cond.eq (.field (x_tS 1) "java/lang/String" "coder" "B") (.int 0)) ∧ x_fl[236]? = some (Cond.arrayOf (.field (x_tS 1) "java/lang/String" "value" "[B") .byte) ∧ x_fl[237]? = some (Cond.eq (.length (.field (x_tS 1) "java/lang/String" "value" "[B")) (.int (Int32.ofNat 11))) := by decide +kernel
theorem x_flD : x_fl[249]? = some (Cond.not (Cond.eq (x_tS 0) (x_tS 1))) := by decide +kernel
end
section
theorem x_inst {t : Nat} {q : vw_C} (hc : vwCl[t]? = some q) : Cond.instantiable q.1 q.2.2 ∈ lw_tbl := by
  match t, hc with
  | 0, hc => cases hc; exact List.mem_of_getElem? (i := 475) (by decide +kernel)
  | 1, hc => cases hc; exact List.mem_of_getElem? (i := 220) (by decide +kernel)
  | 2, hc => cases hc; exact List.mem_of_getElem? (i := 424) (by decide +kernel)
  | 3, hc => cases hc; exact List.mem_of_getElem? (i := 145) (by decide +kernel)
  | 4, hc => cases hc; exact List.mem_of_getElem? (i := 401) (by decide +kernel)
  | 5, hc => cases hc; exact List.mem_of_getElem? (i := 151) (by decide +kernel)
  | 6, hc => cases hc; exact List.mem_of_getElem? (i := 372) (by decide +kernel)
  | 7, hc => cases hc; exact List.mem_of_getElem? (i := 281) (by decide +kernel)
  | 8, hc => cases hc; exact List.mem_of_getElem? (i := 346) (by decide +kernel)
  | 9, hc => cases hc; exact List.mem_of_getElem? (i := 302) (by decide +kernel)
  | 10, hc => cases hc; exact List.mem_of_getElem? (i := 437) (by decide +kernel)
  | 11, hc => cases hc; exact List.mem_of_getElem? (i := 137) (by decide +kernel)
  | 12, hc => cases hc; exact List.mem_of_getElem? (i := 1352) (by decide +kernel)
  | t + 13, hc => simp [vwCl] at hc
theorem x_nmin : ∀ q ∈ x_nm, Cond.methodLinkNest q.1 q.2.1 q.2.2.1 q.2.2.2 ∈ lw_tbl := by
  intro q hq
  simp only [x_nm, List.mem_cons, List.not_mem_nil, or_false] at hq
  rcases hq with rfl | rfl | rfl | rfl | rfl | rfl | rfl | rfl | rfl
  · exact List.mem_of_getElem? (i := 146) (by decide +kernel)
  · exact List.mem_of_getElem? (i := 152) (by decide +kernel)
  · exact List.mem_of_getElem? (i := 221) (by decide +kernel)
  · exact List.mem_of_getElem? (i := 288) (by decide +kernel)
  · exact List.mem_of_getElem? (i := 303) (by decide +kernel)
  · exact List.mem_of_getElem? (i := 347) (by decide +kernel)
  · exact List.mem_of_getElem? (i := 378) (by decide +kernel)
  · exact List.mem_of_getElem? (i := 689) (by decide +kernel)
  · exact List.mem_of_getElem? (i := 754) (by decide +kernel)
theorem x_fnin : Cond.fieldLinkNest "NoonOnABarrow$Reader" 115 "NoonOnABarrow" "NAMED_IN" "[I" "NoonOnABarrow" ∈ lw_tbl := List.mem_of_getElem? (i := 1028) (by decide +kernel)
theorem x_sr59 : Cond.stringRef "NoonOnABarrow$Tape" 59 x_wordsS ∈ lw_tbl := List.mem_of_getElem? (i := 823) (by decide +kernel)
theorem x_sr75 : Cond.stringRef "NoonOnABarrow$Tape" 75 x_signsS ∈ lw_tbl := List.mem_of_getElem? (i := 888) (by decide +kernel)
theorem x_lsN : Cond.laysStatic "NoonOnABarrow" "NAMED_IN" "[I" ∈ lw_tbl ∧ Cond.initialized "NoonOnABarrow" ∈ lw_tbl := ⟨(List.mem_of_getElem? (i := 1029) (by decide +kernel)), (List.mem_of_getElem? (i := 115) (by decide +kernel))⟩
theorem x_lsC : Cond.laysStatic "java/lang/String" "COMPACT_STRINGS" "Z" ∈ lw_tbl ∧ Cond.initialized "java/lang/String" ∈ lw_tbl := ⟨(List.mem_of_getElem? (i := 833) (by decide +kernel)), (List.mem_of_getElem? (i := 130) (by decide +kernel))⟩
theorem x_acI : Cond.arrayClass .int ∈ lw_tbl := (List.mem_of_getElem? (i := 176) (by decide +kernel))
theorem x_acB : Cond.arrayClass .byte ∈ lw_tbl := (List.mem_of_getElem? (i := 1042) (by decide +kernel))
theorem x_acJ : Cond.arrayClass .long ∈ lw_tbl := (List.mem_of_getElem? (i := 1503) (by decide +kernel))
theorem x_aoD : Cond.arrayOver (.object "NoonOnABarrow$Day") ∈ lw_tbl := (List.mem_of_getElem? (i := 287) (by decide +kernel))
theorem x_aoT : Cond.arrayOver (.object "NoonOnABarrow$Text") ∈ lw_tbl := (List.mem_of_getElem? (i := 301) (by decide +kernel))
theorem x_arr {args : Array Value} {s : State} {ty : FieldType} (hty : ∀ C, ty ≠ .object C) (h : (Cond.arrayClass ty).before args s = true) : ∃ cA : ClassId, ArrOfT s cA ty ∧ va_RA s cA ty := by
  obtain ⟨c, k, comp, h1, h2, h3⟩ := Cond.arrayClass_spec h
  refine ⟨c, fun n z => ⟨fun k h => (by cases h), k, h2, comp, h3⟩, ?_⟩
  cases ty <;> first | exact h1 | exact absurd rfl (hty _)
theorem x_arrO {args : Array Value} {s : State} {C : String} (h : (Cond.arrayOver (.object C)).before args s = true) : ∃ cA : ClassId, ArrOfT s cA (.object C) ∧ va_RA s cA (.object C) := by
  obtain ⟨comp, c, k, h1, h2, h3, h4, h5⟩ := Cond.arrayOver_spec h
  exact ⟨c, fun n z => ⟨fun k h => (by cases h), k, h3, comp, h4⟩, k, comp, h3, h4, h1, h5⟩
set_option maxRecDepth 20000 in
set_option maxHeartbeats 4000000 in
/-- THE LAW OUT OF WHAT THE CALLS DO: J holds behind the constructors, and every call keeps it and answers alike -/
theorem whole_of {J : x_T → Prop} (hcp : x_CV 1999 mX12_copies [.ref 345, .int 1] x_tM J) (hst : ∀ τ, J τ → x_Steps J τ) {p : Program} {e : Env} {s : State} {m : MethodId} {below : List Frame} {meth : Method} {c : Code} (l : Launch) {b L : Nat} {xs : Nat → Int32} (hL : L ≤ 3072) (C0 : lw_At p s m meth c b L xs) : W p l e room_1 s m #[Value.ref b] below meth c s.heap [] 0 0 (lw_Z below #[Value.ref b] s) (entryFrame m ([Value.ref b] : List Value).toArray 4) := by
  obtain ⟨hx, hb, hr, hml, hown, hts, hX, hbl, hlocks, hgv⟩ := id C0
  have hfl : ∀ w ∈ x_fl, w.before #[Value.ref b] s = true := flat_of_before _ hgv
  have hf : ∀ {k : Nat} {w : Cond}, x_fl[k]? = some w → w.before #[Value.ref b] s = true := fun h => hfl _ (List.mem_of_getElem? h)
  have hkn : ∀ t : Nat, ∃ x : ClassId × (Nat → Nat), ∀ q, vwCl[t]? = some q → u_Kn s q.1 q.2.1 q.2.2 x.1 x.2 := by
    intro t
    cases hq : vwCl[t]? with
    | none => exact ⟨(0, fun _ => 0), fun q h => by cases h⟩
    | some q =>
      obtain ⟨cC, iS, h⟩ := u_known (C := q.1) (T := q.2.1) (N := q.2.2) (n := q.2.2) hts (fun w hw => (List.mem_filter.mp (x_inX (C := q.1) (T := q.2.1) (n := q.2.2) hq w hw)).1) (hts _ (x_inst hq))
      exact ⟨(cC, iS), fun q' h' => by cases h'; exact h⟩
  obtain ⟨dd, hdd⟩ := Classical.axiomOfChoice hkn
  obtain ⟨cI, hcI⟩ := x_arr (ty := .int) (fun _ h => by cases h) (hts _ x_acI)
  obtain ⟨cB, hcB⟩ := x_arr (ty := .byte) (fun _ h => by cases h) (hts _ x_acB)
  obtain ⟨cJ, hcJ⟩ := x_arr (ty := .long) (fun _ h => by cases h) (hts _ x_acJ)
  obtain ⟨cT, hcT⟩ := x_arrO (hts _ x_aoT)
  obtain ⟨cD, hcD⟩ := x_arrO (hts _ x_aoD)
  have hA : ∀ a : Nat, a < s.heap.size → ¬ (fun q : Nat => s.heap.size ≤ q) a := fun a h => Nat.not_le.mpr h
  obtain ⟨aN, eN, hTN⟩ := va_Tof (tm := x_tN) (ty := .int) (N := 32) (f := fun j => .int (x_named.getD j 0)) (by decide) (hf x_flE.1) (va_eqt (hf x_flE.2.1)) (fun j hj => va_eqt (hf (x_flN j hj))) hA
  obtain ⟨adK, adV, hSS, hSe⟩ := vk_Sof (args := #[Value.ref b]) (s := s) (N := 2) (tm := x_tS) (len := [160, 11]) (byt := [x_words, x_signs]) (fun i hi => by match i, hi with | 0, _ => decide | 1, _ => decide) (fun i hi => by match i, hi with | 0, _ => exact hf x_flT0.1 | 1, _ => exact hf x_flT1.1) (fun i hi => by match i, hi with | 0, _ => exact hf x_flT0.2.1 | 1, _ => exact hf x_flT1.2.1) (fun i hi => by match i, hi with | 0, _ => exact hf x_flT0.2.2.1 | 1, _ => exact hf x_flT1.2.2.1) (fun i hi => by match i, hi with | 0, _ => exact hf x_flT0.2.2.2 | 1, _ => exact hf x_flT1.2.2.2)
    (fun i hi j hj => by match i, hi, hj with | 0, _, hj => exact hfl _ (x_flW j hj) | 1, _, hj => exact hf (x_flS1 j hj)) (fun i j hi hj hne => by match i, j, hi, hj, hne with | 0, 1, _, _, _ => exact Or.inl (hf x_flD) | 1, 0, _, _, _ => exact Or.inr (hf x_flD) | 0, 0, _, _, h => exact absurd rfl h | 1, 1, _, _, h => exact absurd rfl h) hA
  obtain ⟨G, hG⟩ : ∃ G : x_G, G = ((fun t => (dd t).1, fun t => (dd t).2), (fun k => match k with | 0 => cI | 1 => cB | 2 => cJ | 3 => cT | _ => cD), s.heap.size, aN, adK, adV) := ⟨_, rfl⟩
  have hK : x_K G s := by
    subst hG
    refine ⟨⟨fun c q hq => hdd c q hq, fun k q hq => ?_⟩, va_Zref (hts _ x_lsN.1) (hts _ x_lsN.2) eN hA, hTN, va_Zof (hts _ x_lsC.1) (hts _ x_lsC.2) (va_eqt (hf x_flE.2.2)) hA, hSS, vk_R.of (hts _ x_sr59) (hSe 0 (by decide)), vk_R.of (hts _ x_sr75) (hSe 1 (by decide)), fun q hq => va_Nw.of rfl (hts _ (x_nmin q hq)), va_Nw.of rfl (hts _ x_fnin), va_AO.of (hts _ x_aoT), va_AO.of (hts _ x_aoD)⟩
    match k, hq with
    | 0, hq => cases hq; exact hcI
    | 1, hq => cases hq; exact hcB
    | 2, hq => cases hq; exact hcJ
    | 3, hq => cases hq; exact hcT
    | 4, hq => cases hq; exact hcD
    | k + 5, hq => simp [x_tys] at hq
  have hsz : s.heap.size = G.2.2.1 := by subst hG; rfl
  have hl := lv_entry ([.ref b]) (n := 4) (Nat.le_of_ble_eq_true rfl)
  rw [lg_entry_eq]
  generalize (lg_sl ([.ref b]) ++ List.replicate (4 - (lg_sl ([.ref b])).length) Slot.unset).toArray = ls at hl ⊢
  exact L_start hL hcp hst p l e s m below meth c b G ⟨C0, hK, hsz⟩ s.heap [] ls (fun k q h => by unfold x_ws at h; simp at h) va_S.rf hl
end
section
theorem o_named {d : Nat} {μ : x_M} {N0 : Nat} {Q : x_S → Option Value → Prop} {N pc : Nat} {L : List (Nat × Value)} {st : List Value} {σ : x_S} {k : Fin 4} {x : Int32} (j : Nat) (hcl : μ.1.cls = "NoonOnABarrow$Reader") (d1 : decode μ.2.1 pc = .ok (.getstatic 115, 3)) (d2 : decode μ.2.1 (pc + 3) = .ok (.iload_n k, 1)) (d3 : decode μ.2.1 (pc + 3 + 1) = .ok (.iaload, 1)) (hL : L[j]? = some ((k : Nat), .int x)) (hi : vp_in x 32) (h : x_Wg d μ N0 Q N (pc + 3 + 1 + 1) L (.int (x_named.getD x.toNatClampNeg 0) :: st) σ) : x_Wg d μ N0 Q N pc L st σ := by
  intro l G p e s m args below meth c C h0 h1 h2 H locs ls hW hS hl
  have hz := C.2.2.2.2.2.2.2.2.1.2
  refine va_getsN C.1 C.2.1 hz.1 hS (own := "NoonOnABarrow$Reader") (ref := "NoonOnABarrow") (host := "NoonOnABarrow") (by rw [← hcl]; exact C.2.2.2.2.1) (va_Nw.use rfl hz.2.2.2.2.2.2.2.1) (fun _ h => h) d1 ?_
  refine lv_iload_n (i := k) (x := x) C.1 C.2.1 d2 rfl (x_lat hl hL) ?_
  exact va_ti C.1 C.2.1 hz.2.1 hS hi rfl d3 (h l G p e s m args below meth c C h0 h1 h2 H locs ls hW hS hl)
set_option maxRecDepth 20000 in
theorem e_X6_readName {d : Nat} {K : x_T → Prop}  {τ : x_T} (h : x_CI d mX8_kindAt [.ref 314, .int (τ.1 319 2)] τ (fun t1 a2 => (a2 < 0 → x_WV (d + 1) mX6_readName K 30 [(0, .ref 319), (1, .int a2)] [] t1) ∧ (¬ a2 < 0 → (32 ≤ a2 → x_WV (d + 1) mX6_readName K 30 [(0, .ref 319), (1, .int a2)] [] t1) ∧ (¬ 32 ≤ a2 → vp_in a2 32 ∧ (x_WV (d + 1) mX6_readName K 31 [(0, .ref 319), (1, .int a2)] [.int (x_named.getD a2.toNatClampNeg 0)] t1))))) : x_CV (d + 1) mX6_readName [.ref 319] τ K := by
  refine x_CV_of (by decide) (Nat.le_of_ble_eq_true rfl) ?_
  show x_WV (d + 1) mX6_readName K 0 [(0, .ref 319)] [] τ
  refine o_aload_n (k := 0) 0 (by decide +kernel) rfl ?_
  refine f_getR (r := 314) (t := 6) (k := 0) (i := 18) (by decide +kernel) sh_319 rfl (by decide) lk_379 (by simp [x_ty, tyX6]) (gr_6_0 sh_319) ?_
  refine o_aload_n (k := 0) 0 (by decide +kernel) rfl ?_
  refine f_getI (t := 6) (k := 2) (i := 29) (by decide +kernel) sh_319 rfl (by decide) lk_381 rfl ?_
  refine f_callVI (μ' := mX8_kindAt) (i := 40) (vs := [.int (τ.1 319 2)]) (by decide +kernel) lk_944 (vok_mX8_kindAt) sh_314 rfl rfl rfl rfl (Nat.le_of_ble_eq_true rfl) ?_
  refine x_CI.mono h (fun t1 a2 h => ?_)
  refine o_istore_n (k := 1) (L' := [(1, .int a2), (0, .ref 319)]) (by decide +kernel) (by decide) rfl ?_
  refine o_iload_n (k := 1) 0 (by decide +kernel) rfl ?_
  refine o_if_lt (off := 17) 30 (by decide +kernel) (by decide) (fun q => ?_) (fun q => ?_)
  · replace h := h.1 q
    refine o_sub [1, 0] rfl ?_
    exact h
  · replace h := h.2 q
    refine o_iload_n (k := 1) 0 (by decide +kernel) rfl ?_
    refine o_bipush (n := 32) (v := 32) (by decide +kernel) (by decide) ?_
    refine o_icmp_ge (off := 11) 30 (by decide +kernel) (by decide) (fun q => ?_) (fun q => ?_)
    · replace h := h.1 q
      refine o_sub [1, 0] rfl ?_
      exact h
    · replace h := h.2 q
      obtain ⟨hi, h⟩ := h
      refine o_named (k := 1) 0 rfl (by decide +kernel) (by decide +kernel) (by decide +kernel) rfl hi ?_
      refine o_goto (off := 4) 31 (by decide +kernel) (by decide) ?_
      refine o_sub [1, 0] rfl ?_
      exact h
set_option maxRecDepth 20000 in
theorem k_X6_readName_30 {d : Nat} {K : x_T → Prop} {v1 : Int32} {τ : x_T} (h : x_WV (d + 1) mX6_readName K 31 [(0, .ref 319), (1, .int v1)] [.int 0] τ) : x_WV (d + 1) mX6_readName K 30 [(0, .ref 319), (1, .int v1)] [] τ := by
  refine o_iconst (n := 0) (v := 0) (by decide +kernel) (by decide) ?_
  exact h
set_option maxRecDepth 20000 in
theorem k_X6_readName_31 {d : Nat} {K : x_T → Prop} {v1 : Int32} {s0 : Int32} {τ : x_T} (h : (¬ s0 = 0 → (¬ (s0 >>> ((τ.1 319 3) &&& 31)) &&& 1 = 0 → x_sh τ.2.2.1 = (9, 10) ∧ (x_CI d mX9_ask [.ref τ.2.2.1, .int 48, .int v1] τ (fun t2 a3 => ∀ t4, t4 = x_w1 t2 319 2 ((t2.1 319 2) + 1) → (K t4)))) ∧ ((s0 >>> ((τ.1 319 3) &&& 31)) &&& 1 = 0 → x_CV d mX6_refuse [.ref 319, .int 5] τ (fun t5 => K t5))) ∧ (s0 = 0 → x_CV d mX6_refuse [.ref 319, .int 1] τ (fun t7 => K t7))) : x_WV (d + 1) mX6_readName K 31 [(0, .ref 319), (1, .int v1)] [.int s0] τ := by
  refine o_istore_n (k := 2) (L' := [(2, .int s0), (0, .ref 319), (1, .int v1)]) (by decide +kernel) (by decide) rfl ?_
  refine o_iload_n (k := 2) 0 (by decide +kernel) rfl ?_
  refine o_if_ne (off := 11) 44 (by decide +kernel) (by decide) (fun q => ?_) (fun q => ?_)
  · replace h := h.1 q
    refine o_iload_n (k := 2) 0 (by decide +kernel) rfl ?_
    refine o_aload_n (k := 0) 1 (by decide +kernel) rfl ?_
    refine f_getI (t := 6) (k := 3) (i := 70) (by decide +kernel) sh_319 rfl (by decide) lk_382 rfl ?_
    refine o_ishr (by decide +kernel) ?_
    refine o_iconst (n := 1) (v := 1) (by decide +kernel) (by decide) ?_
    refine o_iand (by decide +kernel) ?_
    refine o_if_ne (off := 11) 63 (by decide +kernel) (by decide) (fun q => ?_) (fun q => ?_)
    · replace h := h.1 q
      refine o_aload_n (k := 0) 1 (by decide +kernel) rfl ?_
      obtain ⟨hsc1, h⟩ := h
      refine f_getR (r := τ.2.2.1) (t := 6) (k := 1) (i := 25) (by decide +kernel) sh_319 rfl (by decide) lk_380 (by simp [x_ty, tyX6]) rfl ?_
      refine o_bipush (n := 48) (v := 48) (by decide +kernel) (by decide) ?_
      refine o_iload_n (k := 1) 2 (by decide +kernel) rfl ?_
      refine f_callVI (μ' := mX9_ask) (i := 97) (vs := [.int 48, .int v1]) (by decide +kernel) lk_985 (vok_mX9_ask) hsc1 rfl rfl rfl rfl (Nat.le_of_ble_eq_true rfl) ?_
      refine x_CI.mono h (fun t2 a3 h => ?_)
      refine o_pop (by decide +kernel) rfl ?_
      refine o_aload_n (k := 0) 1 (by decide +kernel) rfl ?_
      refine o_dup (by decide +kernel) rfl ?_
      refine f_getI (t := 6) (k := 2) (i := 29) (by decide +kernel) sh_319 rfl (by decide) lk_381 rfl ?_
      refine o_iconst (n := 1) (v := 1) (by decide +kernel) (by decide) ?_
      refine o_iadd (by decide +kernel) ?_
      refine f_putI (t := 6) (k := 2) (i := 29) (by decide +kernel) sh_319 rfl (by decide) lk_381 rfl rfl ?_
      refine f_name (fun t4 et4 => ?_)
      replace h := h t4 et4
      exact f_vret rfl (by decide +kernel) rfl h
    · replace h := h.2 q
      refine o_aload_n (k := 0) 1 (by decide +kernel) rfl ?_
      refine o_iconst (n := 5) (v := 5) (by decide +kernel) (by decide) ?_
      refine f_callVV (μ' := mX6_refuse) (i := 54) (vs := [.int 5]) (by decide +kernel) lk_952 (vok_mX6_refuse) sh_319 rfl rfl rfl rfl (Nat.le_of_ble_eq_true rfl) ?_
      refine x_CV.mono h (fun t5 h => ?_)
      refine o_goto (off := 24) 84 (by decide +kernel) (by decide) ?_
      exact f_vret rfl (by decide +kernel) rfl h
  · replace h := h.2 q
    refine o_aload_n (k := 0) 1 (by decide +kernel) rfl ?_
    refine o_iconst (n := 1) (v := 1) (by decide +kernel) (by decide) ?_
    refine f_callVV (μ' := mX6_refuse) (i := 54) (vs := [.int 1]) (by decide +kernel) lk_952 (vok_mX6_refuse) sh_319 rfl rfl rfl rfl (Nat.le_of_ble_eq_true rfl) ?_
    refine x_CV.mono h (fun t7 h => ?_)
    refine o_goto (off := 43) 84 (by decide +kernel) (by decide) ?_
    exact f_vret rfl (by decide +kernel) rfl h
end
