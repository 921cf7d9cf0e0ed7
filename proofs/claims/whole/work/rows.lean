section
/-- a private method of a class that the tables say can be made, by its rows of tables_1 -/
def lw_okq (q : MethodName × Nat) : Prop := (q.1.cls ≠ "java/lang/invoke/MethodHandle" ∧ q.1.cls ≠ "java/lang/invoke/VarHandle") ∧ Cond.instantiable q.1.cls q.2 ∈ tables_1 ∧ Cond.privateMethod q.1 ∈ tables_1 ∧ Cond.instanceMethod q.1 ∈ tables_1
theorem lw_p0 : lw_okq (⟨"SmokeSeats", "firstTaking", "(I)I"⟩, 9) := ⟨⟨by decide +kernel, by decide +kernel⟩, List.mem_of_getElem? (i := 17) (by decide +kernel), List.mem_of_getElem? (i := 551) (by decide +kernel), List.mem_of_getElem? (i := 552) (by decide +kernel)⟩
theorem lw_p1 : lw_okq (⟨"SmokeSeats", "sitThere", "(III)V"⟩, 9) := ⟨⟨by decide +kernel, by decide +kernel⟩, List.mem_of_getElem? (i := 17) (by decide +kernel), List.mem_of_getElem? (i := 572) (by decide +kernel), List.mem_of_getElem? (i := 573) (by decide +kernel)⟩
theorem lw_p2 : lw_okq (⟨"SmokeSeats", "isEnoughThere", "(IIII)Z"⟩, 9) := ⟨⟨by decide +kernel, by decide +kernel⟩, List.mem_of_getElem? (i := 17) (by decide +kernel), List.mem_of_getElem? (i := 580) (by decide +kernel), List.mem_of_getElem? (i := 581) (by decide +kernel)⟩
theorem lw_p3 : lw_okq (⟨"SmokeSeats", "heldIfSwapped", "(III)I"⟩, 9) := ⟨⟨by decide +kernel, by decide +kernel⟩, List.mem_of_getElem? (i := 17) (by decide +kernel), List.mem_of_getElem? (i := 596) (by decide +kernel), List.mem_of_getElem? (i := 597) (by decide +kernel)⟩
theorem lw_p4 : lw_okq (⟨"SmokeSeats", "heldIfBlown", "(IIII)I"⟩, 9) := ⟨⟨by decide +kernel, by decide +kernel⟩, List.mem_of_getElem? (i := 17) (by decide +kernel), List.mem_of_getElem? (i := 604) (by decide +kernel), List.mem_of_getElem? (i := 605) (by decide +kernel)⟩
theorem lw_p5 : lw_okq (⟨"SmokeSeats", "areOdds", "(IIII)Z"⟩, 9) := ⟨⟨by decide +kernel, by decide +kernel⟩, List.mem_of_getElem? (i := 17) (by decide +kernel), List.mem_of_getElem? (i := 612) (by decide +kernel), List.mem_of_getElem? (i := 613) (by decide +kernel)⟩
theorem lw_p6 : lw_okq (⟨"SmokeSeats$Odds", "weightBehind", "(I)J"⟩, 7) := ⟨⟨by decide +kernel, by decide +kernel⟩, List.mem_of_getElem? (i := 165) (by decide +kernel), List.mem_of_getElem? (i := 622) (by decide +kernel), List.mem_of_getElem? (i := 623) (by decide +kernel)⟩
theorem lw_p7 : lw_okq (⟨"SmokeSeats$Odds", "weightOfAirs", "(I)J"⟩, 7) := ⟨⟨by decide +kernel, by decide +kernel⟩, List.mem_of_getElem? (i := 165) (by decide +kernel), List.mem_of_getElem? (i := 633) (by decide +kernel), List.mem_of_getElem? (i := 634) (by decide +kernel)⟩
theorem lw_p8 : lw_okq (⟨"SmokeSeats$Odds", "weightBy", "(II)J"⟩, 7) := ⟨⟨by decide +kernel, by decide +kernel⟩, List.mem_of_getElem? (i := 165) (by decide +kernel), List.mem_of_getElem? (i := 638) (by decide +kernel), List.mem_of_getElem? (i := 639) (by decide +kernel)⟩
theorem lw_p9 : lw_okq (⟨"SmokeSeats", "isFrom", "(III)Z"⟩, 9) := ⟨⟨by decide +kernel, by decide +kernel⟩, List.mem_of_getElem? (i := 17) (by decide +kernel), List.mem_of_getElem? (i := 691) (by decide +kernel), List.mem_of_getElem? (i := 692) (by decide +kernel)⟩
theorem lw_p10 : lw_okq (⟨"SmokeSeats", "gatherAnswers", "(I)I"⟩, 9) := ⟨⟨by decide +kernel, by decide +kernel⟩, List.mem_of_getElem? (i := 17) (by decide +kernel), List.mem_of_getElem? (i := 699) (by decide +kernel), List.mem_of_getElem? (i := 700) (by decide +kernel)⟩
theorem lw_p11 : lw_okq (⟨"SmokeSeats", "mostAlike", "(II)I"⟩, 9) := ⟨⟨by decide +kernel, by decide +kernel⟩, List.mem_of_getElem? (i := 17) (by decide +kernel), List.mem_of_getElem? (i := 703) (by decide +kernel), List.mem_of_getElem? (i := 704) (by decide +kernel)⟩
theorem lw_p12 : lw_okq (⟨"SmokeSeats", "isRefused", "(LSmokeSeats$Sheet;II)Z"⟩, 9) := ⟨⟨by decide +kernel, by decide +kernel⟩, List.mem_of_getElem? (i := 17) (by decide +kernel), List.mem_of_getElem? (i := 767) (by decide +kernel), List.mem_of_getElem? (i := 768) (by decide +kernel)⟩
theorem lw_p13 : lw_okq (⟨"SmokeSeatsModel", "firstDraft", "()V"⟩, 28) := ⟨⟨by decide +kernel, by decide +kernel⟩, List.mem_of_getElem? (i := 785) (by decide +kernel), List.mem_of_getElem? (i := 791) (by decide +kernel), List.mem_of_getElem? (i := 792) (by decide +kernel)⟩
theorem lw_p14 : lw_okq (⟨"SmokeSeatsModel", "keepDraft", "()V"⟩, 28) := ⟨⟨by decide +kernel, by decide +kernel⟩, List.mem_of_getElem? (i := 785) (by decide +kernel), List.mem_of_getElem? (i := 795) (by decide +kernel), List.mem_of_getElem? (i := 796) (by decide +kernel)⟩
theorem lw_p15 : lw_okq (⟨"SmokeSeatsModel", "takes", "()V"⟩, 28) := ⟨⟨by decide +kernel, by decide +kernel⟩, List.mem_of_getElem? (i := 785) (by decide +kernel), List.mem_of_getElem? (i := 901) (by decide +kernel), List.mem_of_getElem? (i := 902) (by decide +kernel)⟩
def lw_privs_1 : List (MethodName × Nat) := [(⟨"SmokeSeats", "firstTaking", "(I)I"⟩, 9), (⟨"SmokeSeats", "sitThere", "(III)V"⟩, 9), (⟨"SmokeSeats", "isEnoughThere", "(IIII)Z"⟩, 9), (⟨"SmokeSeats", "heldIfSwapped", "(III)I"⟩, 9), (⟨"SmokeSeats", "heldIfBlown", "(IIII)I"⟩, 9), (⟨"SmokeSeats", "areOdds", "(IIII)Z"⟩, 9), (⟨"SmokeSeats$Odds", "weightBehind", "(I)J"⟩, 7), (⟨"SmokeSeats$Odds", "weightOfAirs", "(I)J"⟩, 7), (⟨"SmokeSeats$Odds", "weightBy", "(II)J"⟩, 7), (⟨"SmokeSeats", "isFrom", "(III)Z"⟩, 9), (⟨"SmokeSeats", "gatherAnswers", "(I)I"⟩, 9), (⟨"SmokeSeats", "mostAlike", "(II)I"⟩, 9), (⟨"SmokeSeats", "isRefused", "(LSmokeSeats$Sheet;II)Z"⟩, 9), (⟨"SmokeSeatsModel", "firstDraft", "()V"⟩, 28), (⟨"SmokeSeatsModel", "keepDraft", "()V"⟩, 28), (⟨"SmokeSeatsModel", "takes", "()V"⟩, 28)]
theorem lw_r1 : ∀ q ∈ lw_privs_1, lw_okq q := List.forall_mem_cons.mpr ⟨lw_p0, List.forall_mem_cons.mpr ⟨lw_p1, List.forall_mem_cons.mpr ⟨lw_p2, List.forall_mem_cons.mpr ⟨lw_p3, List.forall_mem_cons.mpr ⟨lw_p4, List.forall_mem_cons.mpr ⟨lw_p5, List.forall_mem_cons.mpr ⟨lw_p6, List.forall_mem_cons.mpr ⟨lw_p7, List.forall_mem_cons.mpr ⟨lw_p8, List.forall_mem_cons.mpr ⟨lw_p9, List.forall_mem_cons.mpr ⟨lw_p10, List.forall_mem_cons.mpr ⟨lw_p11, List.forall_mem_cons.mpr ⟨lw_p12, List.forall_mem_cons.mpr ⟨lw_p13, List.forall_mem_cons.mpr ⟨lw_p14, List.forall_mem_cons.mpr ⟨lw_p15, fun _ h => absurd h List.not_mem_nil⟩⟩⟩⟩⟩⟩⟩⟩⟩⟩⟩⟩⟩⟩⟩⟩
theorem lw_p16 : lw_okq (⟨"SmokeSeatsModel", "byteAt", "(I)I"⟩, 28) := ⟨⟨by decide +kernel, by decide +kernel⟩, List.mem_of_getElem? (i := 785) (by decide +kernel), List.mem_of_getElem? (i := 905) (by decide +kernel), List.mem_of_getElem? (i := 906) (by decide +kernel)⟩
theorem lw_p17 : lw_okq (⟨"SmokeSeatsModel", "needs", "(ZI)V"⟩, 28) := ⟨⟨by decide +kernel, by decide +kernel⟩, List.mem_of_getElem? (i := 785) (by decide +kernel), List.mem_of_getElem? (i := 913) (by decide +kernel), List.mem_of_getElem? (i := 914) (by decide +kernel)⟩
theorem lw_p18 : lw_okq (⟨"SmokeSeatsModel", "readLine", "()V"⟩, 28) := ⟨⟨by decide +kernel, by decide +kernel⟩, List.mem_of_getElem? (i := 785) (by decide +kernel), List.mem_of_getElem? (i := 917) (by decide +kernel), List.mem_of_getElem? (i := 918) (by decide +kernel)⟩
theorem lw_p19 : lw_okq (⟨"SmokeSeatsModel", "lineNow", "()I"⟩, 28) := ⟨⟨by decide +kernel, by decide +kernel⟩, List.mem_of_getElem? (i := 785) (by decide +kernel), List.mem_of_getElem? (i := 921) (by decide +kernel), List.mem_of_getElem? (i := 922) (by decide +kernel)⟩
theorem lw_p20 : lw_okq (⟨"SmokeSeatsModel", "is", "(IIII)Z"⟩, 28) := ⟨⟨by decide +kernel, by decide +kernel⟩, List.mem_of_getElem? (i := 785) (by decide +kernel), List.mem_of_getElem? (i := 925) (by decide +kernel), List.mem_of_getElem? (i := 926) (by decide +kernel)⟩
theorem lw_p21 : lw_okq (⟨"SmokeSeatsModel", "ends", "(III)Z"⟩, 28) := ⟨⟨by decide +kernel, by decide +kernel⟩, List.mem_of_getElem? (i := 785) (by decide +kernel), List.mem_of_getElem? (i := 929) (by decide +kernel), List.mem_of_getElem? (i := 930) (by decide +kernel)⟩
theorem lw_p22 : lw_okq (⟨"SmokeSeatsModel", "kindNow", "()I"⟩, 28) := ⟨⟨by decide +kernel, by decide +kernel⟩, List.mem_of_getElem? (i := 785) (by decide +kernel), List.mem_of_getElem? (i := 933) (by decide +kernel), List.mem_of_getElem? (i := 934) (by decide +kernel)⟩
theorem lw_p23 : lw_okq (⟨"SmokeSeatsModel", "readLineOf", "(I)V"⟩, 28) := ⟨⟨by decide +kernel, by decide +kernel⟩, List.mem_of_getElem? (i := 785) (by decide +kernel), List.mem_of_getElem? (i := 937) (by decide +kernel), List.mem_of_getElem? (i := 938) (by decide +kernel)⟩
theorem lw_p24 : lw_okq (⟨"SmokeSeatsModel", "readCell", "()I"⟩, 28) := ⟨⟨by decide +kernel, by decide +kernel⟩, List.mem_of_getElem? (i := 785) (by decide +kernel), List.mem_of_getElem? (i := 941) (by decide +kernel), List.mem_of_getElem? (i := 942) (by decide +kernel)⟩
theorem lw_p25 : lw_okq (⟨"SmokeSeatsModel", "looked", "(II)I"⟩, 28) := ⟨⟨by decide +kernel, by decide +kernel⟩, List.mem_of_getElem? (i := 785) (by decide +kernel), List.mem_of_getElem? (i := 945) (by decide +kernel), List.mem_of_getElem? (i := 946) (by decide +kernel)⟩
theorem lw_p26 : lw_okq (⟨"SmokeSeatsModel", "readNumber", "(II)I"⟩, 28) := ⟨⟨by decide +kernel, by decide +kernel⟩, List.mem_of_getElem? (i := 785) (by decide +kernel), List.mem_of_getElem? (i := 956) (by decide +kernel), List.mem_of_getElem? (i := 957) (by decide +kernel)⟩
theorem lw_p27 : lw_okq (⟨"SmokeSeatsModel", "starts", "()V"⟩, 28) := ⟨⟨by decide +kernel, by decide +kernel⟩, List.mem_of_getElem? (i := 785) (by decide +kernel), List.mem_of_getElem? (i := 968) (by decide +kernel), List.mem_of_getElem? (i := 969) (by decide +kernel)⟩
theorem lw_p28 : lw_okq (⟨"SmokeSeatsModel", "allIn", "()I"⟩, 28) := ⟨⟨by decide +kernel, by decide +kernel⟩, List.mem_of_getElem? (i := 785) (by decide +kernel), List.mem_of_getElem? (i := 972) (by decide +kernel), List.mem_of_getElem? (i := 973) (by decide +kernel)⟩
theorem lw_p29 : lw_okq (⟨"SmokeSeatsModel", "inRoom", "(I)I"⟩, 28) := ⟨⟨by decide +kernel, by decide +kernel⟩, List.mem_of_getElem? (i := 785) (by decide +kernel), List.mem_of_getElem? (i := 976) (by decide +kernel), List.mem_of_getElem? (i := 977) (by decide +kernel)⟩
theorem lw_p30 : lw_okq (⟨"SmokeSeatsModel", "allLost", "()I"⟩, 28) := ⟨⟨by decide +kernel, by decide +kernel⟩, List.mem_of_getElem? (i := 785) (by decide +kernel), List.mem_of_getElem? (i := 980) (by decide +kernel), List.mem_of_getElem? (i := 981) (by decide +kernel)⟩
theorem lw_p31 : lw_okq (⟨"SmokeSeatsModel", "allHad", "()I"⟩, 28) := ⟨⟨by decide +kernel, by decide +kernel⟩, List.mem_of_getElem? (i := 785) (by decide +kernel), List.mem_of_getElem? (i := 984) (by decide +kernel), List.mem_of_getElem? (i := 985) (by decide +kernel)⟩
def lw_privs_2 : List (MethodName × Nat) := [(⟨"SmokeSeatsModel", "byteAt", "(I)I"⟩, 28), (⟨"SmokeSeatsModel", "needs", "(ZI)V"⟩, 28), (⟨"SmokeSeatsModel", "readLine", "()V"⟩, 28), (⟨"SmokeSeatsModel", "lineNow", "()I"⟩, 28), (⟨"SmokeSeatsModel", "is", "(IIII)Z"⟩, 28), (⟨"SmokeSeatsModel", "ends", "(III)Z"⟩, 28), (⟨"SmokeSeatsModel", "kindNow", "()I"⟩, 28), (⟨"SmokeSeatsModel", "readLineOf", "(I)V"⟩, 28), (⟨"SmokeSeatsModel", "readCell", "()I"⟩, 28), (⟨"SmokeSeatsModel", "looked", "(II)I"⟩, 28), (⟨"SmokeSeatsModel", "readNumber", "(II)I"⟩, 28), (⟨"SmokeSeatsModel", "starts", "()V"⟩, 28), (⟨"SmokeSeatsModel", "allIn", "()I"⟩, 28), (⟨"SmokeSeatsModel", "inRoom", "(I)I"⟩, 28), (⟨"SmokeSeatsModel", "allLost", "()I"⟩, 28), (⟨"SmokeSeatsModel", "allHad", "()I"⟩, 28)]
theorem lw_r2 : ∀ q ∈ lw_privs_2, lw_okq q := List.forall_mem_cons.mpr ⟨lw_p16, List.forall_mem_cons.mpr ⟨lw_p17, List.forall_mem_cons.mpr ⟨lw_p18, List.forall_mem_cons.mpr ⟨lw_p19, List.forall_mem_cons.mpr ⟨lw_p20, List.forall_mem_cons.mpr ⟨lw_p21, List.forall_mem_cons.mpr ⟨lw_p22, List.forall_mem_cons.mpr ⟨lw_p23, List.forall_mem_cons.mpr ⟨lw_p24, List.forall_mem_cons.mpr ⟨lw_p25, List.forall_mem_cons.mpr ⟨lw_p26, List.forall_mem_cons.mpr ⟨lw_p27, List.forall_mem_cons.mpr ⟨lw_p28, List.forall_mem_cons.mpr ⟨lw_p29, List.forall_mem_cons.mpr ⟨lw_p30, List.forall_mem_cons.mpr ⟨lw_p31, fun _ h => absurd h List.not_mem_nil⟩⟩⟩⟩⟩⟩⟩⟩⟩⟩⟩⟩⟩⟩⟩⟩
theorem lw_p32 : lw_okq (⟨"SmokeSeatsModel", "hadOf", "(I)I"⟩, 28) := ⟨⟨by decide +kernel, by decide +kernel⟩, List.mem_of_getElem? (i := 785) (by decide +kernel), List.mem_of_getElem? (i := 988) (by decide +kernel), List.mem_of_getElem? (i := 989) (by decide +kernel)⟩
theorem lw_p33 : lw_okq (⟨"SmokeSeatsModel", "isLife", "(I)Z"⟩, 28) := ⟨⟨by decide +kernel, by decide +kernel⟩, List.mem_of_getElem? (i := 785) (by decide +kernel), List.mem_of_getElem? (i := 996) (by decide +kernel), List.mem_of_getElem? (i := 997) (by decide +kernel)⟩
theorem lw_p34 : lw_okq (⟨"SmokeSeatsModel", "isSitter", "(I)Z"⟩, 28) := ⟨⟨by decide +kernel, by decide +kernel⟩, List.mem_of_getElem? (i := 785) (by decide +kernel), List.mem_of_getElem? (i := 1010) (by decide +kernel), List.mem_of_getElem? (i := 1011) (by decide +kernel)⟩
theorem lw_p35 : lw_okq (⟨"SmokeSeatsModel", "hadBy", "(I)I"⟩, 28) := ⟨⟨by decide +kernel, by decide +kernel⟩, List.mem_of_getElem? (i := 785) (by decide +kernel), List.mem_of_getElem? (i := 1014) (by decide +kernel), List.mem_of_getElem? (i := 1015) (by decide +kernel)⟩
theorem lw_p36 : lw_okq (⟨"SmokeSeatsModel", "becomes", "(II)I"⟩, 28) := ⟨⟨by decide +kernel, by decide +kernel⟩, List.mem_of_getElem? (i := 785) (by decide +kernel), List.mem_of_getElem? (i := 1041) (by decide +kernel), List.mem_of_getElem? (i := 1042) (by decide +kernel)⟩
theorem lw_p37 : lw_okq (⟨"SmokeSeatsModel", "stepsGo", "(I)V"⟩, 28) := ⟨⟨by decide +kernel, by decide +kernel⟩, List.mem_of_getElem? (i := 785) (by decide +kernel), List.mem_of_getElem? (i := 1067) (by decide +kernel), List.mem_of_getElem? (i := 1068) (by decide +kernel)⟩
theorem lw_p38 : lw_okq (⟨"SmokeSeatsModel", "stepGoes", "(Z)V"⟩, 28) := ⟨⟨by decide +kernel, by decide +kernel⟩, List.mem_of_getElem? (i := 785) (by decide +kernel), List.mem_of_getElem? (i := 1071) (by decide +kernel), List.mem_of_getElem? (i := 1072) (by decide +kernel)⟩
theorem lw_p39 : lw_okq (⟨"SmokeSeatsModel", "isTold", "()V"⟩, 28) := ⟨⟨by decide +kernel, by decide +kernel⟩, List.mem_of_getElem? (i := 785) (by decide +kernel), List.mem_of_getElem? (i := 1075) (by decide +kernel), List.mem_of_getElem? (i := 1076) (by decide +kernel)⟩
theorem lw_p40 : lw_okq (⟨"SmokeSeatsModel", "isTaken", "()V"⟩, 28) := ⟨⟨by decide +kernel, by decide +kernel⟩, List.mem_of_getElem? (i := 785) (by decide +kernel), List.mem_of_getElem? (i := 1082) (by decide +kernel), List.mem_of_getElem? (i := 1083) (by decide +kernel)⟩
theorem lw_p41 : lw_okq (⟨"SmokeSeatsModel", "drifts", "(I)V"⟩, 28) := ⟨⟨by decide +kernel, by decide +kernel⟩, List.mem_of_getElem? (i := 785) (by decide +kernel), List.mem_of_getElem? (i := 1086) (by decide +kernel), List.mem_of_getElem? (i := 1087) (by decide +kernel)⟩
theorem lw_p42 : lw_okq (⟨"SmokeSeatsModel", "settles", "()V"⟩, 28) := ⟨⟨by decide +kernel, by decide +kernel⟩, List.mem_of_getElem? (i := 785) (by decide +kernel), List.mem_of_getElem? (i := 1096) (by decide +kernel), List.mem_of_getElem? (i := 1097) (by decide +kernel)⟩
theorem lw_p43 : lw_okq (⟨"SmokeSeatsModel", "allLeft", "()I"⟩, 28) := ⟨⟨by decide +kernel, by decide +kernel⟩, List.mem_of_getElem? (i := 785) (by decide +kernel), List.mem_of_getElem? (i := 1120) (by decide +kernel), List.mem_of_getElem? (i := 1121) (by decide +kernel)⟩
theorem lw_p44 : lw_okq (⟨"SmokeSeatsModel", "hasIn", "(IIII)I"⟩, 28) := ⟨⟨by decide +kernel, by decide +kernel⟩, List.mem_of_getElem? (i := 785) (by decide +kernel), List.mem_of_getElem? (i := 1128) (by decide +kernel), List.mem_of_getElem? (i := 1129) (by decide +kernel)⟩
theorem lw_p45 : lw_okq (⟨"SmokeSeatsModel", "isOdds", "(IIII)Z"⟩, 28) := ⟨⟨by decide +kernel, by decide +kernel⟩, List.mem_of_getElem? (i := 785) (by decide +kernel), List.mem_of_getElem? (i := 1161) (by decide +kernel), List.mem_of_getElem? (i := 1162) (by decide +kernel)⟩
theorem lw_p46 : lw_okq (⟨"SmokeSeatsModel", "findOdds", "(III)V"⟩, 28) := ⟨⟨by decide +kernel, by decide +kernel⟩, List.mem_of_getElem? (i := 785) (by decide +kernel), List.mem_of_getElem? (i := 1168) (by decide +kernel), List.mem_of_getElem? (i := 1169) (by decide +kernel)⟩
theorem lw_p47 : lw_okq (⟨"SmokeSeatsModel", "isSoWith", "(III)Z"⟩, 28) := ⟨⟨by decide +kernel, by decide +kernel⟩, List.mem_of_getElem? (i := 785) (by decide +kernel), List.mem_of_getElem? (i := 1194) (by decide +kernel), List.mem_of_getElem? (i := 1195) (by decide +kernel)⟩
def lw_privs_3 : List (MethodName × Nat) := [(⟨"SmokeSeatsModel", "hadOf", "(I)I"⟩, 28), (⟨"SmokeSeatsModel", "isLife", "(I)Z"⟩, 28), (⟨"SmokeSeatsModel", "isSitter", "(I)Z"⟩, 28), (⟨"SmokeSeatsModel", "hadBy", "(I)I"⟩, 28), (⟨"SmokeSeatsModel", "becomes", "(II)I"⟩, 28), (⟨"SmokeSeatsModel", "stepsGo", "(I)V"⟩, 28), (⟨"SmokeSeatsModel", "stepGoes", "(Z)V"⟩, 28), (⟨"SmokeSeatsModel", "isTold", "()V"⟩, 28), (⟨"SmokeSeatsModel", "isTaken", "()V"⟩, 28), (⟨"SmokeSeatsModel", "drifts", "(I)V"⟩, 28), (⟨"SmokeSeatsModel", "settles", "()V"⟩, 28), (⟨"SmokeSeatsModel", "allLeft", "()I"⟩, 28), (⟨"SmokeSeatsModel", "hasIn", "(IIII)I"⟩, 28), (⟨"SmokeSeatsModel", "isOdds", "(IIII)Z"⟩, 28), (⟨"SmokeSeatsModel", "findOdds", "(III)V"⟩, 28), (⟨"SmokeSeatsModel", "isSoWith", "(III)Z"⟩, 28)]
theorem lw_r3 : ∀ q ∈ lw_privs_3, lw_okq q := List.forall_mem_cons.mpr ⟨lw_p32, List.forall_mem_cons.mpr ⟨lw_p33, List.forall_mem_cons.mpr ⟨lw_p34, List.forall_mem_cons.mpr ⟨lw_p35, List.forall_mem_cons.mpr ⟨lw_p36, List.forall_mem_cons.mpr ⟨lw_p37, List.forall_mem_cons.mpr ⟨lw_p38, List.forall_mem_cons.mpr ⟨lw_p39, List.forall_mem_cons.mpr ⟨lw_p40, List.forall_mem_cons.mpr ⟨lw_p41, List.forall_mem_cons.mpr ⟨lw_p42, List.forall_mem_cons.mpr ⟨lw_p43, List.forall_mem_cons.mpr ⟨lw_p44, List.forall_mem_cons.mpr ⟨lw_p45, List.forall_mem_cons.mpr ⟨lw_p46, List.forall_mem_cons.mpr ⟨lw_p47, fun _ h => absurd h List.not_mem_nil⟩⟩⟩⟩⟩⟩⟩⟩⟩⟩⟩⟩⟩⟩⟩⟩
theorem lw_p48 : lw_okq (⟨"SmokeSeatsModel", "copies", "(II)V"⟩, 28) := ⟨⟨by decide +kernel, by decide +kernel⟩, List.mem_of_getElem? (i := 785) (by decide +kernel), List.mem_of_getElem? (i := 1218) (by decide +kernel), List.mem_of_getElem? (i := 1219) (by decide +kernel)⟩
def lw_privs_4 : List (MethodName × Nat) := [(⟨"SmokeSeatsModel", "copies", "(II)V"⟩, 28)]
theorem lw_r4 : ∀ q ∈ lw_privs_4, lw_okq q := List.forall_mem_cons.mpr ⟨lw_p48, fun _ h => absurd h List.not_mem_nil⟩
def lw_privs : List (MethodName × Nat) := lw_privs_1 ++ (lw_privs_2 ++ (lw_privs_3 ++ (lw_privs_4)))
def lw_tbl : List Cond := k2_sels lw_privs ++ tables_1
theorem lw_privs_ok : ∀ q ∈ lw_privs, lw_okq q := by
  show ∀ q ∈ lw_privs_1 ++ (lw_privs_2 ++ (lw_privs_3 ++ (lw_privs_4))), lw_okq q
  exact List.forall_mem_append.mpr ⟨lw_r1, List.forall_mem_append.mpr ⟨lw_r2, List.forall_mem_append.mpr ⟨lw_r3, lw_r4⟩⟩⟩
end
section
def RX0 : String := "SmokeSeats$Image"
def TX0 : u_T := fun k => match k with
  | 0 => ("SmokeSeats$Image", "kept", "Z", false)
  | 1 => ("SmokeSeats$Image", "room", "LSmokeSeats$Room;", true)
  | _ => ("SmokeSeats$Image", "seen", "LSmokeSeats$Seen;", true)
def tyX0 : Nat → FieldType := fun k => match k with
  | 0 => .boolean
  | 1 => .object "SmokeSeats$Room"
  | _ => .object "SmokeSeats$Seen"
theorem nmX0 : ∀ a, a < 3 → ∀ b, b < 3 → a ≠ b → (TX0 a).2.1 ≠ (TX0 b).2.1 := by decide +kernel
theorem tyX0_ok : ∀ k, k < 3 → parseFieldDescriptor (TX0 k).2.2.1 = some (tyX0 k) := by decide +kernel
abbrev cX0_init : ByteArray := prog_2_method_1_code
def yX0_init : MethodName := ⟨RX0, "<init>", "()V"⟩
def RX1 : String := "SmokeSeats$Odds"
def TX1 : u_T := fun k => match k with
  | 0 => ("SmokeSeats$Odds", "rooms", "[LSmokeSeats$Room;", true)
  | 1 => ("SmokeSeats$Odds", "still", "I", false)
  | 2 => ("SmokeSeats$Odds", "whom", "I", false)
  | 3 => ("SmokeSeats$Odds", "last", "I", false)
  | 4 => ("SmokeSeats$Odds", "isMean", "Z", false)
  | 5 => ("SmokeSeats$Odds", "above", "J", false)
  | _ => ("SmokeSeats$Odds", "below", "J", false)
def tyX1 : Nat → FieldType := fun k => match k with
  | 0 => .array (.object "SmokeSeats$Room")
  | 1 => .int
  | 2 => .int
  | 3 => .int
  | 4 => .boolean
  | 5 => .long
  | _ => .long
theorem nmX1 : ∀ a, a < 7 → ∀ b, b < 7 → a ≠ b → (TX1 a).2.1 ≠ (TX1 b).2.1 := by decide +kernel
theorem tyX1_ok : ∀ k, k < 7 → parseFieldDescriptor (TX1 k).2.2.1 = some (tyX1 k) := by decide +kernel
abbrev cX1_init : ByteArray := prog_3_method_1_code
def yX1_init : MethodName := ⟨RX1, "<init>", "()V"⟩
abbrev cX1_weigh : ByteArray := prog_3_method_2_code
def yX1_weigh : MethodName := ⟨RX1, "weigh", "(LSmokeSeats$Room;IIIZ)V"⟩
abbrev cX1_weightBehind : ByteArray := prog_3_method_3_code
def yX1_weightBehind : MethodName := ⟨RX1, "weightBehind", "(I)J"⟩
abbrev cX1_weightOfAirs : ByteArray := prog_3_method_4_code
def yX1_weightOfAirs : MethodName := ⟨RX1, "weightOfAirs", "(I)J"⟩
abbrev cX1_weightBy : ByteArray := prog_3_method_5_code
def yX1_weightBy : MethodName := ⟨RX1, "weightBy", "(II)J"⟩
abbrev cX1_tenTo : ByteArray := prog_3_method_6_code
def yX1_tenTo : MethodName := ⟨RX1, "tenTo", "(I)J"⟩
abbrev cX1_reduce : ByteArray := prog_3_method_7_code
def yX1_reduce : MethodName := ⟨RX1, "reduce", "()V"⟩
def RX2 : String := "SmokeSeats$Room"
def TX2 : u_T := fun k => match k with
  | 0 => ("SmokeSeats$Room", "lives", "I", false)
  | 1 => ("SmokeSeats$Room", "sitters", "I", false)
  | 2 => ("SmokeSeats$Room", "step", "I", false)
  | 3 => ("SmokeSeats$Room", "kinds", "[I", true)
  | 4 => ("SmokeSeats$Room", "tables", "[I", true)
  | 5 => ("SmokeSeats$Room", "paces", "[I", true)
  | 6 => ("SmokeSeats$Room", "lefts", "[I", true)
  | 7 => ("SmokeSeats$Room", "lost", "[I", true)
  | 8 => ("SmokeSeats$Room", "aloft", "[I", true)
  | 9 => ("SmokeSeats$Room", "cells", "[I", true)
  | 10 => ("SmokeSeats$Room", "places", "[I", true)
  | 11 => ("SmokeSeats$Room", "sleeves", "[I", true)
  | 12 => ("SmokeSeats$Room", "holds", "[I", true)
  | 13 => ("SmokeSeats$Room", "ways", "[I", true)
  | _ => ("SmokeSeats$Room", "prices", "[I", true)
def tyX2 : Nat → FieldType := fun k => match k with
  | 0 => .int
  | 1 => .int
  | 2 => .int
  | 3 => .array .int
  | 4 => .array .int
  | 5 => .array .int
  | 6 => .array .int
  | 7 => .array .int
  | 8 => .array .int
  | 9 => .array .int
  | 10 => .array .int
  | 11 => .array .int
  | 12 => .array .int
  | 13 => .array .int
  | _ => .array .int
theorem nmX2 : ∀ a, a < 15 → ∀ b, b < 15 → a ≠ b → (TX2 a).2.1 ≠ (TX2 b).2.1 := by decide +kernel
theorem tyX2_ok : ∀ k, k < 15 → parseFieldDescriptor (TX2 k).2.2.1 = some (tyX2 k) := by decide +kernel
abbrev cX2_init : ByteArray := prog_4_method_1_code
def yX2_init : MethodName := ⟨RX2, "<init>", "()V"⟩
abbrev cX2_clear : ByteArray := prog_4_method_2_code
def yX2_clear : MethodName := ⟨RX2, "clear", "()V"⟩
abbrev cX2_copyOf : ByteArray := prog_4_method_3_code
def yX2_copyOf : MethodName := ⟨RX2, "copyOf", "(LSmokeSeats$Room;)V"⟩
abbrev cX2_isLife : ByteArray := prog_4_method_4_code
def yX2_isLife : MethodName := ⟨RX2, "isLife", "(I)Z"⟩
abbrev cX2_isSitter : ByteArray := prog_4_method_5_code
def yX2_isSitter : MethodName := ⟨RX2, "isSitter", "(I)Z"⟩
abbrev cX2_held : ByteArray := prog_4_method_6_code
def yX2_held : MethodName := ⟨RX2, "held", "(II)I"⟩
abbrev cX2_heldBy : ByteArray := prog_4_method_7_code
def yX2_heldBy : MethodName := ⟨RX2, "heldBy", "(I)I"⟩
abbrev cX2_heldOf : ByteArray := prog_4_method_8_code
def yX2_heldOf : MethodName := ⟨RX2, "heldOf", "(I)I"⟩
abbrev cX2_heldByAll : ByteArray := prog_4_method_9_code
def yX2_heldByAll : MethodName := ⟨RX2, "heldByAll", "()I"⟩
abbrev cX2_sumOfLives : ByteArray := prog_4_method_10_code
def yX2_sumOfLives : MethodName := ⟨RX2, "sumOfLives", "([I)I"⟩
abbrev cX2_pricesOfSitters : ByteArray := prog_4_method_11_code
def yX2_pricesOfSitters : MethodName := ⟨RX2, "pricesOfSitters", "()I"⟩
abbrev cX2_isOver : ByteArray := prog_4_method_12_code
def yX2_isOver : MethodName := ⟨RX2, "isOver", "()Z"⟩
abbrev cX2_loseAll : ByteArray := prog_4_method_13_code
def yX2_loseAll : MethodName := ⟨RX2, "loseAll", "()V"⟩
abbrev cX2_goOn : ByteArray := prog_4_method_14_code
def yX2_goOn : MethodName := ⟨RX2, "goOn", "(I)I"⟩
abbrev cX2_wayNow : ByteArray := prog_4_method_15_code
def yX2_wayNow : MethodName := ⟨RX2, "wayNow", "()I"⟩
abbrev cX2_pass : ByteArray := prog_4_method_16_code
def yX2_pass : MethodName := ⟨RX2, "pass", "(I)I"⟩
abbrev cX2_tellAll : ByteArray := prog_4_method_17_code
def yX2_tellAll : MethodName := ⟨RX2, "tellAll", "()V"⟩
abbrev cX2_takeAll : ByteArray := prog_4_method_18_code
def yX2_takeAll : MethodName := ⟨RX2, "takeAll", "()I"⟩
abbrev cX2_carry : ByteArray := prog_4_method_19_code
def yX2_carry : MethodName := ⟨RX2, "carry", "(I)V"⟩
abbrev cX2_give : ByteArray := prog_4_method_20_code
def yX2_give : MethodName := ⟨RX2, "give", "(III)V"⟩
abbrev cX2_moved : ByteArray := prog_4_method_21_code
def yX2_moved : MethodName := ⟨RX2, "moved", "(II)I"⟩
abbrev cX2_beside : ByteArray := prog_4_method_22_code
def yX2_beside : MethodName := ⟨RX2, "beside", "(II)I"⟩
def RX3 : String := "SmokeSeats$Seen"
def TX3 : u_T := fun k => match k with
  | 0 => ("SmokeSeats$Seen", "count", "I", false)
  | 1 => ("SmokeSeats$Seen", "who", "[I", true)
  | 2 => ("SmokeSeats$Seen", "whose", "[I", true)
  | 3 => ("SmokeSeats$Seen", "when", "[I", true)
  | _ => ("SmokeSeats$Seen", "much", "[I", true)
def tyX3 : Nat → FieldType := fun k => match k with
  | 0 => .int
  | 1 => .array .int
  | 2 => .array .int
  | 3 => .array .int
  | _ => .array .int
theorem nmX3 : ∀ a, a < 5 → ∀ b, b < 5 → a ≠ b → (TX3 a).2.1 ≠ (TX3 b).2.1 := by decide +kernel
theorem tyX3_ok : ∀ k, k < 5 → parseFieldDescriptor (TX3 k).2.2.1 = some (tyX3 k) := by decide +kernel
abbrev cX3_init : ByteArray := prog_5_method_1_code
def yX3_init : MethodName := ⟨RX3, "<init>", "()V"⟩
abbrev cX3_copyOf : ByteArray := prog_5_method_2_code
def yX3_copyOf : MethodName := ⟨RX3, "copyOf", "(LSmokeSeats$Seen;)V"⟩
abbrev cX3_put : ByteArray := prog_5_method_3_code
def yX3_put : MethodName := ⟨RX3, "put", "(IIII)Z"⟩
abbrev cX3_farthest : ByteArray := prog_5_method_4_code
def yX3_farthest : MethodName := ⟨RX3, "farthest", "()I"⟩
abbrev cX3_fits : ByteArray := prog_5_method_5_code
def yX3_fits : MethodName := ⟨RX3, "fits", "(LSmokeSeats$Room;I)Z"⟩
abbrev cX3_fitsBehind : ByteArray := prog_5_method_6_code
def yX3_fitsBehind : MethodName := ⟨RX3, "fitsBehind", "(LSmokeSeats$Room;I)Z"⟩
def RX4 : String := "SmokeSeats$Sheet"
def TX4 : u_T := fun k => match k with
  | 0 => ("SmokeSeats$Sheet", "lane", "I", false)
  | 1 => ("SmokeSeats$Sheet", "size", "I", false)
  | _ => ("SmokeSeats$Sheet", "row", "[I", true)
def tyX4 : Nat → FieldType := fun k => match k with
  | 0 => .int
  | 1 => .int
  | _ => .array .int
theorem nmX4 : ∀ a, a < 3 → ∀ b, b < 3 → a ≠ b → (TX4 a).2.1 ≠ (TX4 b).2.1 := by decide +kernel
theorem tyX4_ok : ∀ k, k < 3 → parseFieldDescriptor (TX4 k).2.2.1 = some (tyX4 k) := by decide +kernel
abbrev cX4_init : ByteArray := prog_6_method_1_code
def yX4_init : MethodName := ⟨RX4, "<init>", "()V"⟩
abbrev cX4_isNothing : ByteArray := prog_6_method_2_code
def yX4_isNothing : MethodName := ⟨RX4, "isNothing", "()Z"⟩
abbrev cX4_renew : ByteArray := prog_6_method_3_code
def yX4_renew : MethodName := ⟨RX4, "renew", "(II)V"⟩
abbrev cX4_put : ByteArray := prog_6_method_4_code
def yX4_put : MethodName := ⟨RX4, "put", "(II)V"⟩
abbrev cX4_faultAt : ByteArray := prog_6_method_5_code
def yX4_faultAt : MethodName := ⟨RX4, "faultAt", "(II)I"⟩
abbrev cX4_faultOfPair : ByteArray := prog_6_method_6_code
def yX4_faultOfPair : MethodName := ⟨RX4, "faultOfPair", "(II)I"⟩
def RX5 : String := "SmokeSeats$Tape"
def TX5 : u_T := fun k => match k with
  | 0 => ("SmokeSeats$Tape", "bytes", "[B", true)
  | 1 => ("SmokeSeats$Tape", "length", "I", false)
  | 2 => ("SmokeSeats$Tape", "fault", "I", false)
  | 3 => ("SmokeSeats$Tape", "start", "I", false)
  | 4 => ("SmokeSeats$Tape", "next", "I", false)
  | 5 => ("SmokeSeats$Tape", "token", "I", false)
  | 6 => ("SmokeSeats$Tape", "number", "I", false)
  | _ => ("SmokeSeats$Tape", "told", "I", false)
def tyX5 : Nat → FieldType := fun k => match k with
  | 0 => .array .byte
  | 1 => .int
  | 2 => .int
  | 3 => .int
  | 4 => .int
  | 5 => .int
  | 6 => .int
  | _ => .int
theorem nmX5 : ∀ a, a < 8 → ∀ b, b < 8 → a ≠ b → (TX5 a).2.1 ≠ (TX5 b).2.1 := by decide +kernel
theorem tyX5_ok : ∀ k, k < 8 → parseFieldDescriptor (TX5 k).2.2.1 = some (tyX5 k) := by decide +kernel
abbrev cX5_init : ByteArray := prog_7_method_1_code
def yX5_init : MethodName := ⟨RX5, "<init>", "()V"⟩
abbrev cX5_put : ByteArray := prog_7_method_2_code
def yX5_put : MethodName := ⟨RX5, "put", "(I)Z"⟩
abbrev cX5_tell : ByteArray := prog_7_method_3_code
def yX5_tell : MethodName := ⟨RX5, "tell", "(LSmokeSeats$Room;)I"⟩
abbrev cX5_refuse : ByteArray := prog_7_method_4_code
def yX5_refuse : MethodName := ⟨RX5, "refuse", "(I)Z"⟩
abbrev cX5_readToken : ByteArray := prog_7_method_5_code
def yX5_readToken : MethodName := ⟨RX5, "readToken", "()Z"⟩
abbrev cX5_tokenOf : ByteArray := prog_7_method_6_code
def yX5_tokenOf : MethodName := ⟨RX5, "tokenOf", "(B)I"⟩
abbrev cX5_readLine : ByteArray := prog_7_method_7_code
def yX5_readLine : MethodName := ⟨RX5, "readLine", "(LSmokeSeats$Room;)Z"⟩
abbrev cX5_wordRead : ByteArray := prog_7_method_8_code
def yX5_wordRead : MethodName := ⟨RX5, "wordRead", "()I"⟩
abbrev cX5_isWord : ByteArray := prog_7_method_9_code
def yX5_isWord : MethodName := ⟨RX5, "isWord", "(Ljava/lang/String;)Z"⟩
abbrev cX5_readLife : ByteArray := prog_7_method_10_code
def yX5_readLife : MethodName := ⟨RX5, "readLife", "(LSmokeSeats$Room;I)Z"⟩
abbrev cX5_readSitter : ByteArray := prog_7_method_11_code
def yX5_readSitter : MethodName := ⟨RX5, "readSitter", "(LSmokeSeats$Room;)Z"⟩
abbrev cX5_readOnce : ByteArray := prog_7_method_12_code
def yX5_readOnce : MethodName := ⟨RX5, "readOnce", "([III)Z"⟩
abbrev cX5_readCell : ByteArray := prog_7_method_13_code
def yX5_readCell : MethodName := ⟨RX5, "readCell", "()Z"⟩
abbrev cX5_readNumber : ByteArray := prog_7_method_14_code
def yX5_readNumber : MethodName := ⟨RX5, "readNumber", "(II)Z"⟩
def RX6 : String := "SmokeSeats"
def TX6 : u_T := fun k => match k with
  | 0 => ("SmokeSeats", "now", "LSmokeSeats$Room;", true)
  | 1 => ("SmokeSeats", "trial", "LSmokeSeats$Room;", true)
  | 2 => ("SmokeSeats", "seen", "LSmokeSeats$Seen;", true)
  | 3 => ("SmokeSeats", "images", "[LSmokeSeats$Image;", true)
  | 4 => ("SmokeSeats", "tape", "LSmokeSeats$Tape;", true)
  | 5 => ("SmokeSeats", "sheets", "[LSmokeSeats$Sheet;", true)
  | 6 => ("SmokeSeats", "odds", "LSmokeSeats$Odds;", true)
  | 7 => ("SmokeSeats", "answers", "[I", true)
  | _ => ("SmokeSeats", "torn", "I", false)
def tyX6 : Nat → FieldType := fun k => match k with
  | 0 => .object "SmokeSeats$Room"
  | 1 => .object "SmokeSeats$Room"
  | 2 => .object "SmokeSeats$Seen"
  | 3 => .array (.object "SmokeSeats$Image")
  | 4 => .object "SmokeSeats$Tape"
  | 5 => .array (.object "SmokeSeats$Sheet")
  | 6 => .object "SmokeSeats$Odds"
  | 7 => .array .int
  | _ => .int
theorem nmX6 : ∀ a, a < 9 → ∀ b, b < 9 → a ≠ b → (TX6 a).2.1 ≠ (TX6 b).2.1 := by decide +kernel
theorem tyX6_ok : ∀ k, k < 9 → parseFieldDescriptor (TX6 k).2.2.1 = some (tyX6 k) := by decide +kernel
abbrev cX6_init : ByteArray := prog_1_method_1_code
def yX6_init : MethodName := ⟨RX6, "<init>", "()V"⟩
abbrev cX6_feed : ByteArray := prog_1_method_2_code
def yX6_feed : MethodName := ⟨RX6, "feed", "(I)I"⟩
abbrev cX6_end : ByteArray := prog_1_method_3_code
def yX6_end : MethodName := ⟨RX6, "end", "(I)I"⟩
abbrev cX6_text : ByteArray := prog_1_method_4_code
def yX6_text : MethodName := ⟨RX6, "text", "()I"⟩
abbrev cX6_fault : ByteArray := prog_1_method_5_code
def yX6_fault : MethodName := ⟨RX6, "fault", "()I"⟩
abbrev cX6_rule : ByteArray := prog_1_method_6_code
def yX6_rule : MethodName := ⟨RX6, "rule", "(I)I"⟩
abbrev cX6_life : ByteArray := prog_1_method_7_code
def yX6_life : MethodName := ⟨RX6, "life", "(II)I"⟩
abbrev cX6_sitter : ByteArray := prog_1_method_8_code
def yX6_sitter : MethodName := ⟨RX6, "sitter", "(II)I"⟩
abbrev cX6_has : ByteArray := prog_1_method_9_code
def yX6_has : MethodName := ⟨RX6, "has", "(II)I"⟩
abbrev cX6_in : ByteArray := prog_1_method_10_code
def yX6_in : MethodName := ⟨RX6, "in", "(II)I"⟩
abbrev cX6_air : ByteArray := prog_1_method_11_code
def yX6_air : MethodName := ⟨RX6, "air", "(I)I"⟩
abbrev cX6_alter : ByteArray := prog_1_method_12_code
def yX6_alter : MethodName := ⟨RX6, "alter", "(III)I"⟩
abbrev cX6_seat : ByteArray := prog_1_method_13_code
def yX6_seat : MethodName := ⟨RX6, "seat", "(III)I"⟩
abbrev cX6_blow : ByteArray := prog_1_method_14_code
def yX6_blow : MethodName := ⟨RX6, "blow", "(II)I"⟩
abbrev cX6_price : ByteArray := prog_1_method_15_code
def yX6_price : MethodName := ⟨RX6, "price", "(II)I"⟩
abbrev cX6_open : ByteArray := prog_1_method_16_code
def yX6_open : MethodName := ⟨RX6, "open", "()I"⟩
abbrev cX6_steps : ByteArray := prog_1_method_17_code
def yX6_steps : MethodName := ⟨RX6, "steps", "(I)I"⟩
abbrev cX6_runs : ByteArray := prog_1_method_18_code
def yX6_runs : MethodName := ⟨RX6, "runs", "(II)I"⟩
abbrev cX6_firstTaking : ByteArray := prog_1_method_19_code
def yX6_firstTaking : MethodName := ⟨RX6, "firstTaking", "(I)I"⟩
abbrev cX6_ahead : ByteArray := prog_1_method_20_code
def yX6_ahead : MethodName := ⟨RX6, "ahead", "(III)I"⟩
abbrev cX6_wet : ByteArray := prog_1_method_21_code
def yX6_wet : MethodName := ⟨RX6, "wet", "(II)I"⟩
abbrev cX6_over : ByteArray := prog_1_method_22_code
def yX6_over : MethodName := ⟨RX6, "over", "()I"⟩
abbrev cX6_best : ByteArray := prog_1_method_23_code
def yX6_best : MethodName := ⟨RX6, "best", "(III)I"⟩
abbrev cX6_cheap : ByteArray := prog_1_method_24_code
def yX6_cheap : MethodName := ⟨RX6, "cheap", "(III)I"⟩
abbrev cX6_isEnoughThere : ByteArray := prog_1_method_25_code
def yX6_isEnoughThere : MethodName := ⟨RX6, "isEnoughThere", "(IIII)Z"⟩
abbrev cX6_clean : ByteArray := prog_1_method_26_code
def yX6_clean : MethodName := ⟨RX6, "clean", "(III)I"⟩
abbrev cX6_sitThere : ByteArray := prog_1_method_27_code
def yX6_sitThere : MethodName := ⟨RX6, "sitThere", "(III)V"⟩
abbrev cX6_need : ByteArray := prog_1_method_28_code
def yX6_need : MethodName := ⟨RX6, "need", "(III)I"⟩
abbrev cX6_swap : ByteArray := prog_1_method_29_code
def yX6_swap : MethodName := ⟨RX6, "swap", "(II)I"⟩
abbrev cX6_heldIfSwapped : ByteArray := prog_1_method_30_code
def yX6_heldIfSwapped : MethodName := ⟨RX6, "heldIfSwapped", "(III)I"⟩
abbrev cX6_fan : ByteArray := prog_1_method_31_code
def yX6_fan : MethodName := ⟨RX6, "fan", "(III)I"⟩
abbrev cX6_heldIfBlown : ByteArray := prog_1_method_32_code
def yX6_heldIfBlown : MethodName := ⟨RX6, "heldIfBlown", "(IIII)I"⟩
abbrev cX6_luck : ByteArray := prog_1_method_33_code
def yX6_luck : MethodName := ⟨RX6, "luck", "(IIII)J"⟩
abbrev cX6_mean : ByteArray := prog_1_method_34_code
def yX6_mean : MethodName := ⟨RX6, "mean", "(IIII)J"⟩
abbrev cX6_areOdds : ByteArray := prog_1_method_35_code
def yX6_areOdds : MethodName := ⟨RX6, "areOdds", "(IIII)Z"⟩
abbrev cX6_see : ByteArray := prog_1_method_36_code
def yX6_see : MethodName := ⟨RX6, "see", "(IIII)I"⟩
abbrev cX6_forget : ByteArray := prog_1_method_37_code
def yX6_forget : MethodName := ⟨RX6, "forget", "(I)I"⟩
abbrev cX6_kinds : ByteArray := prog_1_method_38_code
def yX6_kinds : MethodName := ⟨RX6, "kinds", "(I)I"⟩
abbrev cX6_froms : ByteArray := prog_1_method_39_code
def yX6_froms : MethodName := ⟨RX6, "froms", "(II)I"⟩
abbrev cX6_isFrom : ByteArray := prog_1_method_40_code
def yX6_isFrom : MethodName := ⟨RX6, "isFrom", "(III)Z"⟩
abbrev cX6_ask : ByteArray := prog_1_method_41_code
def yX6_ask : MethodName := ⟨RX6, "ask", "(II)I"⟩
abbrev cX6_gatherAnswers : ByteArray := prog_1_method_42_code
def yX6_gatherAnswers : MethodName := ⟨RX6, "gatherAnswers", "(I)I"⟩
abbrev cX6_mostAlike : ByteArray := prog_1_method_43_code
def yX6_mostAlike : MethodName := ⟨RX6, "mostAlike", "(II)I"⟩
abbrev cX6_drift : ByteArray := prog_1_method_44_code
def yX6_drift : MethodName := ⟨RX6, "drift", "(III)I"⟩
abbrev cX6_keep : ByteArray := prog_1_method_45_code
def yX6_keep : MethodName := ⟨RX6, "keep", "(I)I"⟩
abbrev cX6_back : ByteArray := prog_1_method_46_code
def yX6_back : MethodName := ⟨RX6, "back", "(I)I"⟩
abbrev cX6_sheet : ByteArray := prog_1_method_47_code
def yX6_sheet : MethodName := ⟨RX6, "sheet", "(III)I"⟩
abbrev cX6_lay : ByteArray := prog_1_method_48_code
def yX6_lay : MethodName := ⟨RX6, "lay", "(III)I"⟩
abbrev cX6_read : ByteArray := prog_1_method_49_code
def yX6_read : MethodName := ⟨RX6, "read", "(IIII)I"⟩
abbrev cX6_isRefused : ByteArray := prog_1_method_50_code
def yX6_isRefused : MethodName := ⟨RX6, "isRefused", "(LSmokeSeats$Sheet;II)Z"⟩
abbrev cX6_torn : ByteArray := prog_1_method_51_code
def yX6_torn : MethodName := ⟨RX6, "torn", "()I"⟩
abbrev cX6_count : ByteArray := prog_1_method_52_code
def yX6_count : MethodName := ⟨RX6, "count", "(I)I"⟩
abbrev cX6_isWithin : ByteArray := prog_1_method_53_code
def yX6_isWithin : MethodName := ⟨RX6, "isWithin", "(III)Z"⟩
abbrev cX6_isSheet : ByteArray := prog_1_method_54_code
def yX6_isSheet : MethodName := ⟨RX6, "isSheet", "(I)Z"⟩
abbrev cX6_isLane : ByteArray := prog_1_method_55_code
def yX6_isLane : MethodName := ⟨RX6, "isLane", "(I)Z"⟩
abbrev cX6_replace : ByteArray := prog_1_method_56_code
def yX6_replace : MethodName := ⟨RX6, "replace", "([III)I"⟩
abbrev cX6_isCell : ByteArray := prog_1_method_57_code
def yX6_isCell : MethodName := ⟨RX6, "isCell", "(I)Z"⟩
abbrev cX6_cellOf : ByteArray := prog_1_method_58_code
def yX6_cellOf : MethodName := ⟨RX6, "cellOf", "(I)I"⟩
abbrev cX6_nameOf : ByteArray := prog_1_method_59_code
def yX6_nameOf : MethodName := ⟨RX6, "nameOf", "(I)I"⟩
abbrev cX6_rowOf : ByteArray := prog_1_method_60_code
def yX6_rowOf : MethodName := ⟨RX6, "rowOf", "(I)I"⟩
def RX7 : String := "SmokeSeatsModel"
def TX7 : u_T := fun k => match k with
  | 0 => ("SmokeSeatsModel", "st", "[I", true)
  | 1 => ("SmokeSeatsModel", "now", "[I", true)
  | 2 => ("SmokeSeatsModel", "isKept", "[Z", true)
  | 3 => ("SmokeSeatsModel", "lives", "I", false)
  | 4 => ("SmokeSeatsModel", "sitters", "I", false)
  | 5 => ("SmokeSeatsModel", "draft", "[I", true)
  | 6 => ("SmokeSeatsModel", "dLives", "I", false)
  | 7 => ("SmokeSeatsModel", "dSitters", "I", false)
  | 8 => ("SmokeSeatsModel", "toldAirs", "I", false)
  | 9 => ("SmokeSeatsModel", "toldPrices", "I", false)
  | 10 => ("SmokeSeatsModel", "tape", "[I", true)
  | 11 => ("SmokeSeatsModel", "taped", "I", false)
  | 12 => ("SmokeSeatsModel", "pos", "I", false)
  | 13 => ("SmokeSeatsModel", "begun", "I", false)
  | 14 => ("SmokeSeatsModel", "sort", "I", false)
  | 15 => ("SmokeSeatsModel", "value", "I", false)
  | 16 => ("SmokeSeatsModel", "fault", "I", false)
  | 17 => ("SmokeSeatsModel", "wrongAt", "I", false)
  | 18 => ("SmokeSeatsModel", "going", "[I", true)
  | 19 => ("SmokeSeatsModel", "someSum", "J", false)
  | 20 => ("SmokeSeatsModel", "muchSum", "J", false)
  | 21 => ("SmokeSeatsModel", "allWays", "J", false)
  | 22 => ("SmokeSeatsModel", "hads", "[I", true)
  | 23 => ("SmokeSeatsModel", "lanes", "[I", true)
  | 24 => ("SmokeSeatsModel", "sizes", "[I", true)
  | 25 => ("SmokeSeatsModel", "cells", "[I", true)
  | 26 => ("SmokeSeatsModel", "torn", "I", false)
  | _ => ("SmokeSeatsModel", "before", "[I", true)
def tyX7 : Nat → FieldType := fun k => match k with
  | 0 => .array .int
  | 1 => .array .int
  | 2 => .array .boolean
  | 3 => .int
  | 4 => .int
  | 5 => .array .int
  | 6 => .int
  | 7 => .int
  | 8 => .int
  | 9 => .int
  | 10 => .array .int
  | 11 => .int
  | 12 => .int
  | 13 => .int
  | 14 => .int
  | 15 => .int
  | 16 => .int
  | 17 => .int
  | 18 => .array .int
  | 19 => .long
  | 20 => .long
  | 21 => .long
  | 22 => .array .int
  | 23 => .array .int
  | 24 => .array .int
  | 25 => .array .int
  | 26 => .int
  | _ => .array .int
theorem nmX7 : ∀ a, a < 28 → ∀ b, b < 28 → a ≠ b → (TX7 a).2.1 ≠ (TX7 b).2.1 := by decide +kernel
theorem tyX7_ok : ∀ k, k < 28 → parseFieldDescriptor (TX7 k).2.2.1 = some (tyX7 k) := by decide +kernel
abbrev cX7_init : ByteArray := prog_9_method_1_code
def yX7_init : MethodName := ⟨RX7, "<init>", "()V"⟩
abbrev cX7_within : ByteArray := prog_9_method_3_code
def yX7_within : MethodName := ⟨RX7, "within", "(JJJ)Z"⟩
abbrev cX7_flag : ByteArray := prog_9_method_4_code
def yX7_flag : MethodName := ⟨RX7, "flag", "(Z)I"⟩
abbrev cX7_lesser : ByteArray := prog_9_method_5_code
def yX7_lesser : MethodName := ⟨RX7, "lesser", "(II)I"⟩
abbrev cX7_isCell : ByteArray := prog_9_method_6_code
def yX7_isCell : MethodName := ⟨RX7, "isCell", "(I)Z"⟩
abbrev cX7_cellOf : ByteArray := prog_9_method_7_code
def yX7_cellOf : MethodName := ⟨RX7, "cellOf", "(I)I"⟩
abbrev cX7_nameOf : ByteArray := prog_9_method_8_code
def yX7_nameOf : MethodName := ⟨RX7, "nameOf", "(I)I"⟩
abbrev cX7_firstDraft : ByteArray := prog_9_method_9_code
def yX7_firstDraft : MethodName := ⟨RX7, "firstDraft", "()V"⟩
abbrev cX7_keepDraft : ByteArray := prog_9_method_10_code
def yX7_keepDraft : MethodName := ⟨RX7, "keepDraft", "()V"⟩
abbrev cX7_feed : ByteArray := prog_9_method_11_code
def yX7_feed : MethodName := ⟨RX7, "feed", "(I)I"⟩
abbrev cX7_end : ByteArray := prog_9_method_12_code
def yX7_end : MethodName := ⟨RX7, "end", "(I)I"⟩
abbrev cX7_needs : ByteArray := prog_9_method_13_code
def yX7_needs : MethodName := ⟨RX7, "needs", "(ZI)V"⟩
abbrev cX7_byteAt : ByteArray := prog_9_method_14_code
def yX7_byteAt : MethodName := ⟨RX7, "byteAt", "(I)I"⟩
abbrev cX7_is : ByteArray := prog_9_method_15_code
def yX7_is : MethodName := ⟨RX7, "is", "(IIII)Z"⟩
abbrev cX7_ends : ByteArray := prog_9_method_16_code
def yX7_ends : MethodName := ⟨RX7, "ends", "(III)Z"⟩
abbrev cX7_kindNow : ByteArray := prog_9_method_17_code
def yX7_kindNow : MethodName := ⟨RX7, "kindNow", "()I"⟩
abbrev cX7_lineNow : ByteArray := prog_9_method_18_code
def yX7_lineNow : MethodName := ⟨RX7, "lineNow", "()I"⟩
abbrev cX7_takes : ByteArray := prog_9_method_19_code
def yX7_takes : MethodName := ⟨RX7, "takes", "()V"⟩
abbrev cX7_looked : ByteArray := prog_9_method_20_code
def yX7_looked : MethodName := ⟨RX7, "looked", "(II)I"⟩
abbrev cX7_readNumber : ByteArray := prog_9_method_21_code
def yX7_readNumber : MethodName := ⟨RX7, "readNumber", "(II)I"⟩
abbrev cX7_readCell : ByteArray := prog_9_method_22_code
def yX7_readCell : MethodName := ⟨RX7, "readCell", "()I"⟩
abbrev cX7_readLineOf : ByteArray := prog_9_method_23_code
def yX7_readLineOf : MethodName := ⟨RX7, "readLineOf", "(I)V"⟩
abbrev cX7_readLine : ByteArray := prog_9_method_24_code
def yX7_readLine : MethodName := ⟨RX7, "readLine", "()V"⟩
abbrev cX7_text : ByteArray := prog_9_method_25_code
def yX7_text : MethodName := ⟨RX7, "text", "()I"⟩
abbrev cX7_fault : ByteArray := prog_9_method_26_code
def yX7_fault : MethodName := ⟨RX7, "fault", "()I"⟩
abbrev cX7_isLife : ByteArray := prog_9_method_27_code
def yX7_isLife : MethodName := ⟨RX7, "isLife", "(I)Z"⟩
abbrev cX7_isSitter : ByteArray := prog_9_method_28_code
def yX7_isSitter : MethodName := ⟨RX7, "isSitter", "(I)Z"⟩
abbrev cX7_isPart : ByteArray := prog_9_method_29_code
def yX7_isPart : MethodName := ⟨RX7, "isPart", "(I)Z"⟩
abbrev cX7_starts : ByteArray := prog_9_method_30_code
def yX7_starts : MethodName := ⟨RX7, "starts", "()V"⟩
abbrev cX7_settles : ByteArray := prog_9_method_31_code
def yX7_settles : MethodName := ⟨RX7, "settles", "()V"⟩
abbrev cX7_moves : ByteArray := prog_9_method_32_code
def yX7_moves : MethodName := ⟨RX7, "moves", "(II)I"⟩
abbrev cX7_isTold : ByteArray := prog_9_method_33_code
def yX7_isTold : MethodName := ⟨RX7, "isTold", "()V"⟩
abbrev cX7_isTaken : ByteArray := prog_9_method_34_code
def yX7_isTaken : MethodName := ⟨RX7, "isTaken", "()V"⟩
abbrev cX7_nextCell : ByteArray := prog_9_method_35_code
def yX7_nextCell : MethodName := ⟨RX7, "nextCell", "(II)I"⟩
abbrev cX7_drifts : ByteArray := prog_9_method_36_code
def yX7_drifts : MethodName := ⟨RX7, "drifts", "(I)V"⟩
abbrev cX7_stepGoes : ByteArray := prog_9_method_37_code
def yX7_stepGoes : MethodName := ⟨RX7, "stepGoes", "(Z)V"⟩
abbrev cX7_stepsGo : ByteArray := prog_9_method_38_code
def yX7_stepsGo : MethodName := ⟨RX7, "stepsGo", "(I)V"⟩
abbrev cX7_inRoom : ByteArray := prog_9_method_39_code
def yX7_inRoom : MethodName := ⟨RX7, "inRoom", "(I)I"⟩
abbrev cX7_hadBy : ByteArray := prog_9_method_40_code
def yX7_hadBy : MethodName := ⟨RX7, "hadBy", "(I)I"⟩
abbrev cX7_hadOf : ByteArray := prog_9_method_41_code
def yX7_hadOf : MethodName := ⟨RX7, "hadOf", "(I)I"⟩
abbrev cX7_allIn : ByteArray := prog_9_method_42_code
def yX7_allIn : MethodName := ⟨RX7, "allIn", "()I"⟩
abbrev cX7_allLost : ByteArray := prog_9_method_43_code
def yX7_allLost : MethodName := ⟨RX7, "allLost", "()I"⟩
abbrev cX7_allHad : ByteArray := prog_9_method_44_code
def yX7_allHad : MethodName := ⟨RX7, "allHad", "()I"⟩
abbrev cX7_rule : ByteArray := prog_9_method_45_code
def yX7_rule : MethodName := ⟨RX7, "rule", "(I)I"⟩
abbrev cX7_asTold : ByteArray := prog_9_method_46_code
def yX7_asTold : MethodName := ⟨RX7, "asTold", "(II)I"⟩
abbrev cX7_life : ByteArray := prog_9_method_47_code
def yX7_life : MethodName := ⟨RX7, "life", "(II)I"⟩
abbrev cX7_sitter : ByteArray := prog_9_method_48_code
def yX7_sitter : MethodName := ⟨RX7, "sitter", "(II)I"⟩
abbrev cX7_has : ByteArray := prog_9_method_49_code
def yX7_has : MethodName := ⟨RX7, "has", "(II)I"⟩
abbrev cX7_in : ByteArray := prog_9_method_50_code
def yX7_in : MethodName := ⟨RX7, "in", "(II)I"⟩
abbrev cX7_air : ByteArray := prog_9_method_51_code
def yX7_air : MethodName := ⟨RX7, "air", "(I)I"⟩
abbrev cX7_becomes : ByteArray := prog_9_method_52_code
def yX7_becomes : MethodName := ⟨RX7, "becomes", "(II)I"⟩
abbrev cX7_canBe : ByteArray := prog_9_method_53_code
def yX7_canBe : MethodName := ⟨RX7, "canBe", "(II)Z"⟩
abbrev cX7_alter : ByteArray := prog_9_method_54_code
def yX7_alter : MethodName := ⟨RX7, "alter", "(III)I"⟩
abbrev cX7_seat : ByteArray := prog_9_method_55_code
def yX7_seat : MethodName := ⟨RX7, "seat", "(III)I"⟩
abbrev cX7_blow : ByteArray := prog_9_method_56_code
def yX7_blow : MethodName := ⟨RX7, "blow", "(II)I"⟩
abbrev cX7_price : ByteArray := prog_9_method_57_code
def yX7_price : MethodName := ⟨RX7, "price", "(II)I"⟩
abbrev cX7_open : ByteArray := prog_9_method_58_code
def yX7_open : MethodName := ⟨RX7, "open", "()I"⟩
abbrev cX7_steps : ByteArray := prog_9_method_59_code
def yX7_steps : MethodName := ⟨RX7, "steps", "(I)I"⟩
abbrev cX7_isFar : ByteArray := prog_9_method_60_code
def yX7_isFar : MethodName := ⟨RX7, "isFar", "(I)Z"⟩
abbrev cX7_runs : ByteArray := prog_9_method_61_code
def yX7_runs : MethodName := ⟨RX7, "runs", "(II)I"⟩
abbrev cX7_ahead : ByteArray := prog_9_method_62_code
def yX7_ahead : MethodName := ⟨RX7, "ahead", "(III)I"⟩
abbrev cX7_wet : ByteArray := prog_9_method_63_code
def yX7_wet : MethodName := ⟨RX7, "wet", "(II)I"⟩
abbrev cX7_allLeft : ByteArray := prog_9_method_64_code
def yX7_allLeft : MethodName := ⟨RX7, "allLeft", "()I"⟩
abbrev cX7_over : ByteArray := prog_9_method_65_code
def yX7_over : MethodName := ⟨RX7, "over", "()I"⟩
abbrev cX7_hasIn : ByteArray := prog_9_method_66_code
def yX7_hasIn : MethodName := ⟨RX7, "hasIn", "(IIII)I"⟩
abbrev cX7_best : ByteArray := prog_9_method_67_code
def yX7_best : MethodName := ⟨RX7, "best", "(III)I"⟩
abbrev cX7_cheap : ByteArray := prog_9_method_68_code
def yX7_cheap : MethodName := ⟨RX7, "cheap", "(III)I"⟩
abbrev cX7_clean : ByteArray := prog_9_method_69_code
def yX7_clean : MethodName := ⟨RX7, "clean", "(III)I"⟩
abbrev cX7_need : ByteArray := prog_9_method_70_code
def yX7_need : MethodName := ⟨RX7, "need", "(III)I"⟩
abbrev cX7_swap : ByteArray := prog_9_method_71_code
def yX7_swap : MethodName := ⟨RX7, "swap", "(II)I"⟩
abbrev cX7_fan : ByteArray := prog_9_method_72_code
def yX7_fan : MethodName := ⟨RX7, "fan", "(III)I"⟩
abbrev cX7_common : ByteArray := prog_9_method_73_code
def yX7_common : MethodName := ⟨RX7, "common", "(JJ)J"⟩
abbrev cX7_told : ByteArray := prog_9_method_74_code
def yX7_told : MethodName := ⟨RX7, "told", "(JJI)J"⟩
abbrev cX7_findOdds : ByteArray := prog_9_method_75_code
def yX7_findOdds : MethodName := ⟨RX7, "findOdds", "(III)V"⟩
abbrev cX7_isOdds : ByteArray := prog_9_method_76_code
def yX7_isOdds : MethodName := ⟨RX7, "isOdds", "(IIII)Z"⟩
abbrev cX7_luck : ByteArray := prog_9_method_77_code
def yX7_luck : MethodName := ⟨RX7, "luck", "(IIII)J"⟩
abbrev cX7_mean : ByteArray := prog_9_method_78_code
def yX7_mean : MethodName := ⟨RX7, "mean", "(IIII)J"⟩
abbrev cX7_see : ByteArray := prog_9_method_79_code
def yX7_see : MethodName := ⟨RX7, "see", "(IIII)I"⟩
abbrev cX7_forget : ByteArray := prog_9_method_80_code
def yX7_forget : MethodName := ⟨RX7, "forget", "(I)I"⟩
abbrev cX7_isSoWith : ByteArray := prog_9_method_81_code
def yX7_isSoWith : MethodName := ⟨RX7, "isSoWith", "(III)Z"⟩
abbrev cX7_kinds : ByteArray := prog_9_method_82_code
def yX7_kinds : MethodName := ⟨RX7, "kinds", "(I)I"⟩
abbrev cX7_froms : ByteArray := prog_9_method_83_code
def yX7_froms : MethodName := ⟨RX7, "froms", "(II)I"⟩
abbrev cX7_ask : ByteArray := prog_9_method_84_code
def yX7_ask : MethodName := ⟨RX7, "ask", "(II)I"⟩
abbrev cX7_drift : ByteArray := prog_9_method_85_code
def yX7_drift : MethodName := ⟨RX7, "drift", "(III)I"⟩
abbrev cX7_copies : ByteArray := prog_9_method_86_code
def yX7_copies : MethodName := ⟨RX7, "copies", "(II)V"⟩
abbrev cX7_keep : ByteArray := prog_9_method_87_code
def yX7_keep : MethodName := ⟨RX7, "keep", "(I)I"⟩
abbrev cX7_back : ByteArray := prog_9_method_88_code
def yX7_back : MethodName := ⟨RX7, "back", "(I)I"⟩
abbrev cX7_isSheet : ByteArray := prog_9_method_89_code
def yX7_isSheet : MethodName := ⟨RX7, "isSheet", "(II)Z"⟩
abbrev cX7_sheet : ByteArray := prog_9_method_90_code
def yX7_sheet : MethodName := ⟨RX7, "sheet", "(III)I"⟩
abbrev cX7_lay : ByteArray := prog_9_method_91_code
def yX7_lay : MethodName := ⟨RX7, "lay", "(III)I"⟩
abbrev cX7_read : ByteArray := prog_9_method_92_code
def yX7_read : MethodName := ⟨RX7, "read", "(IIII)I"⟩
abbrev cX7_torn : ByteArray := prog_9_method_93_code
def yX7_torn : MethodName := ⟨RX7, "torn", "()I"⟩
abbrev cX7_count : ByteArray := prog_9_method_94_code
def yX7_count : MethodName := ⟨RX7, "count", "(I)I"⟩
def RJ9 : String := "java/lang/Math"
abbrev cJ9_max_7cf53 : ByteArray := prog_10_method_65_code
def yJ9_max_7cf53 : MethodName := ⟨RJ9, "max", "(II)I"⟩
abbrev cJ9_min_7cf53 : ByteArray := prog_10_method_69_code
def yJ9_min_7cf53 : MethodName := ⟨RJ9, "min", "(II)I"⟩
def RJ0 : String := "java/lang/String"
abbrev cJ0_length_8abf5 : ByteArray := prog_11_method_54_code
def yJ0_length_8abf5 : MethodName := ⟨RJ0, "length", "()I"⟩
abbrev cJ0_charAt_5068e : ByteArray := prog_11_method_56_code
def yJ0_charAt_5068e : MethodName := ⟨RJ0, "charAt", "(I)C"⟩
abbrev cJ0_coder_7d493 : ByteArray := prog_11_method_152_code
def yJ0_coder_7d493 : MethodName := ⟨RJ0, "coder", "()B"⟩
abbrev cJ0_isLatin1_aae02 : ByteArray := prog_11_method_154_code
def yJ0_isLatin1_aae02 : MethodName := ⟨RJ0, "isLatin1", "()Z"⟩
abbrev cJ0_checkIndex_df160 : ByteArray := prog_11_method_155_code
def yJ0_checkIndex_df160 : MethodName := ⟨RJ0, "checkIndex", "(II)V"⟩
def RJ1 : String := "java/lang/StringLatin1"
abbrev cJ1_charAt_3b067 : ByteArray := prog_12_method_2_code
def yJ1_charAt_3b067 : MethodName := ⟨RJ1, "charAt", "([BI)C"⟩
def RJ2 : String := "java/lang/StringUTF16"
abbrev cJ2_getChar_3b067 : ByteArray := prog_13_method_5_code
def yJ2_getChar_3b067 : MethodName := ⟨RJ2, "getChar", "([BI)C"⟩
abbrev cJ2_length_9d52b : ByteArray := prog_13_method_6_code
def yJ2_length_9d52b : MethodName := ⟨RJ2, "length", "([B)I"⟩
abbrev cJ2_charAt_3b067 : ByteArray := prog_13_method_83_code
def yJ2_charAt_3b067 : MethodName := ⟨RJ2, "charAt", "([BI)C"⟩
abbrev cJ2_checkIndex_2214a : ByteArray := prog_13_method_91_code
def yJ2_checkIndex_2214a : MethodName := ⟨RJ2, "checkIndex", "(I[B)V"⟩
def RJ10 : String := "java/lang/System"
def RJ7 : String := "java/util/Arrays"
abbrev cJ7_fill_53178 : ByteArray := prog_15_method_103_code
def yJ7_fill_53178 : MethodName := ⟨RJ7, "fill", "([II)V"⟩
def RJ3 : String := "jdk/internal/util/Preconditions"
abbrev cJ3_checkIndex_8e157 : ByteArray := prog_16_method_11_code
def yJ3_checkIndex_8e157 : MethodName := ⟨RJ3, "checkIndex", "(IILjava/util/function/BiFunction;)I"⟩
def RL : String := "SmokeSeatsLaw"
abbrev cL_law : ByteArray := code
def yL_law : MethodName := ⟨RL, "law", "([I)Z"⟩
end
section
/-! the world behind the constructors: cells by numbers, their ints and longs as one pair of functions -/
def gt : List Cond := lw_tbl.filter goodWord
theorem gt_mem {w : Cond} (h : w ∈ tables_1) (hg : goodWord w = true) : w ∈ gt := List.mem_filter.mpr ⟨List.mem_append_right _ h, hg⟩
theorem gt_sel {w : Cond} (h : w ∈ k2_sels lw_privs) (hg : goodWord w = true) : w ∈ gt := List.mem_filter.mpr ⟨List.mem_append_left _ h, hg⟩
theorem gt_good {c0 w : Cond} {ws : List Cond} (hw : w ∈ gt) : GoodIn (c0 :: gt) (w :: gt) := by
  intro x hx
  have hx' : x ∈ gt := by
    rcases List.mem_cons.mp hx with h | h
    · rw [h]; exact hw
    · exact h
  exact ⟨List.mem_cons_of_mem _ hx', good_of_word (List.mem_filter.mp hx').2⟩
theorem tm1 {w : Cond} (h : w ∈ tables_1_1) : w ∈ tables_1 := List.mem_append_left _ h
theorem tm2 {w : Cond} (h : w ∈ tables_1_2) : w ∈ tables_1 := List.mem_append_right _ (List.mem_append_left _ h)
theorem tm3 {w : Cond} (h : w ∈ tables_1_3) : w ∈ tables_1 := List.mem_append_right _ (List.mem_append_right _ (List.mem_append_left _ h))
theorem tm4 {w : Cond} (h : w ∈ tables_1_4) : w ∈ tables_1 := List.mem_append_right _ (List.mem_append_right _ (List.mem_append_right _ (List.mem_append_left _ h)))
theorem tm5 {w : Cond} (h : w ∈ tables_1_5) : w ∈ tables_1 := List.mem_append_right _ (List.mem_append_right _ (List.mem_append_right _ (List.mem_append_right _ (List.mem_append_left _ h))))
theorem tm6 {w : Cond} (h : w ∈ tables_1_6) : w ∈ tables_1 := List.mem_append_right _ (List.mem_append_right _ (List.mem_append_right _ (List.mem_append_right _ (List.mem_append_right _ h))))
abbrev cls : List vw_C := [(RX0, TX0, 3), (RX1, TX1, 7), (RX2, TX2, 15), (RX3, TX3, 5), (RX4, TX4, 3), (RX5, TX5, 8), (RX6, TX6, 9), (RX7, TX7, 28)]
theorem in0 : ∀ w ∈ u_ws RX0 TX0 3, w ∈ gt := by decide +kernel
theorem in1 : ∀ w ∈ u_ws RX1 TX1 7, w ∈ gt := by decide +kernel
theorem in2 : ∀ w ∈ u_ws RX2 TX2 15, w ∈ gt := by decide +kernel
theorem in3 : ∀ w ∈ u_ws RX3 TX3 5, w ∈ gt := by decide +kernel
theorem in4 : ∀ w ∈ u_ws RX4 TX4 3, w ∈ gt := by decide +kernel
theorem in5 : ∀ w ∈ u_ws RX5 TX5 8, w ∈ gt := by decide +kernel
theorem in6 : ∀ w ∈ u_ws RX6 TX6 9, w ∈ gt := by decide +kernel
theorem in7 : ∀ w ∈ u_ws RX7 TX7 28, w ∈ gt := by decide +kernel
/-- what each cell is: 0 to 7 objects of the classes, 8 bytes, 9 ints, 10 booleans, 11 Images, 12 Rooms, 13 Sheets -/
def kdL : List Nat := [6, 2, 9, 9, 9, 9, 9, 9, 9, 9, 9, 9, 9, 9, 2, 9, 9, 9, 9, 9, 9, 9, 9, 9, 9, 9, 9, 3, 9, 9, 9, 9, 11, 5, 8, 13, 1, 12, 2, 9, 9, 9, 9, 9, 9, 9, 9, 9, 9, 9, 9, 2, 9, 9, 9, 9, 9, 9, 9, 9, 9, 9, 9, 9, 2, 9, 9, 9, 9, 9, 9, 9, 9, 9, 9, 9, 9, 2, 9, 9, 9, 9, 9, 9, 9, 9, 9, 9, 9, 9, 2, 9, 9, 9, 9, 9, 9, 9, 9, 9, 9, 9, 9, 2, 9, 9, 9, 9, 9, 9, 9, 9, 9, 9, 9, 9, 2, 9, 9, 9, 9, 9, 9, 9, 9, 9, 9, 9, 9, 2, 9, 9, 9, 9, 9, 9, 9, 9, 9, 9, 9, 9, 9, 0, 2, 9, 9, 9, 9, 9, 9, 9, 9, 9, 9, 9, 9, 3, 9, 9, 9, 9, 0, 2, 9, 9, 9, 9, 9, 9, 9, 9, 9, 9, 9, 9, 3, 9, 9, 9, 9, 4, 9, 4, 9, 4, 9, 4, 9, 7, 9, 9, 10, 9, 9, 9, 9, 9, 9, 9, 9]
def lnL : List Nat := [0, 0, 3, 3, 3, 3, 3, 3, 60, 4, 4, 12, 6, 4, 0, 3, 3, 3, 3, 3, 3, 60, 4, 4, 12, 6, 4, 0, 6, 6, 6, 6, 2, 0, 160, 4, 0, 8, 0, 3, 3, 3, 3, 3, 3, 60, 4, 4, 12, 6, 4, 0, 3, 3, 3, 3, 3, 3, 60, 4, 4, 12, 6, 4, 0, 3, 3, 3, 3, 3, 3, 60, 4, 4, 12, 6, 4, 0, 3, 3, 3, 3, 3, 3, 60, 4, 4, 12, 6, 4, 0, 3, 3, 3, 3, 3, 3, 60, 4, 4, 12, 6, 4, 0, 3, 3, 3, 3, 3, 3, 60, 4, 4, 12, 6, 4, 0, 3, 3, 3, 3, 3, 3, 60, 4, 4, 12, 6, 4, 0, 3, 3, 3, 3, 3, 3, 60, 4, 4, 12, 6, 4, 80, 0, 0, 3, 3, 3, 3, 3, 3, 60, 4, 4, 12, 6, 4, 0, 6, 6, 6, 6, 0, 0, 3, 3, 3, 3, 3, 3, 60, 4, 4, 12, 6, 4, 0, 6, 6, 6, 6, 0, 40, 0, 40, 0, 40, 0, 40, 0, 393, 131, 2, 131, 160, 20, 80, 4, 4, 160, 131]
def kd (k : Nat) : Nat := kdL.getD k 99
def ln (k : Nat) : Nat := lnL.getD k 0
def lnI (k : Nat) : Nat := if kd k = 9 then ln k else 0
def lnB (k : Nat) : Nat := if kd k = 8 then ln k else 0
def lnZ (k : Nat) : Nat := if kd k = 10 then ln k else 0
theorem kd_lt {k c : Nat} (h : kd k = c) (hc : c < 99) : k < 201 := by
  rcases Nat.lt_or_ge k 201 with h1 | h1
  · exact h1
  · have : kd k = 99 := by
      unfold kd
      rw [List.getD_eq_getElem?_getD, List.getElem?_eq_none (by rw [show kdL.length = 201 from by decide +kernel]; exact h1)]
      rfl
    omega
abbrev St : Type := (Nat → Nat → Int32) × (Nat → Nat → Int64)
abbrev Gm : Type := va_G × (Nat → Nat) × (Nat → Prop) × (Nat → ClassId) × (Nat → Nat) × (Nat → Nat)
def gD (Γ : Gm) : va_G := Γ.1
def gL (Γ : Gm) : Nat → Nat := Γ.2.1
def gA (Γ : Gm) : Nat → Prop := Γ.2.2.1
def gC (Γ : Gm) : Nat → ClassId := Γ.2.2.2.1
def gK (Γ : Gm) : Nat → Nat := Γ.2.2.2.2.1
def gV (Γ : Gm) : Nat → Nat := Γ.2.2.2.2.2
def tys (Γ : Gm) : List (ClassId × FieldType) := [(gC Γ 8, .byte), (gC Γ 9, .int), (gC Γ 10, .boolean), (gC Γ 11, .object "SmokeSeats$Image"), (gC Γ 12, .object "SmokeSeats$Room"), (gC Γ 13, .object "SmokeSeats$Sheet")]
def entK (Γ : Gm) (c k : Nat) (f : Nat → Int32) (g : Nat → Int64) : va_E :=
  match c with
  | 0 => .inr (0, [.int (f 0), .ref (gL Γ (k + 1)), .ref (gL Γ (k + 14))])
  | 1 => .inr (1, [.ref (gL Γ (k + 1)), .int (f 1), .int (f 2), .int (f 3), .int (f 4), .long (g 5), .long (g 6)])
  | 2 => .inr (2, [.int (f 0), .int (f 1), .int (f 2), .ref (gL Γ (k + 1)), .ref (gL Γ (k + 2)), .ref (gL Γ (k + 3)), .ref (gL Γ (k + 4)), .ref (gL Γ (k + 5)), .ref (gL Γ (k + 6)), .ref (gL Γ (k + 7)), .ref (gL Γ (k + 8)), .ref (gL Γ (k + 9)), .ref (gL Γ (k + 10)), .ref (gL Γ (k + 11)), .ref (gL Γ (k + 12))])
  | 3 => .inr (3, [.int (f 0), .ref (gL Γ (k + 1)), .ref (gL Γ (k + 2)), .ref (gL Γ (k + 3)), .ref (gL Γ (k + 4))])
  | 4 => .inr (4, [.int (f 0), .int (f 1), .ref (gL Γ (k + 1))])
  | 5 => .inr (5, [.ref (gL Γ (k + 1)), .int (f 1), .int (f 2), .int (f 3), .int (f 4), .int (f 5), .int (f 6), .int (f 7)])
  | 6 => .inr (6, [.ref (gL Γ (k + 1)), .ref (gL Γ (k + 14)), .ref (gL Γ (k + 27)), .ref (gL Γ (k + 32)), .ref (gL Γ (k + 33)), .ref (gL Γ (k + 35)), .ref (gL Γ (k + 36)), .ref (gL Γ (k + 142)), .int (f 8)])
  | 7 => .inr (7, [.ref (gL Γ (k + 1)), .ref (gL Γ (k + 2)), .ref (gL Γ (k + 3)), .int (f 3), .int (f 4), .ref (gL Γ (k + 4)), .int (f 6), .int (f 7), .int (f 8), .int (f 9), .ref (gL Γ (k + 5)), .int (f 11), .int (f 12), .int (f 13), .int (f 14), .int (f 15), .int (f 16), .int (f 17), .ref (gL Γ (k + 6)), .long (g 19), .long (g 20), .long (g 21), .ref (gL Γ (k + 7)), .ref (gL Γ (k + 8)), .ref (gL Γ (k + 9)), .ref (gL Γ (k + 10)), .int (f 26), .ref (gL Γ (k + 11))])
  | 8 => .inl (gC Γ 8, ln k, .inl f)
  | 9 => .inl (gC Γ 9, ln k, .inl f)
  | 10 => .inl (gC Γ 10, ln k, .inl f)
  | 11 => .inl (gC Γ 11, ln k, .inr (.inr (.inr (.inr (fun j => some (gL Γ (k + 111 + 19 * j)))))))
  | 12 => .inl (gC Γ 12, ln k, .inr (.inr (.inr (.inr (fun j => some (gL Γ (k + 1 + 13 * j)))))))
  | 13 => .inl (gC Γ 13, ln k, .inr (.inr (.inr (.inr (fun j => some (gL Γ (k + 146 + 2 * j)))))))
  | _ => .inr (0, [])
def ent (Γ : Gm) (s : St) (k : Nat) : va_E := entK Γ (kd k) k (s.1 k) (s.2 k)
def wl (Γ : Gm) (s : St) : va_W := (List.range 201).map (fun k => (gL Γ k, ent Γ s k))
theorem wl_get {Γ : Gm} {s : St} {k : Nat} (h : k < 201) : (wl Γ s)[k]? = some (gL Γ k, ent Γ s k) := by
  unfold wl
  rw [List.getElem?_map, List.getElem?_range h]
  rfl
theorem wl_set {Γ : Gm} {s s' : St} {k : Nat} {e : va_E} (hk : k < 201) (h1 : ent Γ s' k = e) (h2 : ∀ j, j ≠ k → s'.1 j = s.1 j ∧ s'.2 j = s.2 j) : (wl Γ s).set k (gL Γ k, e) = wl Γ s' := by
  apply List.ext_getElem?
  intro i
  rw [List.getElem?_set]
  by_cases hi : k = i
  · subst hi
    rw [if_pos rfl, wl_get hk, h1]
    simp [wl, hk]
  · rw [if_neg hi]
    rcases Nat.lt_or_ge i 201 with h3 | h3
    · rw [wl_get h3, wl_get h3]
      obtain ⟨e1, e2⟩ := h2 i (fun h => hi h.symm)
      simp only [ent, e1, e2]
    · simp [wl, h3]
def wI (s : St) (k i : Nat) (x : Int32) : St := (fun a => if a = k then upd (s.1 k) i x else s.1 a, s.2)
def wJ (s : St) (k i : Nat) (x : Int64) : St := (s.1, fun a => if a = k then vp_updL (s.2 k) i x else s.2 a)
/-- a row of ints is written as a whole -/
def wR (s : St) (k : Nat) (f : Nat → Int32) : St := (fun a => if a = k then f else s.1 a, s.2)
theorem wI_o {s : St} {k i : Nat} {x : Int32} (j : Nat) (h : j ≠ k) : (wI s k i x).1 j = s.1 j ∧ (wI s k i x).2 j = s.2 j := ⟨if_neg h, rfl⟩
theorem wR_o {s : St} {k : Nat} {f : Nat → Int32} (j : Nat) (h : j ≠ k) : (wR s k f).1 j = s.1 j ∧ (wR s k f).2 j = s.2 j := ⟨if_neg h, rfl⟩
theorem wJ_o {s : St} {k i : Nat} {x : Int64} (j : Nat) (h : j ≠ k) : (wJ s k i x).1 j = s.1 j ∧ (wJ s k i x).2 j = s.2 j := ⟨rfl, if_neg h⟩
theorem wI_k {s : St} {k i : Nat} {x : Int32} : (wI s k i x).1 k = upd (s.1 k) i x := if_pos rfl
theorem wR_k {s : St} {k : Nat} {f : Nat → Int32} : (wR s k f).1 k = f := if_pos rfl
theorem wJ_k {s : St} {k i : Nat} {x : Int64} : (wJ s k i x).2 k = vp_updL (s.2 k) i x := if_pos rfl
end
section
/-! the judgement of the walks: Zw, over a bundle of the machine's names -/
def isNest : Cond → Bool
  | .methodLinkNest .. => true
  | _ => false
def nestW : List Cond := tables_1.filter isNest
def lenS : List Nat := [5, 5, 4, 5, 6, 3, 5]
def bytS : List (List Int32) := [[112, 108, 97, 105, 110], [104, 101, 97, 118, 121], [116, 104, 105, 110], [104, 97, 112, 112, 121], [115, 105, 116, 116, 101, 114], [97, 105, 114], [112, 114, 105, 99, 101]]
def txS : List (Nat × String) := [(80, "plain"), (86, "heavy"), (88, "thin"), (90, "happy"), (92, "sitter"), (94, "air"), (96, "price")]
def Ag (Γ : Gm) (U : State) (H : Heap) : Prop :=
  va_K (gD Γ) cls (tys Γ) U ∧ (∀ w ∈ nestW, va_Nw w U) ∧ (∀ (i : Nat) (q : Nat × String), txS[i]? = some q → vk_R "SmokeSeats$Tape" q.1 q.2 (gK Γ i) U) ∧ vk_S 7 lenS bytS (gK Γ) (gV Γ) (gA Γ) U H ∧ va_Z "java/lang/String" "COMPACT_STRINGS" "Z" (.int 1) (gA Γ) U H ∧ va_Zq "jdk/internal/util/Preconditions" "SIOOBE_FORMATTER" "Ljava/util/function/BiFunction;" (gA Γ) U H
theorem nest_tables {w : Cond} (h : isNest w = true) : w.onTables = true := by cases w <;> first | rfl | (simp [isNest] at h)
theorem nest_warm {w : Cond} (h : isNest w = true) {s U : State} (hW : s.WarmedH U.vm) (hZ : va_Nw w s) : va_Nw w U := by
  cases w <;> first | exact va_Nw.warmM hW hZ | (simp [isNest] at h)
theorem va_Zq.kept' {C n d : String} {A : Nat → Prop} {U : State} {H H1 : Heap} (h : va_Zq C n d A U H) (hq : ∀ a : Nat, a < H.size → ¬ A a → H1[a]? = H[a]?) : va_Zq C n d A U H1 := by
  rcases h with h | ⟨t, h⟩
  · exact Or.inl (h.kept hq)
  · exact Or.inr ⟨t, h.kept hq⟩
theorem va_Zq.moved' {C n d : String} {A : Nat → Prop} {u U : State} {H : Heap} (hvm : u.vm.Alike U.vm) (h : va_Zq C n d A u H) : va_Zq C n d A U H := by
  rcases h with h | ⟨t, h⟩
  · exact Or.inl (h.moved hvm)
  · exact Or.inr ⟨t, h.moved hvm⟩
/-- the ambient facts go to a later state: its tables warmed, its old cells as they were -/
theorem Ag.to {Γ : Gm} {s U : State} {H : Heap} (h : Ag Γ s s.heap) (hW : s.WarmedH U.vm) (hq : ∀ a : Nat, a < s.heap.size → ¬ gA Γ a → H[a]? = s.heap[a]?) : Ag Γ U H := by
  obtain ⟨h1, h2, h3, h4, h5, h6⟩ := h
  exact ⟨va_K.moved hW.alike h1, fun w hw => nest_warm (List.mem_filter.mp hw).2 hW (h2 w hw), fun i q hi => vk_R.warm hW (h3 i q hi), (h4.kept hq).moved hW.alike, (h5.kept hq).moved hW.alike, va_Zq.moved' hW.alike (h6.kept' hq)⟩
theorem Ag.same {Γ : Gm} {u U : State} (hv : U.vm = u.vm) (hh : U.heap = u.heap) (h : Ag Γ u u.heap) : Ag Γ U U.heap := by
  obtain ⟨h1, h2, h3, h4, h5, h6⟩ := h
  have hA : u.vm.Alike U.vm := by rw [hv]; exact Vm.Alike.refl _
  rw [hh]
  exact ⟨va_K.moved hA h1, fun w hw => va_Nw.same (nest_tables (List.mem_filter.mp hw).2) hv.symm (h2 w hw), fun i q hi => vk_R.same hv (h3 i q hi), h4.moved hA, h5.moved hA, va_Zq.moved' hA h6⟩
abbrev Cx : Type := Program × Launch × Env × Room × State × MethodId × Array Value × List Frame × Method × Code
def xp (X : Cx) : Program := X.1
def xl (X : Cx) : Launch := X.2.1
def xe (X : Cx) : Env := X.2.2.1
def xR (X : Cx) : Room := X.2.2.2.1
def xs (X : Cx) : State := X.2.2.2.2.1
def xm (X : Cx) : MethodId := X.2.2.2.2.2.1
def xa (X : Cx) : Array Value := X.2.2.2.2.2.2.1
def xb (X : Cx) : List Frame := X.2.2.2.2.2.2.2.1
def xM (X : Cx) : Method := X.2.2.2.2.2.2.2.2.1
def xc (X : Cx) : Code := X.2.2.2.2.2.2.2.2.2
def hp (Γ : Gm) (s : St) (H : Heap) : Prop := va_P (gD Γ) cls (wl Γ s) H ∧ va_D (gA Γ) (wl Γ s)
def Po (Γ : Gm) (r : Option Value × St) : Array Value → State → Outcome → State → Prop := fun _ st o t => (o = .returned r.1 ∧ hp Γ r.2 t.heap) ∧ va_F (gA Γ) st t
def rmd (d : Nat) : Room := { frames := d, cells := 0, slots := 0, locals := 100 * d }
/-- a method's contract: from the world s with these arguments it answers r.1 and leaves the world r.2 -/
def Ct (l : Launch) (Γ : Gm) (y : MethodName) (cc : ByteArray) (nL : Nat) (ret : Option FieldType) (d : Nat) (args : List Value) (s : St) (r : Option Value × St) : Prop :=
  Met l y (.code y cc nL ret :: gt) (rmd d) (va_Pc args (fun U => hp Γ s U.heap ∧ Ag Γ U U.heap)) (Po Γ r) 0 0 (gA Γ)
def Zw (X : Cx) (Γ : Gm) (nL : Nat) (r : Option Value × St) (s : St) (pc : Nat) (lv : List (Nat × Value)) (st : List Value) : Prop :=
  ∀ (H : Heap) (locs : List Loc) (ls : Array Slot), hp Γ s H → va_S (gA Γ) (xs X).heap H locs → lv_has ls nL lv →
    W (xp X) (xl X) (xe X) (xR X) (xs X) (xm X) (xa X) (xb X) (xM X) (xc X) H locs 0 0 (MQ (xb X) (Po Γ r) (xa X) (xs X) 0 0 (gA Γ)) (F0 (xm X) pc ls st)
/-- what a walk stands on -/
def Amb (X : Cx) (Γ : Gm) (cc : ByteArray) (own : String) (nL : Nat) (ret : Option FieldType) (d : Nat) : Prop :=
  (xp X).tables.exec = Jvm.exec ∧ (xc X).code = cc ∧ (xc X).maxLocals = nL ∧ (xs X).vm.findClass own = some (xm X).cls ∧ (∀ w ∈ gt, w.before (xa X) (xs X) = true) ∧ Ag Γ (xs X) (xs X).heap ∧ (xM X).sig.returnType = ret ∧ (xM X).locks = false ∧ xR X = rmd d
theorem Ct.of {l : Launch} {Γ : Gm} {y : MethodName} {cc : ByteArray} {nL : Nat} {ret : Option FieldType} {d : Nat} {args : List Value} {s : St} {r : Option Value × St} (hy : plainName y.cls = true) (hn : (lg_sl args).length ≤ nL)
    (h : ∀ X : Cx, xl X = l → Amb X Γ cc y.cls nL ret d → Zw X Γ nL r s 0 (lv_args 0 args) []) : Ct l Γ y cc nL ret d args s r := by
  unfold Ct
  refine Met.ofW (cc := cc) (maxL := nL) (ret := ret) hy rfl ?_
  intro p e st m as below meth c s₁ B hml hv
  obtain ⟨rfl, hP, hA⟩ := hv
  have hts := atoms_spec (ws := Cond.code y cc nL ret :: gt) B.pre
  have hown : st.vm.findClass y.cls = some m.cls := findClass_of_methodNamed B.named
  have hl := lv_entry args (n := nL) hn
  rw [lg_entry_eq]
  exact h (p, l, e, rmd d, st, m, args.toArray, below, meth, c) rfl ⟨B.exec, B.bytes, hml, hown, fun w hw => hts w (List.mem_cons_of_mem _ hw), hA, B.returns, B.notSynchronized, rfl⟩ st.heap [] _ hP va_S.rf hl
end
section
theorem z_iconst {X : Cx} {Γ : Gm} {cc : ByteArray} {own : String} {nL : Nat} {ret : Option FieldType} {d : Nat} {r : Option Value × St} {s : St} {pc : Nat} {lv : List (Nat × Value)} {st : List Value} (hX : Amb X Γ cc own nL ret d) {n : Int} {v : Int32} (hd : decode cc pc = .ok (.iconst n, 1)) (hv : Int32.ofInt n = v) (k : Zw X Γ nL r s (pc + 1) lv (.int v :: st)) : Zw X Γ nL r s pc lv (st) := fun H locs ls hP hS hl => lv_iconst hX.1 hX.2.1 hd hv (k H locs ls hP hS hl)
theorem z_bipush {X : Cx} {Γ : Gm} {cc : ByteArray} {own : String} {nL : Nat} {ret : Option FieldType} {d : Nat} {r : Option Value × St} {s : St} {pc : Nat} {lv : List (Nat × Value)} {st : List Value} (hX : Amb X Γ cc own nL ret d) {n : Int} {v : Int32} (hd : decode cc pc = .ok (.bipush n, 2)) (hv : (Int8.ofInt n).toInt32 = v) (k : Zw X Γ nL r s (pc + 2) lv (.int v :: st)) : Zw X Γ nL r s pc lv (st) := fun H locs ls hP hS hl => lv_bipush hX.1 hX.2.1 hd hv (k H locs ls hP hS hl)
theorem z_sipush {X : Cx} {Γ : Gm} {cc : ByteArray} {own : String} {nL : Nat} {ret : Option FieldType} {d : Nat} {r : Option Value × St} {s : St} {pc : Nat} {lv : List (Nat × Value)} {st : List Value} (hX : Amb X Γ cc own nL ret d) {n : Int} {v : Int32} (hd : decode cc pc = .ok (.sipush n, 3)) (hv : (Int16.ofInt n).toInt32 = v) (k : Zw X Γ nL r s (pc + 3) lv (.int v :: st)) : Zw X Γ nL r s pc lv (st) := fun H locs ls hP hS hl => lv_sipush hX.1 hX.2.1 hd hv (k H locs ls hP hS hl)
theorem z_lconst {X : Cx} {Γ : Gm} {cc : ByteArray} {own : String} {nL : Nat} {ret : Option FieldType} {d : Nat} {r : Option Value × St} {s : St} {pc : Nat} {lv : List (Nat × Value)} {st : List Value} (hX : Amb X Γ cc own nL ret d) {n : Fin 2} {v : Int64} (hd : decode cc pc = .ok (.lconst n, 1)) (hv : Int64.ofNat (n : Nat) = v) (k : Zw X Γ nL r s (pc + 1) lv (.long v :: st)) : Zw X Γ nL r s pc lv (st) := fun H locs ls hP hS hl => lv_lconst hX.1 hX.2.1 hd hv (k H locs ls hP hS hl)
theorem z_ldc {X : Cx} {Γ : Gm} {cc : ByteArray} {own : String} {nL : Nat} {ret : Option FieldType} {d : Nat} {r : Option Value × St} {s : St} {pc : Nat} {lv : List (Nat × Value)} {st : List Value} (hX : Amb X Γ cc own nL ret d) {n : Nat} {v : Int32} (hd : decode cc pc = .ok (.ldc n, 2)) (hc : Cond.constant own n v ∈ gt) (k : Zw X Γ nL r s (pc + 2) lv (.int v :: st)) : Zw X Γ nL r s pc lv (st) := fun H locs ls hP hS hl => lv_ldc hX.1 hX.2.1 hX.2.2.2.1 (hX.2.2.2.2.1 _ hc) hd (k H locs ls hP hS hl)
theorem z_ldc2 {X : Cx} {Γ : Gm} {cc : ByteArray} {own : String} {nL : Nat} {ret : Option FieldType} {d : Nat} {r : Option Value × St} {s : St} {pc : Nat} {lv : List (Nat × Value)} {st : List Value} (hX : Amb X Γ cc own nL ret d) {n : Nat} {v : Int64} (hd : decode cc pc = .ok (.ldc2_w n, 3)) (hc : Cond.constantLong own n v ∈ gt) (k : Zw X Γ nL r s (pc + 3) lv (.long v :: st)) : Zw X Γ nL r s pc lv (st) := fun H locs ls hP hS hl => lv_ldc2 hX.1 hX.2.1 hX.2.2.2.1 (hX.2.2.2.2.1 _ hc) hd (k H locs ls hP hS hl)
theorem z_iload_n {X : Cx} {Γ : Gm} {cc : ByteArray} {own : String} {nL : Nat} {ret : Option FieldType} {d : Nat} {r : Option Value × St} {s : St} {pc : Nat} {lv : List (Nat × Value)} {st : List Value} (hX : Amb X Γ cc own nL ret d) {n : Fin 4} {x : Int32} (hd : decode cc pc = .ok (.iload_n n, 1)) (j : Nat) (hj : lv[j]? = some ((n : Nat), .int x)) (k : Zw X Γ nL r s (pc + 1) lv (.int x :: st)) : Zw X Γ nL r s pc lv (st) := fun H locs ls hP hS hl => lv_iload_n hX.1 hX.2.1 hd rfl (lv_at hl j hj) (k H locs ls hP hS hl)
theorem z_iload {X : Cx} {Γ : Gm} {cc : ByteArray} {own : String} {nL : Nat} {ret : Option FieldType} {d : Nat} {r : Option Value × St} {s : St} {pc : Nat} {lv : List (Nat × Value)} {st : List Value} (hX : Amb X Γ cc own nL ret d) {n : Nat} {x : Int32} (hd : decode cc pc = .ok (.iload n, 2)) (j : Nat) (hj : lv[j]? = some (n, .int x)) (k : Zw X Γ nL r s (pc + 2) lv (.int x :: st)) : Zw X Γ nL r s pc lv (st) := fun H locs ls hP hS hl => lv_iload hX.1 hX.2.1 hd (lv_at hl j hj) (k H locs ls hP hS hl)
theorem z_istore_n {X : Cx} {Γ : Gm} {cc : ByteArray} {own : String} {nL : Nat} {ret : Option FieldType} {d : Nat} {r : Option Value × St} {s : St} {pc : Nat} {lv : List (Nat × Value)} {st : List Value} (hX : Amb X Γ cc own nL ret d) {n : Fin 4} {x : Int32} {lv2 : List (Nat × Value)} (hd : decode cc pc = .ok (.istore_n n, 1)) (hn : (n : Nat) < nL) (hl2 : ((n : Nat), Value.int x) :: lv.filter (fun q => !(q.1 == (n : Nat)) && !(q.1 + 1 == (n : Nat) && q.2.category == 2)) = lv2) (k : Zw X Γ nL r s (pc + 1) lv2 (st)) : Zw X Γ nL r s pc lv (.int x :: st) := fun H locs ls hP hS hl => lv_istore_n hX.1 hX.2.1 hd rfl hl hn hl2 (fun ls2 h2 => k H locs ls2 hP hS h2)
theorem z_istore {X : Cx} {Γ : Gm} {cc : ByteArray} {own : String} {nL : Nat} {ret : Option FieldType} {d : Nat} {r : Option Value × St} {s : St} {pc : Nat} {lv : List (Nat × Value)} {st : List Value} (hX : Amb X Γ cc own nL ret d) {n : Nat} {x : Int32} {lv2 : List (Nat × Value)} (hd : decode cc pc = .ok (.istore n, 2)) (hn : n < nL) (hl2 : (n, Value.int x) :: lv.filter (fun q => !(q.1 == n) && !(q.1 + 1 == n && q.2.category == 2)) = lv2) (k : Zw X Γ nL r s (pc + 2) lv2 (st)) : Zw X Γ nL r s pc lv (.int x :: st) := fun H locs ls hP hS hl => lv_istore hX.1 hX.2.1 hd hl hn hl2 (fun ls2 h2 => k H locs ls2 hP hS h2)
theorem z_lload_n {X : Cx} {Γ : Gm} {cc : ByteArray} {own : String} {nL : Nat} {ret : Option FieldType} {d : Nat} {r : Option Value × St} {s : St} {pc : Nat} {lv : List (Nat × Value)} {st : List Value} (hX : Amb X Γ cc own nL ret d) {n : Fin 4} {x : Int64} (hd : decode cc pc = .ok (.lload_n n, 1)) (j : Nat) (hj : lv[j]? = some ((n : Nat), .long x)) (k : Zw X Γ nL r s (pc + 1) lv (.long x :: st)) : Zw X Γ nL r s pc lv (st) := fun H locs ls hP hS hl => lv_lload_n hX.1 hX.2.1 hd rfl (lv_at hl j hj) (k H locs ls hP hS hl)
theorem z_lload {X : Cx} {Γ : Gm} {cc : ByteArray} {own : String} {nL : Nat} {ret : Option FieldType} {d : Nat} {r : Option Value × St} {s : St} {pc : Nat} {lv : List (Nat × Value)} {st : List Value} (hX : Amb X Γ cc own nL ret d) {n : Nat} {x : Int64} (hd : decode cc pc = .ok (.lload n, 2)) (j : Nat) (hj : lv[j]? = some (n, .long x)) (k : Zw X Γ nL r s (pc + 2) lv (.long x :: st)) : Zw X Γ nL r s pc lv (st) := fun H locs ls hP hS hl => lv_lload hX.1 hX.2.1 hd (lv_at hl j hj) (k H locs ls hP hS hl)
theorem z_lstore_n {X : Cx} {Γ : Gm} {cc : ByteArray} {own : String} {nL : Nat} {ret : Option FieldType} {d : Nat} {r : Option Value × St} {s : St} {pc : Nat} {lv : List (Nat × Value)} {st : List Value} (hX : Amb X Γ cc own nL ret d) {n : Fin 4} {x : Int64} {lv2 : List (Nat × Value)} (hd : decode cc pc = .ok (.lstore_n n, 1)) (hn : (n : Nat) + 1 < nL) (hl2 : ((n : Nat), Value.long x) :: lv.filter (fun q => !(q.1 == (n : Nat)) && (!(q.1 == (n : Nat) + 1) && !(q.1 + 1 == (n : Nat) && q.2.category == 2))) = lv2) (k : Zw X Γ nL r s (pc + 1) lv2 (st)) : Zw X Γ nL r s pc lv (.long x :: st) := fun H locs ls hP hS hl => lv_lstore_n hX.1 hX.2.1 hd rfl hl hn hl2 (fun ls2 h2 => k H locs ls2 hP hS h2)
theorem z_lstore {X : Cx} {Γ : Gm} {cc : ByteArray} {own : String} {nL : Nat} {ret : Option FieldType} {d : Nat} {r : Option Value × St} {s : St} {pc : Nat} {lv : List (Nat × Value)} {st : List Value} (hX : Amb X Γ cc own nL ret d) {n : Nat} {x : Int64} {lv2 : List (Nat × Value)} (hd : decode cc pc = .ok (.lstore n, 2)) (hn : n + 1 < nL) (hl2 : (n, Value.long x) :: lv.filter (fun q => !(q.1 == n) && (!(q.1 == n + 1) && !(q.1 + 1 == n && q.2.category == 2))) = lv2) (k : Zw X Γ nL r s (pc + 2) lv2 (st)) : Zw X Γ nL r s pc lv (.long x :: st) := fun H locs ls hP hS hl => lv_lstore hX.1 hX.2.1 hd hl hn hl2 (fun ls2 h2 => k H locs ls2 hP hS h2)
theorem z_aload_n {X : Cx} {Γ : Gm} {cc : ByteArray} {own : String} {nL : Nat} {ret : Option FieldType} {d : Nat} {r : Option Value × St} {s : St} {pc : Nat} {lv : List (Nat × Value)} {st : List Value} (hX : Amb X Γ cc own nL ret d) {n : Fin 4} {x : Nat} (hd : decode cc pc = .ok (.aload_n n, 1)) (j : Nat) (hj : lv[j]? = some ((n : Nat), .ref x)) (k : Zw X Γ nL r s (pc + 1) lv (.ref x :: st)) : Zw X Γ nL r s pc lv (st) := fun H locs ls hP hS hl => lv_aload_n hX.1 hX.2.1 hd rfl (lv_at hl j hj) (k H locs ls hP hS hl)
theorem z_aload {X : Cx} {Γ : Gm} {cc : ByteArray} {own : String} {nL : Nat} {ret : Option FieldType} {d : Nat} {r : Option Value × St} {s : St} {pc : Nat} {lv : List (Nat × Value)} {st : List Value} (hX : Amb X Γ cc own nL ret d) {n : Nat} {x : Nat} (hd : decode cc pc = .ok (.aload n, 2)) (j : Nat) (hj : lv[j]? = some (n, .ref x)) (k : Zw X Γ nL r s (pc + 2) lv (.ref x :: st)) : Zw X Γ nL r s pc lv (st) := fun H locs ls hP hS hl => lv_aload hX.1 hX.2.1 hd (lv_at hl j hj) (k H locs ls hP hS hl)
theorem z_astore_n {X : Cx} {Γ : Gm} {cc : ByteArray} {own : String} {nL : Nat} {ret : Option FieldType} {d : Nat} {r : Option Value × St} {s : St} {pc : Nat} {lv : List (Nat × Value)} {st : List Value} (hX : Amb X Γ cc own nL ret d) {n : Fin 4} {x : Nat} {lv2 : List (Nat × Value)} (hd : decode cc pc = .ok (.astore_n n, 1)) (hn : (n : Nat) < nL) (hl2 : ((n : Nat), Value.ref x) :: lv.filter (fun q => !(q.1 == (n : Nat)) && !(q.1 + 1 == (n : Nat) && q.2.category == 2)) = lv2) (k : Zw X Γ nL r s (pc + 1) lv2 (st)) : Zw X Γ nL r s pc lv (.ref x :: st) := fun H locs ls hP hS hl => lv_astore_n hX.1 hX.2.1 hd rfl hl hn hl2 (fun ls2 h2 => k H locs ls2 hP hS h2)
theorem z_astore {X : Cx} {Γ : Gm} {cc : ByteArray} {own : String} {nL : Nat} {ret : Option FieldType} {d : Nat} {r : Option Value × St} {s : St} {pc : Nat} {lv : List (Nat × Value)} {st : List Value} (hX : Amb X Γ cc own nL ret d) {n : Nat} {x : Nat} {lv2 : List (Nat × Value)} (hd : decode cc pc = .ok (.astore n, 2)) (hn : n < nL) (hl2 : (n, Value.ref x) :: lv.filter (fun q => !(q.1 == n) && !(q.1 + 1 == n && q.2.category == 2)) = lv2) (k : Zw X Γ nL r s (pc + 2) lv2 (st)) : Zw X Γ nL r s pc lv (.ref x :: st) := fun H locs ls hP hS hl => lv_astore hX.1 hX.2.1 hd hl hn hl2 (fun ls2 h2 => k H locs ls2 hP hS h2)
theorem z_iinc {X : Cx} {Γ : Gm} {cc : ByteArray} {own : String} {nL : Nat} {ret : Option FieldType} {d : Nat} {r : Option Value × St} {s : St} {pc : Nat} {lv : List (Nat × Value)} {st : List Value} (hX : Amb X Γ cc own nL ret d) {i : Nat} {n : Int} {x v : Int32} {lv2 : List (Nat × Value)} (hd : decode cc pc = .ok (.iinc i n, 3)) (j : Nat) (hj : lv[j]? = some (i, .int x)) (hv : x + Int32.ofInt n = v) (hn : i < nL) (hl2 : (i, Value.int v) :: lv.filter (fun q => !(q.1 == i) && !(q.1 + 1 == i && q.2.category == 2)) = lv2) (k : Zw X Γ nL r s (pc + 3) lv2 (st)) : Zw X Γ nL r s pc lv (st) := fun H locs ls hP hS hl => lv_iinc hX.1 hX.2.1 hd hl hj hv hn hl2 (fun ls2 h2 => k H locs ls2 hP hS h2)
theorem z_iadd {X : Cx} {Γ : Gm} {cc : ByteArray} {own : String} {nL : Nat} {ret : Option FieldType} {d : Nat} {r : Option Value × St} {s : St} {pc : Nat} {lv : List (Nat × Value)} {st : List Value} (hX : Amb X Γ cc own nL ret d) {x y : Int32} (hd : decode cc pc = .ok (.iadd, 1)) (k : Zw X Γ nL r s (pc + 1) lv (.int (x + y) :: st)) : Zw X Γ nL r s pc lv (.int y :: .int x :: st) := fun H locs ls hP hS hl => lv_iadd hX.1 hX.2.1 hd (k H locs ls hP hS hl)
theorem z_isub {X : Cx} {Γ : Gm} {cc : ByteArray} {own : String} {nL : Nat} {ret : Option FieldType} {d : Nat} {r : Option Value × St} {s : St} {pc : Nat} {lv : List (Nat × Value)} {st : List Value} (hX : Amb X Γ cc own nL ret d) {x y : Int32} (hd : decode cc pc = .ok (.isub, 1)) (k : Zw X Γ nL r s (pc + 1) lv (.int (x - y) :: st)) : Zw X Γ nL r s pc lv (.int y :: .int x :: st) := fun H locs ls hP hS hl => lv_isub hX.1 hX.2.1 hd (k H locs ls hP hS hl)
theorem z_imul {X : Cx} {Γ : Gm} {cc : ByteArray} {own : String} {nL : Nat} {ret : Option FieldType} {d : Nat} {r : Option Value × St} {s : St} {pc : Nat} {lv : List (Nat × Value)} {st : List Value} (hX : Amb X Γ cc own nL ret d) {x y : Int32} (hd : decode cc pc = .ok (.imul, 1)) (k : Zw X Γ nL r s (pc + 1) lv (.int (x * y) :: st)) : Zw X Γ nL r s pc lv (.int y :: .int x :: st) := fun H locs ls hP hS hl => lv_imul hX.1 hX.2.1 hd (k H locs ls hP hS hl)
theorem z_iand {X : Cx} {Γ : Gm} {cc : ByteArray} {own : String} {nL : Nat} {ret : Option FieldType} {d : Nat} {r : Option Value × St} {s : St} {pc : Nat} {lv : List (Nat × Value)} {st : List Value} (hX : Amb X Γ cc own nL ret d) {x y : Int32} (hd : decode cc pc = .ok (.iand, 1)) (k : Zw X Γ nL r s (pc + 1) lv (.int (x &&& y) :: st)) : Zw X Γ nL r s pc lv (.int y :: .int x :: st) := fun H locs ls hP hS hl => lv_iand hX.1 hX.2.1 hd (k H locs ls hP hS hl)
theorem z_ior {X : Cx} {Γ : Gm} {cc : ByteArray} {own : String} {nL : Nat} {ret : Option FieldType} {d : Nat} {r : Option Value × St} {s : St} {pc : Nat} {lv : List (Nat × Value)} {st : List Value} (hX : Amb X Γ cc own nL ret d) {x y : Int32} (hd : decode cc pc = .ok (.ior, 1)) (k : Zw X Γ nL r s (pc + 1) lv (.int (x ||| y) :: st)) : Zw X Γ nL r s pc lv (.int y :: .int x :: st) := fun H locs ls hP hS hl => lv_ior hX.1 hX.2.1 hd (k H locs ls hP hS hl)
theorem z_ixor {X : Cx} {Γ : Gm} {cc : ByteArray} {own : String} {nL : Nat} {ret : Option FieldType} {d : Nat} {r : Option Value × St} {s : St} {pc : Nat} {lv : List (Nat × Value)} {st : List Value} (hX : Amb X Γ cc own nL ret d) {x y : Int32} (hd : decode cc pc = .ok (.ixor, 1)) (k : Zw X Γ nL r s (pc + 1) lv (.int (x ^^^ y) :: st)) : Zw X Γ nL r s pc lv (.int y :: .int x :: st) := fun H locs ls hP hS hl => lv_ixor hX.1 hX.2.1 hd (k H locs ls hP hS hl)
theorem z_idiv {X : Cx} {Γ : Gm} {cc : ByteArray} {own : String} {nL : Nat} {ret : Option FieldType} {d : Nat} {r : Option Value × St} {s : St} {pc : Nat} {lv : List (Nat × Value)} {st : List Value} (hX : Amb X Γ cc own nL ret d) {x y : Int32} (hd : decode cc pc = .ok (.idiv, 1)) (hy : ¬ y = 0) (k : Zw X Γ nL r s (pc + 1) lv (.int (x / y) :: st)) : Zw X Γ nL r s pc lv (.int y :: .int x :: st) := fun H locs ls hP hS hl => lv_idiv hX.1 hX.2.1 hd hy (k H locs ls hP hS hl)
theorem z_irem {X : Cx} {Γ : Gm} {cc : ByteArray} {own : String} {nL : Nat} {ret : Option FieldType} {d : Nat} {r : Option Value × St} {s : St} {pc : Nat} {lv : List (Nat × Value)} {st : List Value} (hX : Amb X Γ cc own nL ret d) {x y : Int32} (hd : decode cc pc = .ok (.irem, 1)) (hy : ¬ y = 0) (k : Zw X Γ nL r s (pc + 1) lv (.int (x - x / y * y) :: st)) : Zw X Γ nL r s pc lv (.int y :: .int x :: st) := fun H locs ls hP hS hl => lv_irem hX.1 hX.2.1 hd hy (k H locs ls hP hS hl)
theorem z_ladd {X : Cx} {Γ : Gm} {cc : ByteArray} {own : String} {nL : Nat} {ret : Option FieldType} {d : Nat} {r : Option Value × St} {s : St} {pc : Nat} {lv : List (Nat × Value)} {st : List Value} (hX : Amb X Γ cc own nL ret d) {x y : Int64} (hd : decode cc pc = .ok (.ladd, 1)) (k : Zw X Γ nL r s (pc + 1) lv (.long (x + y) :: st)) : Zw X Γ nL r s pc lv (.long y :: .long x :: st) := fun H locs ls hP hS hl => lv_ladd hX.1 hX.2.1 hd (k H locs ls hP hS hl)
theorem z_lsub {X : Cx} {Γ : Gm} {cc : ByteArray} {own : String} {nL : Nat} {ret : Option FieldType} {d : Nat} {r : Option Value × St} {s : St} {pc : Nat} {lv : List (Nat × Value)} {st : List Value} (hX : Amb X Γ cc own nL ret d) {x y : Int64} (hd : decode cc pc = .ok (.lsub, 1)) (k : Zw X Γ nL r s (pc + 1) lv (.long (x - y) :: st)) : Zw X Γ nL r s pc lv (.long y :: .long x :: st) := fun H locs ls hP hS hl => lv_lsub hX.1 hX.2.1 hd (k H locs ls hP hS hl)
theorem z_lmul {X : Cx} {Γ : Gm} {cc : ByteArray} {own : String} {nL : Nat} {ret : Option FieldType} {d : Nat} {r : Option Value × St} {s : St} {pc : Nat} {lv : List (Nat × Value)} {st : List Value} (hX : Amb X Γ cc own nL ret d) {x y : Int64} (hd : decode cc pc = .ok (.lmul, 1)) (k : Zw X Γ nL r s (pc + 1) lv (.long (x * y) :: st)) : Zw X Γ nL r s pc lv (.long y :: .long x :: st) := fun H locs ls hP hS hl => lv_lmul hX.1 hX.2.1 hd (k H locs ls hP hS hl)
theorem z_ldiv {X : Cx} {Γ : Gm} {cc : ByteArray} {own : String} {nL : Nat} {ret : Option FieldType} {d : Nat} {r : Option Value × St} {s : St} {pc : Nat} {lv : List (Nat × Value)} {st : List Value} (hX : Amb X Γ cc own nL ret d) {x y : Int64} (hd : decode cc pc = .ok (.ldiv, 1)) (hy : ¬ y = 0) (k : Zw X Γ nL r s (pc + 1) lv (.long (x / y) :: st)) : Zw X Γ nL r s pc lv (.long y :: .long x :: st) := fun H locs ls hP hS hl => lv_ldiv hX.1 hX.2.1 hd hy (k H locs ls hP hS hl)
theorem z_lrem {X : Cx} {Γ : Gm} {cc : ByteArray} {own : String} {nL : Nat} {ret : Option FieldType} {d : Nat} {r : Option Value × St} {s : St} {pc : Nat} {lv : List (Nat × Value)} {st : List Value} (hX : Amb X Γ cc own nL ret d) {x y : Int64} (hd : decode cc pc = .ok (.lrem, 1)) (hy : ¬ y = 0) (k : Zw X Γ nL r s (pc + 1) lv (.long (x - x / y * y) :: st)) : Zw X Γ nL r s pc lv (.long y :: .long x :: st) := fun H locs ls hP hS hl => lv_lrem hX.1 hX.2.1 hd hy (k H locs ls hP hS hl)
theorem z_ishl {X : Cx} {Γ : Gm} {cc : ByteArray} {own : String} {nL : Nat} {ret : Option FieldType} {d : Nat} {r : Option Value × St} {s : St} {pc : Nat} {lv : List (Nat × Value)} {st : List Value} (hX : Amb X Γ cc own nL ret d) {x y : Int32} (hd : decode cc pc = .ok (.ishl, 1)) (k : Zw X Γ nL r s (pc + 1) lv (.int (x <<< (y &&& 31)) :: st)) : Zw X Γ nL r s pc lv (.int y :: .int x :: st) := fun H locs ls hP hS hl => lv_ishl hX.1 hX.2.1 hd (k H locs ls hP hS hl)
theorem z_ishr {X : Cx} {Γ : Gm} {cc : ByteArray} {own : String} {nL : Nat} {ret : Option FieldType} {d : Nat} {r : Option Value × St} {s : St} {pc : Nat} {lv : List (Nat × Value)} {st : List Value} (hX : Amb X Γ cc own nL ret d) {x y : Int32} (hd : decode cc pc = .ok (.ishr, 1)) (k : Zw X Γ nL r s (pc + 1) lv (.int (x >>> (y &&& 31)) :: st)) : Zw X Γ nL r s pc lv (.int y :: .int x :: st) := fun H locs ls hP hS hl => lv_ishr hX.1 hX.2.1 hd (k H locs ls hP hS hl)
theorem z_iushr {X : Cx} {Γ : Gm} {cc : ByteArray} {own : String} {nL : Nat} {ret : Option FieldType} {d : Nat} {r : Option Value × St} {s : St} {pc : Nat} {lv : List (Nat × Value)} {st : List Value} (hX : Amb X Γ cc own nL ret d) {x y : Int32} (hd : decode cc pc = .ok (.iushr, 1)) (k : Zw X Γ nL r s (pc + 1) lv (.int ((x.toUInt32 >>> (y.toUInt32 &&& Int32.toUInt32 31)).toInt32) :: st)) : Zw X Γ nL r s pc lv (.int y :: .int x :: st) := fun H locs ls hP hS hl => lv_iushr hX.1 hX.2.1 hd rfl (k H locs ls hP hS hl)
theorem z_i2l {X : Cx} {Γ : Gm} {cc : ByteArray} {own : String} {nL : Nat} {ret : Option FieldType} {d : Nat} {r : Option Value × St} {s : St} {pc : Nat} {lv : List (Nat × Value)} {st : List Value} (hX : Amb X Γ cc own nL ret d) {x : Int32} (hd : decode cc pc = .ok (.i2l, 1)) (k : Zw X Γ nL r s (pc + 1) lv (.long x.toInt64 :: st)) : Zw X Γ nL r s pc lv (.int x :: st) := fun H locs ls hP hS hl => lv_i2l hX.1 hX.2.1 hd rfl (k H locs ls hP hS hl)
theorem z_i2b {X : Cx} {Γ : Gm} {cc : ByteArray} {own : String} {nL : Nat} {ret : Option FieldType} {d : Nat} {r : Option Value × St} {s : St} {pc : Nat} {lv : List (Nat × Value)} {st : List Value} (hX : Amb X Γ cc own nL ret d) {x : Int32} (hd : decode cc pc = .ok (.i2b, 1)) (k : Zw X Γ nL r s (pc + 1) lv (.int x.toInt8.toInt32 :: st)) : Zw X Γ nL r s pc lv (.int x :: st) := fun H locs ls hP hS hl => lv_i2b hX.1 hX.2.1 hd rfl (k H locs ls hP hS hl)
theorem z_i2s {X : Cx} {Γ : Gm} {cc : ByteArray} {own : String} {nL : Nat} {ret : Option FieldType} {d : Nat} {r : Option Value × St} {s : St} {pc : Nat} {lv : List (Nat × Value)} {st : List Value} (hX : Amb X Γ cc own nL ret d) {x : Int32} (hd : decode cc pc = .ok (.i2s, 1)) (k : Zw X Γ nL r s (pc + 1) lv (.int x.toInt16.toInt32 :: st)) : Zw X Γ nL r s pc lv (.int x :: st) := fun H locs ls hP hS hl => lv_i2s hX.1 hX.2.1 hd rfl (k H locs ls hP hS hl)
theorem z_lcmp {X : Cx} {Γ : Gm} {cc : ByteArray} {own : String} {nL : Nat} {ret : Option FieldType} {d : Nat} {r : Option Value × St} {s : St} {pc : Nat} {lv : List (Nat × Value)} {st : List Value} (hX : Amb X Γ cc own nL ret d) {x y : Int64} (hd : decode cc pc = .ok (.lcmp, 1)) (k : Zw X Γ nL r s (pc + 1) lv (.int (lg_cmp x y) :: st)) : Zw X Γ nL r s pc lv (.long y :: .long x :: st) := fun H locs ls hP hS hl => W.lcmp hX.1 hX.2.1 hd (k H locs ls hP hS hl)
theorem z_dup {X : Cx} {Γ : Gm} {cc : ByteArray} {own : String} {nL : Nat} {ret : Option FieldType} {d : Nat} {r : Option Value × St} {s : St} {pc : Nat} {lv : List (Nat × Value)} {st : List Value} (hX : Amb X Γ cc own nL ret d) {v : Value} (hd : decode cc pc = .ok (.dup, 1)) (hv : v.category = 1) (k : Zw X Γ nL r s (pc + 1) lv (v :: v :: st)) : Zw X Γ nL r s pc lv (v :: st) := fun H locs ls hP hS hl => lv_dup hX.1 hX.2.1 hd hv (k H locs ls hP hS hl)
theorem z_pop {X : Cx} {Γ : Gm} {cc : ByteArray} {own : String} {nL : Nat} {ret : Option FieldType} {d : Nat} {r : Option Value × St} {s : St} {pc : Nat} {lv : List (Nat × Value)} {st : List Value} (hX : Amb X Γ cc own nL ret d) {v : Value} (hd : decode cc pc = .ok (.pop, 1)) (hv : v.category = 1) (k : Zw X Γ nL r s (pc + 1) lv (st)) : Zw X Γ nL r s pc lv (v :: st) := fun H locs ls hP hS hl => lv_pop hX.1 hX.2.1 hd hv (k H locs ls hP hS hl)
theorem z_dup2 {X : Cx} {Γ : Gm} {cc : ByteArray} {own : String} {nL : Nat} {ret : Option FieldType} {d : Nat} {r : Option Value × St} {s : St} {pc : Nat} {lv : List (Nat × Value)} {st : List Value} (hX : Amb X Γ cc own nL ret d) {v w : Value} (hd : decode cc pc = .ok (.dup2, 1)) (hv : v.category = 1) (hw : w.category = 1) (k : Zw X Γ nL r s (pc + 1) lv (v :: w :: v :: w :: st)) : Zw X Γ nL r s pc lv (v :: w :: st) := fun H locs ls hP hS hl => lv_dup2_11 hX.1 hX.2.1 hd hv hw (k H locs ls hP hS hl)
theorem z_dup2L {X : Cx} {Γ : Gm} {cc : ByteArray} {own : String} {nL : Nat} {ret : Option FieldType} {d : Nat} {r : Option Value × St} {s : St} {pc : Nat} {lv : List (Nat × Value)} {st : List Value} (hX : Amb X Γ cc own nL ret d) {v : Value} (hd : decode cc pc = .ok (.dup2, 1)) (hv : v.category = 2) (k : Zw X Γ nL r s (pc + 1) lv (v :: v :: st)) : Zw X Γ nL r s pc lv (v :: st) := fun H locs ls hP hS hl => lv_dup2_2 hX.1 hX.2.1 hd hv (k H locs ls hP hS hl)
theorem z_if_eq {X : Cx} {Γ : Gm} {cc : ByteArray} {own : String} {nL : Nat} {ret : Option FieldType} {d : Nat} {r : Option Value × St} {s : St} {pc : Nat} {lv : List (Nat × Value)} {st : List Value} (hX : Amb X Γ cc own nL ret d) {x : Int32} {off : Int} (tgt : Nat) (hd : decode cc pc = .ok (.ifCond .eq off, 3)) (ht : (pc : Int) + off = (tgt : Int)) (kt : x = 0 → Zw X Γ nL r s tgt lv (st)) (kf : ¬ (x = 0) → Zw X Γ nL r s (pc + 3) lv (st)) : Zw X Γ nL r s pc lv (.int x :: st) := fun H locs ls hP hS hl => lv_if_eq hX.1 hX.2.1 hd ht (fun h => kt (by simpa using h) H locs ls hP hS hl) (fun h => kf (by simpa using h) H locs ls hP hS hl)
theorem z_icmp_eq {X : Cx} {Γ : Gm} {cc : ByteArray} {own : String} {nL : Nat} {ret : Option FieldType} {d : Nat} {r : Option Value × St} {s : St} {pc : Nat} {lv : List (Nat × Value)} {st : List Value} (hX : Amb X Γ cc own nL ret d) {x y : Int32} {off : Int} (tgt : Nat) (hd : decode cc pc = .ok (.if_icmp .eq off, 3)) (ht : (pc : Int) + off = (tgt : Int)) (kt : x = y → Zw X Γ nL r s tgt lv (st)) (kf : ¬ (x = y) → Zw X Γ nL r s (pc + 3) lv (st)) : Zw X Γ nL r s pc lv (.int y :: .int x :: st) := fun H locs ls hP hS hl => lv_icmp_eq hX.1 hX.2.1 hd ht (fun h => kt (by simpa using h) H locs ls hP hS hl) (fun h => kf (by simpa using h) H locs ls hP hS hl)
theorem z_if_ne {X : Cx} {Γ : Gm} {cc : ByteArray} {own : String} {nL : Nat} {ret : Option FieldType} {d : Nat} {r : Option Value × St} {s : St} {pc : Nat} {lv : List (Nat × Value)} {st : List Value} (hX : Amb X Γ cc own nL ret d) {x : Int32} {off : Int} (tgt : Nat) (hd : decode cc pc = .ok (.ifCond .ne off, 3)) (ht : (pc : Int) + off = (tgt : Int)) (kt : ¬ x = 0 → Zw X Γ nL r s tgt lv (st)) (kf : ¬ (¬ x = 0) → Zw X Γ nL r s (pc + 3) lv (st)) : Zw X Γ nL r s pc lv (.int x :: st) := fun H locs ls hP hS hl => lv_if_ne hX.1 hX.2.1 hd ht (fun h => kt (by simpa using h) H locs ls hP hS hl) (fun h => kf (by simpa using h) H locs ls hP hS hl)
theorem z_icmp_ne {X : Cx} {Γ : Gm} {cc : ByteArray} {own : String} {nL : Nat} {ret : Option FieldType} {d : Nat} {r : Option Value × St} {s : St} {pc : Nat} {lv : List (Nat × Value)} {st : List Value} (hX : Amb X Γ cc own nL ret d) {x y : Int32} {off : Int} (tgt : Nat) (hd : decode cc pc = .ok (.if_icmp .ne off, 3)) (ht : (pc : Int) + off = (tgt : Int)) (kt : ¬ x = y → Zw X Γ nL r s tgt lv (st)) (kf : ¬ (¬ x = y) → Zw X Γ nL r s (pc + 3) lv (st)) : Zw X Γ nL r s pc lv (.int y :: .int x :: st) := fun H locs ls hP hS hl => lv_icmp_ne hX.1 hX.2.1 hd ht (fun h => kt (by simpa using h) H locs ls hP hS hl) (fun h => kf (by simpa using h) H locs ls hP hS hl)
theorem z_if_lt {X : Cx} {Γ : Gm} {cc : ByteArray} {own : String} {nL : Nat} {ret : Option FieldType} {d : Nat} {r : Option Value × St} {s : St} {pc : Nat} {lv : List (Nat × Value)} {st : List Value} (hX : Amb X Γ cc own nL ret d) {x : Int32} {off : Int} (tgt : Nat) (hd : decode cc pc = .ok (.ifCond .lt off, 3)) (ht : (pc : Int) + off = (tgt : Int)) (kt : x < 0 → Zw X Γ nL r s tgt lv (st)) (kf : ¬ (x < 0) → Zw X Γ nL r s (pc + 3) lv (st)) : Zw X Γ nL r s pc lv (.int x :: st) := fun H locs ls hP hS hl => lv_if_lt hX.1 hX.2.1 hd ht (fun h => kt (by simpa using h) H locs ls hP hS hl) (fun h => kf (by simpa using h) H locs ls hP hS hl)
theorem z_icmp_lt {X : Cx} {Γ : Gm} {cc : ByteArray} {own : String} {nL : Nat} {ret : Option FieldType} {d : Nat} {r : Option Value × St} {s : St} {pc : Nat} {lv : List (Nat × Value)} {st : List Value} (hX : Amb X Γ cc own nL ret d) {x y : Int32} {off : Int} (tgt : Nat) (hd : decode cc pc = .ok (.if_icmp .lt off, 3)) (ht : (pc : Int) + off = (tgt : Int)) (kt : x < y → Zw X Γ nL r s tgt lv (st)) (kf : ¬ (x < y) → Zw X Γ nL r s (pc + 3) lv (st)) : Zw X Γ nL r s pc lv (.int y :: .int x :: st) := fun H locs ls hP hS hl => lv_icmp_lt hX.1 hX.2.1 hd ht (fun h => kt (by simpa using h) H locs ls hP hS hl) (fun h => kf (by simpa using h) H locs ls hP hS hl)
theorem z_if_ge {X : Cx} {Γ : Gm} {cc : ByteArray} {own : String} {nL : Nat} {ret : Option FieldType} {d : Nat} {r : Option Value × St} {s : St} {pc : Nat} {lv : List (Nat × Value)} {st : List Value} (hX : Amb X Γ cc own nL ret d) {x : Int32} {off : Int} (tgt : Nat) (hd : decode cc pc = .ok (.ifCond .ge off, 3)) (ht : (pc : Int) + off = (tgt : Int)) (kt : 0 ≤ x → Zw X Γ nL r s tgt lv (st)) (kf : ¬ (0 ≤ x) → Zw X Γ nL r s (pc + 3) lv (st)) : Zw X Γ nL r s pc lv (.int x :: st) := fun H locs ls hP hS hl => lv_if_ge hX.1 hX.2.1 hd ht (fun h => kt (by simpa using h) H locs ls hP hS hl) (fun h => kf (by simpa using h) H locs ls hP hS hl)
theorem z_icmp_ge {X : Cx} {Γ : Gm} {cc : ByteArray} {own : String} {nL : Nat} {ret : Option FieldType} {d : Nat} {r : Option Value × St} {s : St} {pc : Nat} {lv : List (Nat × Value)} {st : List Value} (hX : Amb X Γ cc own nL ret d) {x y : Int32} {off : Int} (tgt : Nat) (hd : decode cc pc = .ok (.if_icmp .ge off, 3)) (ht : (pc : Int) + off = (tgt : Int)) (kt : y ≤ x → Zw X Γ nL r s tgt lv (st)) (kf : ¬ (y ≤ x) → Zw X Γ nL r s (pc + 3) lv (st)) : Zw X Γ nL r s pc lv (.int y :: .int x :: st) := fun H locs ls hP hS hl => lv_icmp_ge hX.1 hX.2.1 hd ht (fun h => kt (by simpa using h) H locs ls hP hS hl) (fun h => kf (by simpa using h) H locs ls hP hS hl)
theorem z_if_gt {X : Cx} {Γ : Gm} {cc : ByteArray} {own : String} {nL : Nat} {ret : Option FieldType} {d : Nat} {r : Option Value × St} {s : St} {pc : Nat} {lv : List (Nat × Value)} {st : List Value} (hX : Amb X Γ cc own nL ret d) {x : Int32} {off : Int} (tgt : Nat) (hd : decode cc pc = .ok (.ifCond .gt off, 3)) (ht : (pc : Int) + off = (tgt : Int)) (kt : 0 < x → Zw X Γ nL r s tgt lv (st)) (kf : ¬ (0 < x) → Zw X Γ nL r s (pc + 3) lv (st)) : Zw X Γ nL r s pc lv (.int x :: st) := fun H locs ls hP hS hl => lv_if_gt hX.1 hX.2.1 hd ht (fun h => kt (by simpa using h) H locs ls hP hS hl) (fun h => kf (by simpa using h) H locs ls hP hS hl)
theorem z_icmp_gt {X : Cx} {Γ : Gm} {cc : ByteArray} {own : String} {nL : Nat} {ret : Option FieldType} {d : Nat} {r : Option Value × St} {s : St} {pc : Nat} {lv : List (Nat × Value)} {st : List Value} (hX : Amb X Γ cc own nL ret d) {x y : Int32} {off : Int} (tgt : Nat) (hd : decode cc pc = .ok (.if_icmp .gt off, 3)) (ht : (pc : Int) + off = (tgt : Int)) (kt : y < x → Zw X Γ nL r s tgt lv (st)) (kf : ¬ (y < x) → Zw X Γ nL r s (pc + 3) lv (st)) : Zw X Γ nL r s pc lv (.int y :: .int x :: st) := fun H locs ls hP hS hl => lv_icmp_gt hX.1 hX.2.1 hd ht (fun h => kt (by simpa using h) H locs ls hP hS hl) (fun h => kf (by simpa using h) H locs ls hP hS hl)
theorem z_if_le {X : Cx} {Γ : Gm} {cc : ByteArray} {own : String} {nL : Nat} {ret : Option FieldType} {d : Nat} {r : Option Value × St} {s : St} {pc : Nat} {lv : List (Nat × Value)} {st : List Value} (hX : Amb X Γ cc own nL ret d) {x : Int32} {off : Int} (tgt : Nat) (hd : decode cc pc = .ok (.ifCond .le off, 3)) (ht : (pc : Int) + off = (tgt : Int)) (kt : x ≤ 0 → Zw X Γ nL r s tgt lv (st)) (kf : ¬ (x ≤ 0) → Zw X Γ nL r s (pc + 3) lv (st)) : Zw X Γ nL r s pc lv (.int x :: st) := fun H locs ls hP hS hl => lv_if_le hX.1 hX.2.1 hd ht (fun h => kt (by simpa using h) H locs ls hP hS hl) (fun h => kf (by simpa using h) H locs ls hP hS hl)
theorem z_icmp_le {X : Cx} {Γ : Gm} {cc : ByteArray} {own : String} {nL : Nat} {ret : Option FieldType} {d : Nat} {r : Option Value × St} {s : St} {pc : Nat} {lv : List (Nat × Value)} {st : List Value} (hX : Amb X Γ cc own nL ret d) {x y : Int32} {off : Int} (tgt : Nat) (hd : decode cc pc = .ok (.if_icmp .le off, 3)) (ht : (pc : Int) + off = (tgt : Int)) (kt : x ≤ y → Zw X Γ nL r s tgt lv (st)) (kf : ¬ (x ≤ y) → Zw X Γ nL r s (pc + 3) lv (st)) : Zw X Γ nL r s pc lv (.int y :: .int x :: st) := fun H locs ls hP hS hl => lv_icmp_le hX.1 hX.2.1 hd ht (fun h => kt (by simpa using h) H locs ls hP hS hl) (fun h => kf (by simpa using h) H locs ls hP hS hl)
theorem z_goto {X : Cx} {Γ : Gm} {cc : ByteArray} {own : String} {nL : Nat} {ret : Option FieldType} {d : Nat} {r : Option Value × St} {s : St} {pc : Nat} {lv : List (Nat × Value)} {st : List Value} (hX : Amb X Γ cc own nL ret d) {off : Int} (tgt : Nat) (hd : decode cc pc = .ok (.goto off, 3)) (ht : (pc : Int) + off = (tgt : Int)) (k : Zw X Γ nL r s tgt lv (st)) : Zw X Γ nL r s pc lv (st) := fun H locs ls hP hS hl => lv_goto hX.1 hX.2.1 hd ht (k H locs ls hP hS hl)
theorem z_tcase {X : Cx} {Γ : Gm} {cc : ByteArray} {own : String} {nL : Nat} {ret : Option FieldType} {d : Nat} {r : Option Value × St} {s : St} {pc : Nat} {lv : List (Nat × Value)} {st : List Value} (hX : Amb X Γ cc own nL ret d) {dflt lo hi off : Int} {offs : Array Int} {len : Nat} {x : Int32} (tgt : Nat) (hd : decode cc pc = .ok (.tableswitch dflt lo hi offs, len)) (c : Int32) (hx : x = c) (h : ¬ c.toInt < lo ∧ ¬ hi < c.toInt ∧ offs[(c.toInt - lo).toNat]? = some off) (ht : (pc : Int) + off = (tgt : Int)) (k : Zw X Γ nL r s tgt lv (st)) : Zw X Γ nL r s pc lv (.int x :: st) := fun H locs ls hP hS hl => by subst hx; exact lv_tableIn hX.1 hX.2.1 hd h.1 h.2.1 h.2.2 ht (k H locs ls hP hS hl)
theorem z_tdef {X : Cx} {Γ : Gm} {cc : ByteArray} {own : String} {nL : Nat} {ret : Option FieldType} {d : Nat} {r : Option Value × St} {s : St} {pc : Nat} {lv : List (Nat × Value)} {st : List Value} (hX : Amb X Γ cc own nL ret d) {dflt lo hi : Int} {offs : Array Int} {len : Nat} {x : Int32} (tgt : Nat) (hd : decode cc pc = .ok (.tableswitch dflt lo hi offs, len)) (h : x.toInt < lo ∨ hi < x.toInt) (ht : (pc : Int) + dflt = (tgt : Int)) (k : Zw X Γ nL r s tgt lv (st)) : Zw X Γ nL r s pc lv (.int x :: st) := fun H locs ls hP hS hl => lv_tableOut hX.1 hX.2.1 hd h ht (k H locs ls hP hS hl)
theorem z_look {X : Cx} {Γ : Gm} {cc : ByteArray} {own : String} {nL : Nat} {ret : Option FieldType} {d : Nat} {r : Option Value × St} {s : St} {pc : Nat} {lv : List (Nat × Value)} {st : List Value} (hX : Amb X Γ cc own nL ret d) {dflt off : Int} {ps : Array (Int × Int)} {len : Nat} {x : Int32} (tgt : Nat) (hd : decode cc pc = .ok (.lookupswitch dflt ps, len)) (hp : (ps.toList.zip (ps.toList.drop 1)).all (fun (a, next) => a.1 < next.1) = true) (ho : Op.lookupswitch.offset ps.toList dflt x.toInt = off) (ht : (pc : Int) + off = (tgt : Int)) (k : Zw X Γ nL r s tgt lv (st)) : Zw X Γ nL r s pc lv (.int x :: st) := fun H locs ls hP hS hl => lv_lookup hX.1 hX.2.1 hd hp ho ht (k H locs ls hP hS hl)
theorem z_nm {X : Cx} {Γ : Gm} {nL : Nat} {r : Option Value × St} {s : St} {pc : Nat} {lv : List (Nat × Value)} {st : List Value} {x v : Int32} (e : v = x) (k : Zw X Γ nL r s pc lv (.int v :: st)) : Zw X Γ nL r s pc lv (.int x :: st) := e ▸ k
theorem z_nmL {X : Cx} {Γ : Gm} {nL : Nat} {r : Option Value × St} {s : St} {pc : Nat} {lv : List (Nat × Value)} {st : List Value} {x v : Int64} (e : v = x) (k : Zw X Γ nL r s pc lv (.long v :: st)) : Zw X Γ nL r s pc lv (.long x :: st) := e ▸ k
theorem z_sub {X : Cx} {Γ : Gm} {nL : Nat} {r : Option Value × St} {s : St} {pc : Nat} {lv lv2 : List (Nat × Value)} {st : List Value} (ks : List Nat) (h : lv_pick lv ks = lv2) (k : Zw X Γ nL r s pc lv2 st) : Zw X Γ nL r s pc lv st := fun H locs ls hP hS hl => k H locs ls hP hS (lv_sub hl ks h)
theorem z_iret {X : Cx} {Γ : Gm} {cc : ByteArray} {own : String} {nL : Nat} {ret : Option FieldType} {d : Nat} {r : Option Value × St} {s : St} {pc : Nat} {lv : List (Nat × Value)} {st : List Value} (hX : Amb X Γ cc own nL ret d) {v : Int32} (hd : decode cc pc = .ok (.ireturn, 1)) (hr : ret = some .int) (he : (some (Value.int v), s) = r)  : Zw X Γ nL r s pc lv ([.int v]) := fun H locs ls hP hS hl => W.iret hX.1 hX.2.1 (hX.2.2.2.2.2.2.1.trans hr) (fun t ht hW => ⟨⟨by rw [← he], by rw [ht, ← he]; exact hP⟩, hS.F ht⟩) hS.2.2 hd hX.2.2.2.2.2.2.2.1
theorem z_zret {X : Cx} {Γ : Gm} {cc : ByteArray} {own : String} {nL : Nat} {ret : Option FieldType} {d : Nat} {r : Option Value × St} {s : St} {pc : Nat} {lv : List (Nat × Value)} {st : List Value} (hX : Amb X Γ cc own nL ret d) {v : Int32} (hd : decode cc pc = .ok (.ireturn, 1)) (hr : ret = some .boolean) (hv : v = 0 ∨ v = 1) (he : (some (Value.int v), s) = r)  : Zw X Γ nL r s pc lv ([.int v]) := fun H locs ls hP hS hl => W.zret hX.1 hX.2.1 (hX.2.2.2.2.2.2.1.trans hr) (by rcases hv with rfl | rfl <;> decide) (fun t ht hW => ⟨⟨by rw [← he], by rw [ht, ← he]; exact hP⟩, hS.F ht⟩) hS.2.2 hd hX.2.2.2.2.2.2.2.1
theorem z_lret {X : Cx} {Γ : Gm} {cc : ByteArray} {own : String} {nL : Nat} {ret : Option FieldType} {d : Nat} {r : Option Value × St} {s : St} {pc : Nat} {lv : List (Nat × Value)} {st : List Value} (hX : Amb X Γ cc own nL ret d) {v : Int64} (hd : decode cc pc = .ok (.lreturn, 1)) (hr : ret = some .long) (he : (some (Value.long v), s) = r)  : Zw X Γ nL r s pc lv ([.long v]) := fun H locs ls hP hS hl => W.lret hX.1 hX.2.1 (hX.2.2.2.2.2.2.1.trans hr) (fun t ht hW => ⟨⟨by rw [← he], by rw [ht, ← he]; exact hP⟩, hS.F ht⟩) hS.2.2 hd hX.2.2.2.2.2.2.2.1
theorem z_vret {X : Cx} {Γ : Gm} {cc : ByteArray} {own : String} {nL : Nat} {ret : Option FieldType} {d : Nat} {r : Option Value × St} {s : St} {pc : Nat} {lv : List (Nat × Value)} {st : List Value} (hX : Amb X Γ cc own nL ret d) (hd : decode cc pc = .ok (.return_, 1)) (hr : ret = none) (he : (none, s) = r)  : Zw X Γ nL r s pc lv ([]) := fun H locs ls hP hS hl => W.vret hX.1 hX.2.1 (hX.2.2.2.2.2.2.1.trans hr) (fun t ht hW => ⟨⟨by rw [← he], by rw [ht, ← he]; exact hP⟩, hS.F ht⟩) hS.2.2 hd hX.2.2.2.2.2.2.2.1
end
section
def flds (Γ : Gm) (c k : Nat) (f : Nat → Int32) (g : Nat → Int64) : List Value := match entK Γ c k f g with
  | .inr q => q.2
  | .inl _ => []
theorem z_getG {X : Cx} {Γ : Gm} {cc : ByteArray} {own : String} {nL : Nat} {ret : Option FieldType} {d : Nat} {r : Option Value × St} {s : St} {pc : Nat} {lv : List (Nat × Value)} {st : List Value} (hX : Amb X Γ cc own nL ret d) {k ci j idx N : Nat} {C : String} {T : u_T} {fs : List Value} {v : Value} (hk : k < 201) (he : ent Γ s k = .inr (ci, fs)) (hc : cls[ci]? = some (C, T, N)) (hin : ∀ w ∈ u_ws C T N, w ∈ gt) (hj : j < N) (hv : fs[j]? = some v) (hd : decode cc pc = .ok (.getfield idx, 3)) (hl : Cond.fieldLink own idx (T j).1 (T j).2.1 (T j).2.2.1 ∈ gt) (kk : Zw X Γ nL r s (pc + 3) lv (v :: st)) : Zw X Γ nL r s pc lv (.ref (gL Γ k) :: st) :=
  fun H locs ls hP hS h2 => va_get (D := gD Γ) (cl := cls) (ci := ci) (C := C) (T := T) (N := N) hX.1 hX.2.1 hX.2.2.2.2.1 hin hX.2.2.2.1 hX.2.2.2.2.2.1.1 hP.1 k (by rw [wl_get hk, he]) hc j hj (hX.2.2.2.2.1 _ hl) (fun _ h => h) hv hd (kk H locs ls hP hS h2)
theorem z_putG {X : Cx} {Γ : Gm} {cc : ByteArray} {own : String} {nL : Nat} {ret : Option FieldType} {d : Nat} {r : Option Value × St} {s : St} {pc : Nat} {lv : List (Nat × Value)} {st : List Value} (hX : Amb X Γ cc own nL ret d) {k ci j idx N : Nat} {C : String} {T : u_T} {fs : List Value} {v : Value} {ty : FieldType} {s2 : St} (hk : k < 201) (he : ent Γ s k = .inr (ci, fs)) (hc : cls[ci]? = some (C, T, N)) (hin : ∀ w ∈ u_ws C T N, w ∈ gt) (ty0 : Nat → FieldType) (hty : ∀ k, k < N → parseFieldDescriptor (T k).2.2.1 = some (ty0 k)) (hnm : ∀ a, a < N → ∀ b, b < N → a ≠ b → (T a).2.1 ≠ (T b).2.1) (hj : j < N) (hfin : (T j).2.2.2 = false) (hpd : parseFieldDescriptor (T j).2.2.1 = some ty) (hn : narrow ty v = v) (hfit : fits ty v = true) (hlen : j < fs.length) (h1 : ent Γ s2 k = .inr (ci, fs.set j v)) (h2 : ∀ j, j ≠ k → s2.1 j = s.1 j ∧ s2.2 j = s.2 j) (hd : decode cc pc = .ok (.putfield idx, 3)) (hl : Cond.fieldLink own idx (T j).1 (T j).2.1 (T j).2.2.1 ∈ gt) (kk : Zw X Γ nL r s2 (pc + 3) lv (st)) : Zw X Γ nL r s pc lv (v :: .ref (gL Γ k) :: st) :=
  fun H locs ls hP hS h3 => va_put (D := gD Γ) (cl := cls) (ci := ci) (C := C) (T := T) (N := N) hX.1 hX.2.1 hX.2.2.2.2.1 hin ty0 hty hnm hX.2.2.2.1 hX.2.2.2.2.2.1.1 hP.1 hP.2 hS k (by rw [wl_get hk, he]) hc j hj (hX.2.2.2.2.1 _ hl) (fun _ h => h) hfin hpd hn hfit hlen hd (fun H1 locs1 p1 p2 p3 => kk H1 locs1 ls (by rw [wl_set hk h1 h2] at p1 p2; exact ⟨p1, p2⟩) p3 h3)
theorem ent_0 {Γ : Gm} {s : St} {k : Nat} (h : kd k = 0) : ent Γ s k = .inr (0, flds Γ 0 k (s.1 k) (s.2 k)) := by unfold ent; rw [h]; rfl
theorem z_get0 {X : Cx} {Γ : Gm} {cc : ByteArray} {own : String} {nL : Nat} {ret : Option FieldType} {d : Nat} {r : Option Value × St} {s : St} {pc : Nat} {lv : List (Nat × Value)} {st : List Value} (hX : Amb X Γ cc own nL ret d) {k j idx : Nat} {v : Value} (h : kd k = 0) (hj : j < 3) (hv : (flds Γ 0 k (s.1 k) (s.2 k))[j]? = some v) (hd : decode cc pc = .ok (.getfield idx, 3)) (hl : Cond.fieldLink own idx (TX0 j).1 (TX0 j).2.1 (TX0 j).2.2.1 ∈ gt) (kk : Zw X Γ nL r s (pc + 3) lv (v :: st)) : Zw X Γ nL r s pc lv (.ref (gL Γ k) :: st) :=
  z_getG hX (kd_lt h (by decide)) (ent_0 h) (show cls[0]? = some (RX0, TX0, 3) from rfl) in0 hj hv hd hl kk
theorem z_putI0 {X : Cx} {Γ : Gm} {cc : ByteArray} {own : String} {nL : Nat} {ret : Option FieldType} {d : Nat} {r : Option Value × St} {s : St} {pc : Nat} {lv : List (Nat × Value)} {st : List Value} (hX : Amb X Γ cc own nL ret d) {k j idx : Nat} {x : Int32} {s2 : St} (h : kd k = 0) (hj : j < 3) (hfin : (TX0 j).2.2.2 = false) (hpd : parseFieldDescriptor (TX0 j).2.2.1 = some .int) (hs : (flds Γ 0 k (s.1 k) (s.2 k)).set j (.int x) = flds Γ 0 k (upd (s.1 k) j x) (s.2 k)) (hd : decode cc pc = .ok (.putfield idx, 3)) (hl : Cond.fieldLink own idx (TX0 j).1 (TX0 j).2.1 (TX0 j).2.2.1 ∈ gt) (e : s2 = wI s k j x) (kk : Zw X Γ nL r s2 (pc + 3) lv (st)) : Zw X Γ nL r s pc lv (.int x :: .ref (gL Γ k) :: st) := by
  subst e
  exact z_putG hX (kd_lt h (by decide)) (ent_0 h) (show cls[0]? = some (RX0, TX0, 3) from rfl) in0 tyX0 tyX0_ok nmX0 hj hfin hpd rfl rfl hj (by rw [ent_0 h, wI_k, hs]; rfl) wI_o hd hl kk
theorem z_putZ0 {X : Cx} {Γ : Gm} {cc : ByteArray} {own : String} {nL : Nat} {ret : Option FieldType} {d : Nat} {r : Option Value × St} {s : St} {pc : Nat} {lv : List (Nat × Value)} {st : List Value} (hX : Amb X Γ cc own nL ret d) {k j idx : Nat} {x : Int32} {s2 : St} (h : kd k = 0) (hj : j < 3) (hfin : (TX0 j).2.2.2 = false) (hpd : parseFieldDescriptor (TX0 j).2.2.1 = some .boolean) (hx : x = 0 ∨ x = 1) (hs : (flds Γ 0 k (s.1 k) (s.2 k)).set j (.int x) = flds Γ 0 k (upd (s.1 k) j x) (s.2 k)) (hd : decode cc pc = .ok (.putfield idx, 3)) (hl : Cond.fieldLink own idx (TX0 j).1 (TX0 j).2.1 (TX0 j).2.2.1 ∈ gt) (e : s2 = wI s k j x) (kk : Zw X Γ nL r s2 (pc + 3) lv (st)) : Zw X Γ nL r s pc lv (.int x :: .ref (gL Γ k) :: st) := by
  subst e
  exact z_putG hX (kd_lt h (by decide)) (ent_0 h) (show cls[0]? = some (RX0, TX0, 3) from rfl) in0 tyX0 tyX0_ok nmX0 hj hfin hpd (by rcases hx with rfl | rfl <;> decide) (by rcases hx with rfl | rfl <;> decide) hj (by rw [ent_0 h, wI_k, hs]; rfl) wI_o hd hl kk
theorem ent_1 {Γ : Gm} {s : St} {k : Nat} (h : kd k = 1) : ent Γ s k = .inr (1, flds Γ 1 k (s.1 k) (s.2 k)) := by unfold ent; rw [h]; rfl
theorem z_get1 {X : Cx} {Γ : Gm} {cc : ByteArray} {own : String} {nL : Nat} {ret : Option FieldType} {d : Nat} {r : Option Value × St} {s : St} {pc : Nat} {lv : List (Nat × Value)} {st : List Value} (hX : Amb X Γ cc own nL ret d) {k j idx : Nat} {v : Value} (h : kd k = 1) (hj : j < 7) (hv : (flds Γ 1 k (s.1 k) (s.2 k))[j]? = some v) (hd : decode cc pc = .ok (.getfield idx, 3)) (hl : Cond.fieldLink own idx (TX1 j).1 (TX1 j).2.1 (TX1 j).2.2.1 ∈ gt) (kk : Zw X Γ nL r s (pc + 3) lv (v :: st)) : Zw X Γ nL r s pc lv (.ref (gL Γ k) :: st) :=
  z_getG hX (kd_lt h (by decide)) (ent_1 h) (show cls[1]? = some (RX1, TX1, 7) from rfl) in1 hj hv hd hl kk
theorem z_putI1 {X : Cx} {Γ : Gm} {cc : ByteArray} {own : String} {nL : Nat} {ret : Option FieldType} {d : Nat} {r : Option Value × St} {s : St} {pc : Nat} {lv : List (Nat × Value)} {st : List Value} (hX : Amb X Γ cc own nL ret d) {k j idx : Nat} {x : Int32} {s2 : St} (h : kd k = 1) (hj : j < 7) (hfin : (TX1 j).2.2.2 = false) (hpd : parseFieldDescriptor (TX1 j).2.2.1 = some .int) (hs : (flds Γ 1 k (s.1 k) (s.2 k)).set j (.int x) = flds Γ 1 k (upd (s.1 k) j x) (s.2 k)) (hd : decode cc pc = .ok (.putfield idx, 3)) (hl : Cond.fieldLink own idx (TX1 j).1 (TX1 j).2.1 (TX1 j).2.2.1 ∈ gt) (e : s2 = wI s k j x) (kk : Zw X Γ nL r s2 (pc + 3) lv (st)) : Zw X Γ nL r s pc lv (.int x :: .ref (gL Γ k) :: st) := by
  subst e
  exact z_putG hX (kd_lt h (by decide)) (ent_1 h) (show cls[1]? = some (RX1, TX1, 7) from rfl) in1 tyX1 tyX1_ok nmX1 hj hfin hpd rfl rfl hj (by rw [ent_1 h, wI_k, hs]; rfl) wI_o hd hl kk
theorem z_putZ1 {X : Cx} {Γ : Gm} {cc : ByteArray} {own : String} {nL : Nat} {ret : Option FieldType} {d : Nat} {r : Option Value × St} {s : St} {pc : Nat} {lv : List (Nat × Value)} {st : List Value} (hX : Amb X Γ cc own nL ret d) {k j idx : Nat} {x : Int32} {s2 : St} (h : kd k = 1) (hj : j < 7) (hfin : (TX1 j).2.2.2 = false) (hpd : parseFieldDescriptor (TX1 j).2.2.1 = some .boolean) (hx : x = 0 ∨ x = 1) (hs : (flds Γ 1 k (s.1 k) (s.2 k)).set j (.int x) = flds Γ 1 k (upd (s.1 k) j x) (s.2 k)) (hd : decode cc pc = .ok (.putfield idx, 3)) (hl : Cond.fieldLink own idx (TX1 j).1 (TX1 j).2.1 (TX1 j).2.2.1 ∈ gt) (e : s2 = wI s k j x) (kk : Zw X Γ nL r s2 (pc + 3) lv (st)) : Zw X Γ nL r s pc lv (.int x :: .ref (gL Γ k) :: st) := by
  subst e
  exact z_putG hX (kd_lt h (by decide)) (ent_1 h) (show cls[1]? = some (RX1, TX1, 7) from rfl) in1 tyX1 tyX1_ok nmX1 hj hfin hpd (by rcases hx with rfl | rfl <;> decide) (by rcases hx with rfl | rfl <;> decide) hj (by rw [ent_1 h, wI_k, hs]; rfl) wI_o hd hl kk
theorem z_putJ1 {X : Cx} {Γ : Gm} {cc : ByteArray} {own : String} {nL : Nat} {ret : Option FieldType} {d : Nat} {r : Option Value × St} {s : St} {pc : Nat} {lv : List (Nat × Value)} {st : List Value} (hX : Amb X Γ cc own nL ret d) {k j idx : Nat} {x : Int64} {s2 : St} (h : kd k = 1) (hj : j < 7) (hfin : (TX1 j).2.2.2 = false) (hpd : parseFieldDescriptor (TX1 j).2.2.1 = some .long) (hs : (flds Γ 1 k (s.1 k) (s.2 k)).set j (.long x) = flds Γ 1 k (s.1 k) (vp_updL (s.2 k) j x)) (hd : decode cc pc = .ok (.putfield idx, 3)) (hl : Cond.fieldLink own idx (TX1 j).1 (TX1 j).2.1 (TX1 j).2.2.1 ∈ gt) (e : s2 = wJ s k j x) (kk : Zw X Γ nL r s2 (pc + 3) lv (st)) : Zw X Γ nL r s pc lv (.long x :: .ref (gL Γ k) :: st) := by
  subst e
  exact z_putG hX (kd_lt h (by decide)) (ent_1 h) (show cls[1]? = some (RX1, TX1, 7) from rfl) in1 tyX1 tyX1_ok nmX1 hj hfin hpd rfl rfl hj (by rw [ent_1 h, wJ_k, hs]; rfl) wJ_o hd hl kk
theorem ent_2 {Γ : Gm} {s : St} {k : Nat} (h : kd k = 2) : ent Γ s k = .inr (2, flds Γ 2 k (s.1 k) (s.2 k)) := by unfold ent; rw [h]; rfl
theorem z_get2 {X : Cx} {Γ : Gm} {cc : ByteArray} {own : String} {nL : Nat} {ret : Option FieldType} {d : Nat} {r : Option Value × St} {s : St} {pc : Nat} {lv : List (Nat × Value)} {st : List Value} (hX : Amb X Γ cc own nL ret d) {k j idx : Nat} {v : Value} (h : kd k = 2) (hj : j < 15) (hv : (flds Γ 2 k (s.1 k) (s.2 k))[j]? = some v) (hd : decode cc pc = .ok (.getfield idx, 3)) (hl : Cond.fieldLink own idx (TX2 j).1 (TX2 j).2.1 (TX2 j).2.2.1 ∈ gt) (kk : Zw X Γ nL r s (pc + 3) lv (v :: st)) : Zw X Γ nL r s pc lv (.ref (gL Γ k) :: st) :=
  z_getG hX (kd_lt h (by decide)) (ent_2 h) (show cls[2]? = some (RX2, TX2, 15) from rfl) in2 hj hv hd hl kk
theorem z_putI2 {X : Cx} {Γ : Gm} {cc : ByteArray} {own : String} {nL : Nat} {ret : Option FieldType} {d : Nat} {r : Option Value × St} {s : St} {pc : Nat} {lv : List (Nat × Value)} {st : List Value} (hX : Amb X Γ cc own nL ret d) {k j idx : Nat} {x : Int32} {s2 : St} (h : kd k = 2) (hj : j < 15) (hfin : (TX2 j).2.2.2 = false) (hpd : parseFieldDescriptor (TX2 j).2.2.1 = some .int) (hs : (flds Γ 2 k (s.1 k) (s.2 k)).set j (.int x) = flds Γ 2 k (upd (s.1 k) j x) (s.2 k)) (hd : decode cc pc = .ok (.putfield idx, 3)) (hl : Cond.fieldLink own idx (TX2 j).1 (TX2 j).2.1 (TX2 j).2.2.1 ∈ gt) (e : s2 = wI s k j x) (kk : Zw X Γ nL r s2 (pc + 3) lv (st)) : Zw X Γ nL r s pc lv (.int x :: .ref (gL Γ k) :: st) := by
  subst e
  exact z_putG hX (kd_lt h (by decide)) (ent_2 h) (show cls[2]? = some (RX2, TX2, 15) from rfl) in2 tyX2 tyX2_ok nmX2 hj hfin hpd rfl rfl hj (by rw [ent_2 h, wI_k, hs]; rfl) wI_o hd hl kk
theorem ent_3 {Γ : Gm} {s : St} {k : Nat} (h : kd k = 3) : ent Γ s k = .inr (3, flds Γ 3 k (s.1 k) (s.2 k)) := by unfold ent; rw [h]; rfl
theorem z_get3 {X : Cx} {Γ : Gm} {cc : ByteArray} {own : String} {nL : Nat} {ret : Option FieldType} {d : Nat} {r : Option Value × St} {s : St} {pc : Nat} {lv : List (Nat × Value)} {st : List Value} (hX : Amb X Γ cc own nL ret d) {k j idx : Nat} {v : Value} (h : kd k = 3) (hj : j < 5) (hv : (flds Γ 3 k (s.1 k) (s.2 k))[j]? = some v) (hd : decode cc pc = .ok (.getfield idx, 3)) (hl : Cond.fieldLink own idx (TX3 j).1 (TX3 j).2.1 (TX3 j).2.2.1 ∈ gt) (kk : Zw X Γ nL r s (pc + 3) lv (v :: st)) : Zw X Γ nL r s pc lv (.ref (gL Γ k) :: st) :=
  z_getG hX (kd_lt h (by decide)) (ent_3 h) (show cls[3]? = some (RX3, TX3, 5) from rfl) in3 hj hv hd hl kk
theorem z_putI3 {X : Cx} {Γ : Gm} {cc : ByteArray} {own : String} {nL : Nat} {ret : Option FieldType} {d : Nat} {r : Option Value × St} {s : St} {pc : Nat} {lv : List (Nat × Value)} {st : List Value} (hX : Amb X Γ cc own nL ret d) {k j idx : Nat} {x : Int32} {s2 : St} (h : kd k = 3) (hj : j < 5) (hfin : (TX3 j).2.2.2 = false) (hpd : parseFieldDescriptor (TX3 j).2.2.1 = some .int) (hs : (flds Γ 3 k (s.1 k) (s.2 k)).set j (.int x) = flds Γ 3 k (upd (s.1 k) j x) (s.2 k)) (hd : decode cc pc = .ok (.putfield idx, 3)) (hl : Cond.fieldLink own idx (TX3 j).1 (TX3 j).2.1 (TX3 j).2.2.1 ∈ gt) (e : s2 = wI s k j x) (kk : Zw X Γ nL r s2 (pc + 3) lv (st)) : Zw X Γ nL r s pc lv (.int x :: .ref (gL Γ k) :: st) := by
  subst e
  exact z_putG hX (kd_lt h (by decide)) (ent_3 h) (show cls[3]? = some (RX3, TX3, 5) from rfl) in3 tyX3 tyX3_ok nmX3 hj hfin hpd rfl rfl hj (by rw [ent_3 h, wI_k, hs]; rfl) wI_o hd hl kk
theorem ent_4 {Γ : Gm} {s : St} {k : Nat} (h : kd k = 4) : ent Γ s k = .inr (4, flds Γ 4 k (s.1 k) (s.2 k)) := by unfold ent; rw [h]; rfl
theorem z_get4 {X : Cx} {Γ : Gm} {cc : ByteArray} {own : String} {nL : Nat} {ret : Option FieldType} {d : Nat} {r : Option Value × St} {s : St} {pc : Nat} {lv : List (Nat × Value)} {st : List Value} (hX : Amb X Γ cc own nL ret d) {k j idx : Nat} {v : Value} (h : kd k = 4) (hj : j < 3) (hv : (flds Γ 4 k (s.1 k) (s.2 k))[j]? = some v) (hd : decode cc pc = .ok (.getfield idx, 3)) (hl : Cond.fieldLink own idx (TX4 j).1 (TX4 j).2.1 (TX4 j).2.2.1 ∈ gt) (kk : Zw X Γ nL r s (pc + 3) lv (v :: st)) : Zw X Γ nL r s pc lv (.ref (gL Γ k) :: st) :=
  z_getG hX (kd_lt h (by decide)) (ent_4 h) (show cls[4]? = some (RX4, TX4, 3) from rfl) in4 hj hv hd hl kk
theorem z_putI4 {X : Cx} {Γ : Gm} {cc : ByteArray} {own : String} {nL : Nat} {ret : Option FieldType} {d : Nat} {r : Option Value × St} {s : St} {pc : Nat} {lv : List (Nat × Value)} {st : List Value} (hX : Amb X Γ cc own nL ret d) {k j idx : Nat} {x : Int32} {s2 : St} (h : kd k = 4) (hj : j < 3) (hfin : (TX4 j).2.2.2 = false) (hpd : parseFieldDescriptor (TX4 j).2.2.1 = some .int) (hs : (flds Γ 4 k (s.1 k) (s.2 k)).set j (.int x) = flds Γ 4 k (upd (s.1 k) j x) (s.2 k)) (hd : decode cc pc = .ok (.putfield idx, 3)) (hl : Cond.fieldLink own idx (TX4 j).1 (TX4 j).2.1 (TX4 j).2.2.1 ∈ gt) (e : s2 = wI s k j x) (kk : Zw X Γ nL r s2 (pc + 3) lv (st)) : Zw X Γ nL r s pc lv (.int x :: .ref (gL Γ k) :: st) := by
  subst e
  exact z_putG hX (kd_lt h (by decide)) (ent_4 h) (show cls[4]? = some (RX4, TX4, 3) from rfl) in4 tyX4 tyX4_ok nmX4 hj hfin hpd rfl rfl hj (by rw [ent_4 h, wI_k, hs]; rfl) wI_o hd hl kk
theorem ent_5 {Γ : Gm} {s : St} {k : Nat} (h : kd k = 5) : ent Γ s k = .inr (5, flds Γ 5 k (s.1 k) (s.2 k)) := by unfold ent; rw [h]; rfl
theorem z_get5 {X : Cx} {Γ : Gm} {cc : ByteArray} {own : String} {nL : Nat} {ret : Option FieldType} {d : Nat} {r : Option Value × St} {s : St} {pc : Nat} {lv : List (Nat × Value)} {st : List Value} (hX : Amb X Γ cc own nL ret d) {k j idx : Nat} {v : Value} (h : kd k = 5) (hj : j < 8) (hv : (flds Γ 5 k (s.1 k) (s.2 k))[j]? = some v) (hd : decode cc pc = .ok (.getfield idx, 3)) (hl : Cond.fieldLink own idx (TX5 j).1 (TX5 j).2.1 (TX5 j).2.2.1 ∈ gt) (kk : Zw X Γ nL r s (pc + 3) lv (v :: st)) : Zw X Γ nL r s pc lv (.ref (gL Γ k) :: st) :=
  z_getG hX (kd_lt h (by decide)) (ent_5 h) (show cls[5]? = some (RX5, TX5, 8) from rfl) in5 hj hv hd hl kk
theorem z_putI5 {X : Cx} {Γ : Gm} {cc : ByteArray} {own : String} {nL : Nat} {ret : Option FieldType} {d : Nat} {r : Option Value × St} {s : St} {pc : Nat} {lv : List (Nat × Value)} {st : List Value} (hX : Amb X Γ cc own nL ret d) {k j idx : Nat} {x : Int32} {s2 : St} (h : kd k = 5) (hj : j < 8) (hfin : (TX5 j).2.2.2 = false) (hpd : parseFieldDescriptor (TX5 j).2.2.1 = some .int) (hs : (flds Γ 5 k (s.1 k) (s.2 k)).set j (.int x) = flds Γ 5 k (upd (s.1 k) j x) (s.2 k)) (hd : decode cc pc = .ok (.putfield idx, 3)) (hl : Cond.fieldLink own idx (TX5 j).1 (TX5 j).2.1 (TX5 j).2.2.1 ∈ gt) (e : s2 = wI s k j x) (kk : Zw X Γ nL r s2 (pc + 3) lv (st)) : Zw X Γ nL r s pc lv (.int x :: .ref (gL Γ k) :: st) := by
  subst e
  exact z_putG hX (kd_lt h (by decide)) (ent_5 h) (show cls[5]? = some (RX5, TX5, 8) from rfl) in5 tyX5 tyX5_ok nmX5 hj hfin hpd rfl rfl hj (by rw [ent_5 h, wI_k, hs]; rfl) wI_o hd hl kk
theorem ent_6 {Γ : Gm} {s : St} {k : Nat} (h : kd k = 6) : ent Γ s k = .inr (6, flds Γ 6 k (s.1 k) (s.2 k)) := by unfold ent; rw [h]; rfl
theorem z_get6 {X : Cx} {Γ : Gm} {cc : ByteArray} {own : String} {nL : Nat} {ret : Option FieldType} {d : Nat} {r : Option Value × St} {s : St} {pc : Nat} {lv : List (Nat × Value)} {st : List Value} (hX : Amb X Γ cc own nL ret d) {k j idx : Nat} {v : Value} (h : kd k = 6) (hj : j < 9) (hv : (flds Γ 6 k (s.1 k) (s.2 k))[j]? = some v) (hd : decode cc pc = .ok (.getfield idx, 3)) (hl : Cond.fieldLink own idx (TX6 j).1 (TX6 j).2.1 (TX6 j).2.2.1 ∈ gt) (kk : Zw X Γ nL r s (pc + 3) lv (v :: st)) : Zw X Γ nL r s pc lv (.ref (gL Γ k) :: st) :=
  z_getG hX (kd_lt h (by decide)) (ent_6 h) (show cls[6]? = some (RX6, TX6, 9) from rfl) in6 hj hv hd hl kk
theorem z_putI6 {X : Cx} {Γ : Gm} {cc : ByteArray} {own : String} {nL : Nat} {ret : Option FieldType} {d : Nat} {r : Option Value × St} {s : St} {pc : Nat} {lv : List (Nat × Value)} {st : List Value} (hX : Amb X Γ cc own nL ret d) {k j idx : Nat} {x : Int32} {s2 : St} (h : kd k = 6) (hj : j < 9) (hfin : (TX6 j).2.2.2 = false) (hpd : parseFieldDescriptor (TX6 j).2.2.1 = some .int) (hs : (flds Γ 6 k (s.1 k) (s.2 k)).set j (.int x) = flds Γ 6 k (upd (s.1 k) j x) (s.2 k)) (hd : decode cc pc = .ok (.putfield idx, 3)) (hl : Cond.fieldLink own idx (TX6 j).1 (TX6 j).2.1 (TX6 j).2.2.1 ∈ gt) (e : s2 = wI s k j x) (kk : Zw X Γ nL r s2 (pc + 3) lv (st)) : Zw X Γ nL r s pc lv (.int x :: .ref (gL Γ k) :: st) := by
  subst e
  exact z_putG hX (kd_lt h (by decide)) (ent_6 h) (show cls[6]? = some (RX6, TX6, 9) from rfl) in6 tyX6 tyX6_ok nmX6 hj hfin hpd rfl rfl hj (by rw [ent_6 h, wI_k, hs]; rfl) wI_o hd hl kk
theorem ent_7 {Γ : Gm} {s : St} {k : Nat} (h : kd k = 7) : ent Γ s k = .inr (7, flds Γ 7 k (s.1 k) (s.2 k)) := by unfold ent; rw [h]; rfl
theorem z_get7 {X : Cx} {Γ : Gm} {cc : ByteArray} {own : String} {nL : Nat} {ret : Option FieldType} {d : Nat} {r : Option Value × St} {s : St} {pc : Nat} {lv : List (Nat × Value)} {st : List Value} (hX : Amb X Γ cc own nL ret d) {k j idx : Nat} {v : Value} (h : kd k = 7) (hj : j < 28) (hv : (flds Γ 7 k (s.1 k) (s.2 k))[j]? = some v) (hd : decode cc pc = .ok (.getfield idx, 3)) (hl : Cond.fieldLink own idx (TX7 j).1 (TX7 j).2.1 (TX7 j).2.2.1 ∈ gt) (kk : Zw X Γ nL r s (pc + 3) lv (v :: st)) : Zw X Γ nL r s pc lv (.ref (gL Γ k) :: st) :=
  z_getG hX (kd_lt h (by decide)) (ent_7 h) (show cls[7]? = some (RX7, TX7, 28) from rfl) in7 hj hv hd hl kk
theorem z_putI7 {X : Cx} {Γ : Gm} {cc : ByteArray} {own : String} {nL : Nat} {ret : Option FieldType} {d : Nat} {r : Option Value × St} {s : St} {pc : Nat} {lv : List (Nat × Value)} {st : List Value} (hX : Amb X Γ cc own nL ret d) {k j idx : Nat} {x : Int32} {s2 : St} (h : kd k = 7) (hj : j < 28) (hfin : (TX7 j).2.2.2 = false) (hpd : parseFieldDescriptor (TX7 j).2.2.1 = some .int) (hs : (flds Γ 7 k (s.1 k) (s.2 k)).set j (.int x) = flds Γ 7 k (upd (s.1 k) j x) (s.2 k)) (hd : decode cc pc = .ok (.putfield idx, 3)) (hl : Cond.fieldLink own idx (TX7 j).1 (TX7 j).2.1 (TX7 j).2.2.1 ∈ gt) (e : s2 = wI s k j x) (kk : Zw X Γ nL r s2 (pc + 3) lv (st)) : Zw X Γ nL r s pc lv (.int x :: .ref (gL Γ k) :: st) := by
  subst e
  exact z_putG hX (kd_lt h (by decide)) (ent_7 h) (show cls[7]? = some (RX7, TX7, 28) from rfl) in7 tyX7 tyX7_ok nmX7 hj hfin hpd rfl rfl hj (by rw [ent_7 h, wI_k, hs]; rfl) wI_o hd hl kk
theorem z_putJ7 {X : Cx} {Γ : Gm} {cc : ByteArray} {own : String} {nL : Nat} {ret : Option FieldType} {d : Nat} {r : Option Value × St} {s : St} {pc : Nat} {lv : List (Nat × Value)} {st : List Value} (hX : Amb X Γ cc own nL ret d) {k j idx : Nat} {x : Int64} {s2 : St} (h : kd k = 7) (hj : j < 28) (hfin : (TX7 j).2.2.2 = false) (hpd : parseFieldDescriptor (TX7 j).2.2.1 = some .long) (hs : (flds Γ 7 k (s.1 k) (s.2 k)).set j (.long x) = flds Γ 7 k (s.1 k) (vp_updL (s.2 k) j x)) (hd : decode cc pc = .ok (.putfield idx, 3)) (hl : Cond.fieldLink own idx (TX7 j).1 (TX7 j).2.1 (TX7 j).2.2.1 ∈ gt) (e : s2 = wJ s k j x) (kk : Zw X Γ nL r s2 (pc + 3) lv (st)) : Zw X Γ nL r s pc lv (.long x :: .ref (gL Γ k) :: st) := by
  subst e
  exact z_putG hX (kd_lt h (by decide)) (ent_7 h) (show cls[7]? = some (RX7, TX7, 28) from rfl) in7 tyX7 tyX7_ok nmX7 hj hfin hpd rfl rfl hj (by rw [ent_7 h, wJ_k, hs]; rfl) wJ_o hd hl kk
theorem lnI_k {a : Nat} {i : Int32} (h : vp_in i (lnI a)) : kd a = 9 ∧ vp_in i (ln a) := by
  unfold lnI at h
  by_cases h9 : kd a = 9
  · rw [if_pos h9] at h; exact ⟨h9, h⟩
  · rw [if_neg h9] at h; exact absurd (Or.inr (Nat.zero_le _)) h
theorem lnB_k {a : Nat} {i : Int32} (h : vp_in i (lnB a)) : kd a = 8 ∧ vp_in i (ln a) := by
  unfold lnB at h
  by_cases h9 : kd a = 8
  · rw [if_pos h9] at h; exact ⟨h9, h⟩
  · rw [if_neg h9] at h; exact absurd (Or.inr (Nat.zero_le _)) h
theorem lnZ_k {a : Nat} {i : Int32} (h : vp_in i (lnZ a)) : kd a = 10 ∧ vp_in i (ln a) := by
  unfold lnZ at h
  by_cases h9 : kd a = 10
  · rw [if_pos h9] at h; exact ⟨h9, h⟩
  · rw [if_neg h9] at h; exact absurd (Or.inr (Nat.zero_le _)) h
theorem ent_8 {Γ : Gm} {s : St} {k : Nat} (h : kd k = 8) : ent Γ s k = .inl (gC Γ 8, ln k, .inl (s.1 k)) := by unfold ent; rw [h]; rfl
theorem ent_9 {Γ : Gm} {s : St} {k : Nat} (h : kd k = 9) : ent Γ s k = .inl (gC Γ 9, ln k, .inl (s.1 k)) := by unfold ent; rw [h]; rfl
theorem ent_10 {Γ : Gm} {s : St} {k : Nat} (h : kd k = 10) : ent Γ s k = .inl (gC Γ 10, ln k, .inl (s.1 k)) := by unfold ent; rw [h]; rfl
theorem z_iald {X : Cx} {Γ : Gm} {cc : ByteArray} {own : String} {nL : Nat} {ret : Option FieldType} {d : Nat} {r : Option Value × St} {s : St} {pc : Nat} {lv : List (Nat × Value)} {st : List Value} (hX : Amb X Γ cc own nL ret d) {a : Nat} {i : Int32} (hin : vp_in i (lnI a)) (hd : decode cc pc = .ok (.iaload, 1)) (kk : Zw X Γ nL r s (pc + 1) lv (.int (s.1 a i.toNatClampNeg) :: st)) : Zw X Γ nL r s pc lv (.int i :: .ref (gL Γ a) :: st) :=
  fun H locs ls hP hS h3 => va_iald (D := gD Γ) (cl := cls) (tys := tys Γ) hX.1 hX.2.1 hX.2.2.2.2.2.1.1 hP.1 a 1 (by rw [wl_get (kd_lt (lnI_k hin).1 (by decide)), ent_9 (lnI_k hin).1]) rfl (lnI_k hin).2 hd (kk H locs ls hP hS h3)
theorem z_bald {X : Cx} {Γ : Gm} {cc : ByteArray} {own : String} {nL : Nat} {ret : Option FieldType} {d : Nat} {r : Option Value × St} {s : St} {pc : Nat} {lv : List (Nat × Value)} {st : List Value} (hX : Amb X Γ cc own nL ret d) {a : Nat} {i : Int32} (hin : vp_in i (lnB a)) (hd : decode cc pc = .ok (.baload, 1)) (kk : Zw X Γ nL r s (pc + 1) lv (.int (s.1 a i.toNatClampNeg) :: st)) : Zw X Γ nL r s pc lv (.int i :: .ref (gL Γ a) :: st) :=
  fun H locs ls hP hS h3 => va_bald (D := gD Γ) (cl := cls) (tys := tys Γ) hX.1 hX.2.1 hX.2.2.2.2.2.1.1 hP.1 a 0 (by rw [wl_get (kd_lt (lnB_k hin).1 (by decide)), ent_8 (lnB_k hin).1]) rfl (lnB_k hin).2 hd (kk H locs ls hP hS h3)
theorem z_zald {X : Cx} {Γ : Gm} {cc : ByteArray} {own : String} {nL : Nat} {ret : Option FieldType} {d : Nat} {r : Option Value × St} {s : St} {pc : Nat} {lv : List (Nat × Value)} {st : List Value} (hX : Amb X Γ cc own nL ret d) {a : Nat} {i : Int32} (hin : vp_in i (lnZ a)) (hd : decode cc pc = .ok (.baload, 1)) (kk : Zw X Γ nL r s (pc + 1) lv (.int (s.1 a i.toNatClampNeg) :: st)) : Zw X Γ nL r s pc lv (.int i :: .ref (gL Γ a) :: st) :=
  fun H locs ls hP hS h3 => va_zald (D := gD Γ) (cl := cls) (tys := tys Γ) hX.1 hX.2.1 hX.2.2.2.2.2.1.1 hP.1 a 2 (by rw [wl_get (kd_lt (lnZ_k hin).1 (by decide)), ent_10 (lnZ_k hin).1]) rfl (lnZ_k hin).2 hd (kk H locs ls hP hS h3)
theorem z_iast {X : Cx} {Γ : Gm} {cc : ByteArray} {own : String} {nL : Nat} {ret : Option FieldType} {d : Nat} {r : Option Value × St} {s : St} {pc : Nat} {lv : List (Nat × Value)} {st : List Value} (hX : Amb X Γ cc own nL ret d) {a : Nat} {i x : Int32} {s2 : St} (hin : vp_in i (lnI a)) (hd : decode cc pc = .ok (.iastore, 1)) (e : s2 = wI s a i.toNatClampNeg x) (kk : Zw X Γ nL r s2 (pc + 1) lv (st)) : Zw X Γ nL r s pc lv (.int x :: .int i :: .ref (gL Γ a) :: st) := by
  subst e
  intro H locs ls hP hS h3
  have h9 := (lnI_k hin).1
  exact va_iast (D := gD Γ) (cl := cls) (tys := tys Γ) hX.1 hX.2.1 hX.2.2.2.2.2.1.1 hP.1 hP.2 hS a 1 (by rw [wl_get (kd_lt h9 (by decide)), ent_9 h9]) rfl (lnI_k hin).2 hd (fun H1 locs1 p1 p2 p3 => kk H1 locs1 ls (by
    rw [wl_set (s' := wI s a i.toNatClampNeg x) (kd_lt h9 (by decide)) (by rw [ent_9 h9, wI_k]) wI_o] at p1 p2
    exact ⟨p1, p2⟩) p3 h3)
theorem z_bast {X : Cx} {Γ : Gm} {cc : ByteArray} {own : String} {nL : Nat} {ret : Option FieldType} {d : Nat} {r : Option Value × St} {s : St} {pc : Nat} {lv : List (Nat × Value)} {st : List Value} (hX : Amb X Γ cc own nL ret d) {a : Nat} {i x : Int32} {s2 : St} (hin : vp_in i (lnB a)) (hd : decode cc pc = .ok (.bastore, 1)) (e : s2 = wI s a i.toNatClampNeg (vp_nar .byte x)) (kk : Zw X Γ nL r s2 (pc + 1) lv (st)) : Zw X Γ nL r s pc lv (.int x :: .int i :: .ref (gL Γ a) :: st) := by
  subst e
  intro H locs ls hP hS h3
  have h9 := (lnB_k hin).1
  exact va_bast (D := gD Γ) (cl := cls) (tys := tys Γ) hX.1 hX.2.1 hX.2.2.2.2.2.1.1 hP.1 hP.2 hS a 0 (by rw [wl_get (kd_lt h9 (by decide)), ent_8 h9]) rfl (lnB_k hin).2 hd (fun H1 locs1 p1 p2 p3 => kk H1 locs1 ls (by
    rw [wl_set (s' := wI s a i.toNatClampNeg (vp_nar .byte x)) (kd_lt h9 (by decide)) (by rw [ent_8 h9, wI_k]) wI_o] at p1 p2
    exact ⟨p1, p2⟩) p3 h3)
theorem z_zast {X : Cx} {Γ : Gm} {cc : ByteArray} {own : String} {nL : Nat} {ret : Option FieldType} {d : Nat} {r : Option Value × St} {s : St} {pc : Nat} {lv : List (Nat × Value)} {st : List Value} (hX : Amb X Γ cc own nL ret d) {a : Nat} {i x : Int32} {s2 : St} (hin : vp_in i (lnZ a)) (hd : decode cc pc = .ok (.bastore, 1)) (e : s2 = wI s a i.toNatClampNeg (vp_nar .boolean x)) (kk : Zw X Γ nL r s2 (pc + 1) lv (st)) : Zw X Γ nL r s pc lv (.int x :: .int i :: .ref (gL Γ a) :: st) := by
  subst e
  intro H locs ls hP hS h3
  have h9 := (lnZ_k hin).1
  exact va_zast (D := gD Γ) (cl := cls) (tys := tys Γ) hX.1 hX.2.1 hX.2.2.2.2.2.1.1 hP.1 hP.2 hS a 2 (by rw [wl_get (kd_lt h9 (by decide)), ent_10 h9]) rfl (lnZ_k hin).2 hd (fun H1 locs1 p1 p2 p3 => kk H1 locs1 ls (by
    rw [wl_set (s' := wI s a i.toNatClampNeg (vp_nar .boolean x)) (kd_lt h9 (by decide)) (by rw [ent_10 h9, wI_k]) wI_o] at p1 p2
    exact ⟨p1, p2⟩) p3 h3)
theorem ent_11 {Γ : Gm} {s : St} {k : Nat} (h : kd k = 11) : ent Γ s k = .inl (gC Γ 11, ln k, .inr (.inr (.inr (.inr (fun j => some (gL Γ (k + 111 + 19 * j))))))) := by unfold ent; rw [h]; rfl
theorem z_aald11 {X : Cx} {Γ : Gm} {cc : ByteArray} {own : String} {nL : Nat} {ret : Option FieldType} {d : Nat} {r : Option Value × St} {s : St} {pc : Nat} {lv : List (Nat × Value)} {st : List Value} (hX : Amb X Γ cc own nL ret d) {a : Nat} {i : Int32} (h : kd a = 11) (hin : vp_in i (ln a)) (hd : decode cc pc = .ok (.aaload, 1)) (kk : Zw X Γ nL r s (pc + 1) lv (.ref (gL Γ (a + 111 + 19 * i.toNatClampNeg)) :: st)) : Zw X Γ nL r s pc lv (.int i :: .ref (gL Γ a) :: st) :=
  fun H locs ls hP hS h3 => va_aldq (D := gD Γ) (cl := cls) (tys := tys Γ) hX.1 hX.2.1 hX.2.2.2.2.2.1.1 hP.1 a 3 (f := fun j => some (gL Γ (a + 111 + 19 * j))) (by rw [wl_get (kd_lt h (by decide)), ent_11 h]) rfl hin hd (kk H locs ls hP hS h3)
theorem ent_12 {Γ : Gm} {s : St} {k : Nat} (h : kd k = 12) : ent Γ s k = .inl (gC Γ 12, ln k, .inr (.inr (.inr (.inr (fun j => some (gL Γ (k + 1 + 13 * j))))))) := by unfold ent; rw [h]; rfl
theorem z_aald12 {X : Cx} {Γ : Gm} {cc : ByteArray} {own : String} {nL : Nat} {ret : Option FieldType} {d : Nat} {r : Option Value × St} {s : St} {pc : Nat} {lv : List (Nat × Value)} {st : List Value} (hX : Amb X Γ cc own nL ret d) {a : Nat} {i : Int32} (h : kd a = 12) (hin : vp_in i (ln a)) (hd : decode cc pc = .ok (.aaload, 1)) (kk : Zw X Γ nL r s (pc + 1) lv (.ref (gL Γ (a + 1 + 13 * i.toNatClampNeg)) :: st)) : Zw X Γ nL r s pc lv (.int i :: .ref (gL Γ a) :: st) :=
  fun H locs ls hP hS h3 => va_aldq (D := gD Γ) (cl := cls) (tys := tys Γ) hX.1 hX.2.1 hX.2.2.2.2.2.1.1 hP.1 a 4 (f := fun j => some (gL Γ (a + 1 + 13 * j))) (by rw [wl_get (kd_lt h (by decide)), ent_12 h]) rfl hin hd (kk H locs ls hP hS h3)
theorem ent_13 {Γ : Gm} {s : St} {k : Nat} (h : kd k = 13) : ent Γ s k = .inl (gC Γ 13, ln k, .inr (.inr (.inr (.inr (fun j => some (gL Γ (k + 146 + 2 * j))))))) := by unfold ent; rw [h]; rfl
theorem z_aald13 {X : Cx} {Γ : Gm} {cc : ByteArray} {own : String} {nL : Nat} {ret : Option FieldType} {d : Nat} {r : Option Value × St} {s : St} {pc : Nat} {lv : List (Nat × Value)} {st : List Value} (hX : Amb X Γ cc own nL ret d) {a : Nat} {i : Int32} (h : kd a = 13) (hin : vp_in i (ln a)) (hd : decode cc pc = .ok (.aaload, 1)) (kk : Zw X Γ nL r s (pc + 1) lv (.ref (gL Γ (a + 146 + 2 * i.toNatClampNeg)) :: st)) : Zw X Γ nL r s pc lv (.int i :: .ref (gL Γ a) :: st) :=
  fun H locs ls hP hS h3 => va_aldq (D := gD Γ) (cl := cls) (tys := tys Γ) hX.1 hX.2.1 hX.2.2.2.2.2.1.1 hP.1 a 5 (f := fun j => some (gL Γ (a + 146 + 2 * j))) (by rw [wl_get (kd_lt h (by decide)), ent_13 h]) rfl hin hd (kk H locs ls hP hS h3)
theorem z_alenI {X : Cx} {Γ : Gm} {cc : ByteArray} {own : String} {nL : Nat} {ret : Option FieldType} {d : Nat} {r : Option Value × St} {s : St} {pc : Nat} {lv : List (Nat × Value)} {st : List Value} (hX : Amb X Γ cc own nL ret d) {a : Nat} (h : kd a = 9) (hd : decode cc pc = .ok (.arraylength, 1)) (kk : Zw X Γ nL r s (pc + 1) lv (.int (nI (ln a)) :: st)) : Zw X Γ nL r s pc lv (.ref (gL Γ a) :: st) :=
  fun H locs ls hP hS h3 => va_alen (D := gD Γ) (cl := cls) (tys := tys Γ) hX.1 hX.2.1 hX.2.2.2.2.2.1.1 hP.1 a 1 (x := (ln a, .inl (s.1 a))) (by rw [wl_get (kd_lt h (by decide)), ent_9 h]) rfl rfl hd (kk H locs ls hP hS h3)
theorem gt_goodIn {w : Cond} (hw : w ∈ gt) : GoodIn gt (w :: gt) := by
  intro x hx
  have hx' : x ∈ gt := by
    rcases List.mem_cons.mp hx with h | h
    · rw [h]; exact hw
    · exact h
  exact ⟨hx', good_of_word (List.mem_filter.mp hx').2⟩
/-- the words of a call's link -/
def LkV (own : String) (idx : Nat) (y : MethodName) (cc : ByteArray) (nL : Nat) (ret : Option FieldType) : Prop := Cond.methodLink own idx y ∈ gt ∧ Cond.instanceMethod y ∈ gt ∧ Cond.selects y.cls y y ∈ gt ∧ Cond.initialized y.cls ∈ gt ∧ Cond.code y cc nL ret ∈ gt
def LkS (own : String) (idx : Nat) (y : MethodName) (cc : ByteArray) (nL : Nat) (ret : Option FieldType) : Prop := Cond.methodLink own idx y ∈ gt ∧ Cond.static y ∈ gt ∧ Cond.initialized y.cls ∈ gt ∧ Cond.code y cc nL ret ∈ gt
def LkN (own : String) (idx : Nat) (y : MethodName) (cc : ByteArray) (nL : Nat) (ret : Option FieldType) : Prop := Cond.methodLinkNest own idx y "SmokeSeats" ∈ nestW ∧ Cond.static y ∈ gt ∧ Cond.initialized y.cls ∈ gt ∧ Cond.code y cc nL ret ∈ gt
def Ds (y : MethodName) (n : Nat) : Prop := y.cls ≠ "java/lang/invoke/MethodHandle" ∧ y.cls ≠ "java/lang/invoke/VarHandle" ∧ (parseMethodDescriptor y.desc).map (fun d => d.parameters.length) = some n
theorem Pc_blind {Γ : Gm} {s : St} {args : List Value} : FrameBlind (va_Pc args (fun U => hp Γ s U.heap ∧ Ag Γ U U.heap)) := fun a U g mk q => ⟨q.1, q.2.1, Ag.same (u := U) (U := U.calling g mk a) rfl rfl q.2.2⟩
theorem z_run {X : Cx} {Γ : Gm} {nL : Nat} {r : Option Value × St} {s2 : St} {v : Option Value} {pc : Nat} {lv : List (Nat × Value)} {st st0 : List Value} {a : Array Value} {H : Heap} {locs : List Loc} {ls : Array Slot} (hl : lv_has ls nL lv) (hS : va_S (gA Γ) (xs X).heap H locs)
    (hr : va_Run (xp X) (xl X) (xe X) (xR X) (xs X) (xm X) (xa X) (xb X) (xM X) (xc X) H locs 0 0 0 0 (F0 (xm X) pc ls st0) st (Po Γ (v, s2) a) (gA Γ)) (kk : Zw X Γ nL r s2 (pc + 3) lv (v.toList ++ st)) :
    W (xp X) (xl X) (xe X) (xR X) (xs X) (xm X) (xa X) (xb X) (xM X) (xc X) H locs 0 0 (MQ (xb X) (Po Γ r) (xa X) (xs X) 0 0 (gA Γ)) (F0 (xm X) pc ls st0) := by
  intro T hT XX
  obtain ⟨v', st₀, t, T', L, h0, X', hL, e1, e2, ⟨⟨hv, hP⟩, hz, hk⟩, stp⟩ := hr T hT XX
  cases hv
  rw [h0] at hz hk
  obtain ⟨t2, a1, b1⟩ := kk T'.heap (locs ++ L) ls (by rw [e1]; exact hP)
    ⟨Nat.le_trans hS.1 (by rw [e1]; exact hz), fun q h1 h2 => by rw [e1, hk q (Nat.lt_of_lt_of_le h1 hS.1) h2]; exact hS.2.1 q h1 h2, fun q hq => by
      rcases List.mem_append.mp hq with h | h
      · exact hS.2.2 q h
      · exact hL q h⟩ hl T' rfl X'
  exact ⟨t2, stp t2 a1, b1⟩
theorem rmd_ok {d e n : Nat} (h : e + 1 ≤ d) (hn : n ≤ 81) : (rmd e).frames + 1 ≤ (rmd d).frames ∧ 8 + (n + 11) + (rmd e).locals ≤ (rmd d).locals := by
  unfold rmd; dsimp only; omega
theorem pre_at {X : Cx} {Γ : Gm} {s : St} {H : Heap} {locs : List Loc} {args : List Value} (hA : Ag Γ (xs X) (xs X).heap) (hP : hp Γ s H) (hS : va_S (gA Γ) (xs X).heap H locs) : ∀ U : State, U.heap = H → (xs X).WarmedH U.vm → va_Pc args (fun U => hp Γ s U.heap ∧ Ag Γ U U.heap) args.toArray U := fun U hU hW => ⟨rfl, by rw [hU]; exact hP, by rw [hU]; exact hA.to hW hS.2.1⟩
theorem z_callV {X : Cx} {Γ : Gm} {cc : ByteArray} {own : String} {nL : Nat} {ret : Option FieldType} {d : Nat} {r : Option Value × St} {s : St} {pc : Nat} {lv : List (Nat × Value)} {st : List Value} (hX : Amb X Γ cc own nL ret d) {y : MethodName} {cc2 : ByteArray} {nL2 n d2 idx : Nat} {ret2 : Option FieldType} {As : List Value} {v : Option Value} {s2 : St} {b ci N : Nat} {T : u_T} {fs : List Value} (hM : Ct (xl X) Γ y cc2 nL2 ret2 d2 (.ref (gL Γ b) :: As) s (v, s2)) (hlk : LkV own idx y cc2 nL2 ret2) (hy : Ds y n) (hn : As.length = n) (hR : d2 + 1 ≤ d) (hL : nL2 ≤ 81) (hb : b < 201) (he : ent Γ s b = .inr (ci, fs)) (hc : cls[ci]? = some (y.cls, T, N)) (hst : (st.map fun v => v.category).sum ≤ 8) (hd : decode cc pc = .ok (.invokevirtual idx, 3)) (kk : Zw X Γ nL r s2 (pc + 3) lv (v.toList ++ st)) : Zw X Γ nL r s pc lv (As.reverse ++ .ref (gL Γ b) :: st) := by
  obtain ⟨k1, k2, k3, k4, k5⟩ := hlk
  have hX' := hX
  obtain ⟨hx, hb', hml, hown, hts, hA, -, -, hRR⟩ := hX
  intro H locs ls hP hS hl
  have hCB : CallB (xR X) (xs X) (xa X) own idx y cc2 nL2 ret2 (Cond.code y cc2 nL2 ret2 :: gt) (rmd d2) 0 0 n := callB_of n hts (gt_goodIn k5) rfl rfl rfl (hts _ k4) (hts _ k1) hy (by rw [hRR]; exact rmd_ok hR hL)
  refine z_run hl hS (va_runV (C := y.cls) (b := gL Γ b) (As := As) (rest := st) ⟨hx, hb', hml, hown, hts⟩ hM ⟨hCB, hts _ k2, hts _ k3⟩ ⟨Pc_blind, va_recv hA.1 hP.1 (ci := ci) (q0 := b) hc (by rw [wl_get hb, he]), pre_at hA hP hS⟩ rfl hn hl.1 rfl (lv_room hst) hd ⟨Nat.zero_le _, Nat.zero_le _⟩) kk
theorem z_callS {X : Cx} {Γ : Gm} {cc : ByteArray} {own : String} {nL : Nat} {ret : Option FieldType} {d : Nat} {r : Option Value × St} {s : St} {pc : Nat} {lv : List (Nat × Value)} {st : List Value} (hX : Amb X Γ cc own nL ret d) {y : MethodName} {cc2 : ByteArray} {nL2 n d2 idx : Nat} {ret2 : Option FieldType} {As : List Value} {v : Option Value} {s2 : St} (hM : Ct (xl X) Γ y cc2 nL2 ret2 d2 As s (v, s2)) (hlk : LkS own idx y cc2 nL2 ret2) (hy : Ds y n) (hn : As.length = n) (hR : d2 + 1 ≤ d) (hL : nL2 ≤ 81) (hst : (st.map fun v => v.category).sum ≤ 8) (hd : decode cc pc = .ok (.invokestatic idx, 3)) (kk : Zw X Γ nL r s2 (pc + 3) lv (v.toList ++ st)) : Zw X Γ nL r s pc lv (As.reverse ++ st) := by
  obtain ⟨k1, k2, k4, k5⟩ := hlk
  obtain ⟨hx, hb', hml, hown, hts, hA, -, -, hRR⟩ := hX
  intro H locs ls hP hS hl
  have hCB : CallB (xR X) (xs X) (xa X) own idx y cc2 nL2 ret2 (Cond.code y cc2 nL2 ret2 :: gt) (rmd d2) 0 0 n := callB_of n hts (gt_goodIn k5) rfl rfl rfl (hts _ k4) (hts _ k1) hy (by rw [hRR]; exact rmd_ok hR hL)
  refine z_run hl hS (va_runS (As := As) (rest := st) ⟨hx, hb', hml, hown, hts⟩ hM ⟨hCB, hts _ k2⟩ ⟨Pc_blind, pre_at hA hP hS⟩ rfl hn hl.1 rfl (lv_room hst) hd ⟨Nat.zero_le _, Nat.zero_le _⟩) kk
theorem z_callN {X : Cx} {Γ : Gm} {cc : ByteArray} {own : String} {nL : Nat} {ret : Option FieldType} {d : Nat} {r : Option Value × St} {s : St} {pc : Nat} {lv : List (Nat × Value)} {st : List Value} (hX : Amb X Γ cc own nL ret d) {y : MethodName} {cc2 : ByteArray} {nL2 n d2 idx : Nat} {ret2 : Option FieldType} {As : List Value} {v : Option Value} {s2 : St} (hM : Ct (xl X) Γ y cc2 nL2 ret2 d2 As s (v, s2)) (hlk : LkN own idx y cc2 nL2 ret2) (hy : Ds y n) (hn : As.length = n) (hR : d2 + 1 ≤ d) (hL : nL2 ≤ 81) (hst : (st.map fun v => v.category).sum ≤ 8) (hd : decode cc pc = .ok (.invokestatic idx, 3)) (kk : Zw X Γ nL r s2 (pc + 3) lv (v.toList ++ st)) : Zw X Γ nL r s pc lv (As.reverse ++ st) := by
  obtain ⟨k1, k2, k4, k5⟩ := hlk
  obtain ⟨hx, hb', hml, hown, hts, hA, -, -, hRR⟩ := hX
  intro H locs ls hP hS hl
  refine z_run hl hS (va_runSN (As := As) (rest := st) ⟨hx, hb', hml, hown, hts⟩ hM ⟨va_cnB n hts (gt_goodIn k5) rfl rfl rfl (hA.2.1 _ k1) (hts _ k4) hy (by rw [hRR]; exact rmd_ok hR hL), hts _ k2, trivial⟩ ⟨Pc_blind, pre_at hA hP hS⟩ rfl hn hl.1 rfl (lv_room hst) hd ⟨Nat.zero_le _, Nat.zero_le _⟩) kk
theorem z_mmin {X : Cx} {Γ : Gm} {cc : ByteArray} {own : String} {nL : Nat} {ret : Option FieldType} {d : Nat} {r : Option Value × St} {s : St} {pc : Nat} {lv : List (Nat × Value)} {st : List Value} (hX : Amb X Γ cc own nL ret d) {idx : Nat} {x y : Int32} (h1 : Cond.methodLink own idx Lib.Math.min.name ∈ gt) (h2 : Cond.static Lib.Math.min.name ∈ gt) (h3 : Cond.initialized "java/lang/Math" ∈ gt) (h4 : Cond.code Lib.Math.min.name Lib.Math.min.code 2 (some .int) ∈ gt) (hR : 1 ≤ d) (hst : (st.map fun v => v.category).sum ≤ 8) (hd : decode cc pc = .ok (.invokestatic idx, 3)) (kk : Zw X Γ nL r s (pc + 3) lv (.int (if y < x then y else x) :: st)) : Zw X Γ nL r s pc lv (.int y :: .int x :: st) :=
  fun H locs ls hP hS hl => va_mmin hX.1 hX.2.1 (hX.2.2.1.trans hl.1.symm) hX.2.2.2.1 (hX.2.2.2.2.1 _ h1) (hX.2.2.2.2.1 _ h2) (hX.2.2.2.2.1 _ h3) (hX.2.2.2.2.1 _ h4) (by rw [hX.2.2.2.2.2.2.2.2]; exact hR) (by rw [hX.2.2.2.2.2.2.2.2]; unfold rmd; dsimp only; omega) (Nat.zero_le _) (Nat.zero_le _) hd (kk H locs ls hP hS hl)
theorem z_mmax {X : Cx} {Γ : Gm} {cc : ByteArray} {own : String} {nL : Nat} {ret : Option FieldType} {d : Nat} {r : Option Value × St} {s : St} {pc : Nat} {lv : List (Nat × Value)} {st : List Value} (hX : Amb X Γ cc own nL ret d) {idx : Nat} {x y : Int32} (h1 : Cond.methodLink own idx Lib.Math.max.name ∈ gt) (h2 : Cond.static Lib.Math.max.name ∈ gt) (h3 : Cond.initialized "java/lang/Math" ∈ gt) (h4 : Cond.code Lib.Math.max.name Lib.Math.max.code 2 (some .int) ∈ gt) (hR : 1 ≤ d) (hst : (st.map fun v => v.category).sum ≤ 8) (hd : decode cc pc = .ok (.invokestatic idx, 3)) (kk : Zw X Γ nL r s (pc + 3) lv (.int (if x < y then y else x) :: st)) : Zw X Γ nL r s pc lv (.int y :: .int x :: st) :=
  fun H locs ls hP hS hl => va_mmax hX.1 hX.2.1 (hX.2.2.1.trans hl.1.symm) hX.2.2.2.1 (hX.2.2.2.2.1 _ h1) (hX.2.2.2.2.1 _ h2) (hX.2.2.2.2.1 _ h3) (hX.2.2.2.2.1 _ h4) (by rw [hX.2.2.2.2.2.2.2.2]; exact hR) (by rw [hX.2.2.2.2.2.2.2.2]; unfold rmd; dsimp only; omega) (Nat.zero_le _) (Nat.zero_le _) hd (kk H locs ls hP hS hl)
theorem z_copy {X : Cx} {Γ : Gm} {cc : ByteArray} {own : String} {nL : Nat} {ret : Option FieldType} {d : Nat} {r : Option Value × St} {s : St} {pc : Nat} {lv : List (Nat × Value)} {st : List Value} (hX : Amb X Γ cc own nL ret d) {idx a0 a1 : Nat} {sp dp n : Int32} {s2 : St} (h1 : Cond.methodLink own idx arraycopyName ∈ gt) (h2 : Cond.native arraycopyName ∈ gt) (h3 : Cond.static arraycopyName ∈ gt) (h4 : Cond.initialized "java/lang/System" ∈ gt) (hR : 1 ≤ d) (hst : (st.map fun v => v.category).sum ≤ 8) (hg : kd a0 = 9 ∧ kd a1 = 9 ∧ ¬ sp < 0 ∧ ¬ dp < 0 ∧ ¬ n < 0 ∧ sp.toNatClampNeg + n.toNatClampNeg ≤ ln a0 ∧ dp.toNatClampNeg + n.toNatClampNeg ≤ ln a1) (hd : decode cc pc = .ok (.invokestatic idx, 3)) (e : s2 = wR s a1 (va_cpy (s.1 a0) (s.1 a1) sp.toNatClampNeg dp.toNatClampNeg n.toNatClampNeg)) (kk : Zw X Γ nL r s2 (pc + 3) lv (st)) : Zw X Γ nL r s pc lv (.int n :: .int dp :: .ref (gL Γ a1) :: .int sp :: .ref (gL Γ a0) :: st) := by
  subst e
  obtain ⟨g0, g1, g2, g3, g4, g5, g6⟩ := hg
  exact fun H locs ls hP hS hl => va_copyi (D := gD Γ) (cl := cls) (tys := tys Γ) hX.1 hX.2.1 (hX.2.2.1.trans hl.1.symm) hX.2.2.2.1 (hX.2.2.2.2.1 _ h1) (hX.2.2.2.2.1 _ h2) (hX.2.2.2.2.1 _ h3) (hX.2.2.2.2.1 _ h4) hX.2.2.2.2.2.1.1 hP.1 hP.2 hS a0 a1 1 1 (by rw [wl_get (kd_lt g0 (by decide)), ent_9 g0]) (by rw [wl_get (kd_lt g1 (by decide)), ent_9 g1]) rfl rfl rfl g2 g3 g4 g5 g6 (fun _ _ => rfl) (by rw [hX.2.2.2.2.2.2.2.2]; exact hR) (by rw [hX.2.2.2.2.2.2.2.2, show nativeFrameWords "java/lang/System" "arraycopy" 5 = 7 from by decide]; unfold rmd; dsimp only; omega) hd (fun H1 locs1 p1 p2 p3 => kk H1 locs1 ls (by
    rw [wl_set (s' := wR s a1 (va_cpy (s.1 a0) (s.1 a1) sp.toNatClampNeg dp.toNatClampNeg n.toNatClampNeg)) (kd_lt g1 (by decide)) (by rw [ent_9 g1, wR_k]) wR_o] at p1 p2
    exact ⟨p1, p2⟩) p3 hl)
end
