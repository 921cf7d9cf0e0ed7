section
/-- a private method of a class that the tables say can be made, by its rows of tables_1 -/
def lw_okq (q : MethodName × Nat) : Prop := (q.1.cls ≠ "java/lang/invoke/MethodHandle" ∧ q.1.cls ≠ "java/lang/invoke/VarHandle") ∧ Cond.instantiable q.1.cls q.2 ∈ tables_1 ∧ Cond.privateMethod q.1 ∈ tables_1 ∧ Cond.instanceMethod q.1 ∈ tables_1
theorem lw_p0 : lw_okq (⟨"SmokeSeats", "firstTaking", "(I)I"⟩, 9) := ⟨⟨by decide +kernel, by decide +kernel⟩, List.mem_of_getElem? (i := 17) (by decide +kernel), List.mem_of_getElem? (i := 551) (by decide +kernel), List.mem_of_getElem? (i := 552) (by decide +kernel)⟩
theorem lw_p1 : lw_okq (⟨"SmokeSeats", "sitThere", "(III)V"⟩, 9) := ⟨⟨by decide +kernel, by decide +kernel⟩, List.mem_of_getElem? (i := 17) (by decide +kernel), List.mem_of_getElem? (i := 572) (by decide +kernel), List.mem_of_getElem? (i := 573) (by decide +kernel)⟩
theorem lw_p2 : lw_okq (⟨"SmokeSeats", "isEnoughThere", "(IIII)Z"⟩, 9) := ⟨⟨by decide +kernel, by decide +kernel⟩, List.mem_of_getElem? (i := 17) (by decide +kernel), List.mem_of_getElem? (i := 580) (by decide +kernel), List.mem_of_getElem? (i := 581) (by decide +kernel)⟩
theorem lw_p3 : lw_okq (⟨"SmokeSeats", "heldIfSwapped", "(III)I"⟩, 9) := ⟨⟨by decide +kernel, by decide +kernel⟩, List.mem_of_getElem? (i := 17) (by decide +kernel), List.mem_of_getElem? (i := 596) (by decide +kernel), List.mem_of_getElem? (i := 597) (by decide +kernel)⟩
theorem lw_p4 : lw_okq (⟨"SmokeSeats", "heldIfBlown", "(IIII)I"⟩, 9) := ⟨⟨by decide +kernel, by decide +kernel⟩, List.mem_of_getElem? (i := 17) (by decide +kernel), List.mem_of_getElem? (i := 604) (by decide +kernel), List.mem_of_getElem? (i := 605) (by decide +kernel)⟩
theorem lw_p5 : lw_okq (⟨"SmokeSeats", "areOdds", "(IIII)Z"⟩, 9) := ⟨⟨by decide +kernel, by decide +kernel⟩, List.mem_of_getElem? (i := 17) (by decide +kernel), List.mem_of_getElem? (i := 612) (by decide +kernel), List.mem_of_getElem? (i := 613) (by decide +kernel)⟩
theorem lw_p6 : lw_okq (⟨"SmokeSeats$Odds", "weightBehind", "(I)J"⟩, 7) := ⟨⟨by decide +kernel, by decide +kernel⟩, List.mem_of_getElem? (i := 165) (by decide +kernel), List.mem_of_getElem? (i := 622) (by decide +kernel), List.mem_of_getElem? (i := 623) (by decide +kernel)⟩
theorem lw_p7 : lw_okq (⟨"SmokeSeats$Odds", "weightOfAirs", "(I)J"⟩, 7) := ⟨⟨by decide +kernel, by decide +kernel⟩, List.mem_of_getElem? (i := 165) (by decide +kernel), List.mem_of_getElem? (i := 633) (by decide +kernel), List.mem_of_getElem? (i := 634) (by decide +kernel)⟩
theorem lw_p8 : lw_okq (⟨"SmokeSeats$Odds", "weightBy", "(II)J"⟩, 7) := ⟨⟨by decide +kernel, by decide +kernel⟩, List.mem_of_getElem? (i := 165) (by decide +kernel), List.mem_of_getElem? (i := 638) (by decide +kernel), List.mem_of_getElem? (i := 639) (by decide +kernel)⟩
theorem lw_p9 : lw_okq (⟨"SmokeSeats", "isFrom", "(III)Z"⟩, 9) := ⟨⟨by decide +kernel, by decide +kernel⟩, List.mem_of_getElem? (i := 17) (by decide +kernel), List.mem_of_getElem? (i := 691) (by decide +kernel), List.mem_of_getElem? (i := 692) (by decide +kernel)⟩
theorem lw_p10 : lw_okq (⟨"SmokeSeats", "gatherAnswers", "(I)I"⟩, 9) := ⟨⟨by decide +kernel, by decide +kernel⟩, List.mem_of_getElem? (i := 17) (by decide +kernel), List.mem_of_getElem? (i := 699) (by decide +kernel), List.mem_of_getElem? (i := 700) (by decide +kernel)⟩
theorem lw_p11 : lw_okq (⟨"SmokeSeats", "mostAlike", "(II)I"⟩, 9) := ⟨⟨by decide +kernel, by decide +kernel⟩, List.mem_of_getElem? (i := 17) (by decide +kernel), List.mem_of_getElem? (i := 703) (by decide +kernel), List.mem_of_getElem? (i := 704) (by decide +kernel)⟩
theorem lw_p12 : lw_okq (⟨"SmokeSeats", "isRefused", "(LSmokeSeats$Sheet;II)Z"⟩, 9) := ⟨⟨by decide +kernel, by decide +kernel⟩, List.mem_of_getElem? (i := 17) (by decide +kernel), List.mem_of_getElem? (i := 767) (by decide +kernel), List.mem_of_getElem? (i := 768) (by decide +kernel)⟩
theorem lw_p13 : lw_okq (⟨"SmokeSeatsModel", "firstDraft", "()V"⟩, 28) := ⟨⟨by decide +kernel, by decide +kernel⟩, List.mem_of_getElem? (i := 785) (by decide +kernel), List.mem_of_getElem? (i := 791) (by decide +kernel), List.mem_of_getElem? (i := 792) (by decide +kernel)⟩
theorem lw_p14 : lw_okq (⟨"SmokeSeatsModel", "keepDraft", "()V"⟩, 28) := ⟨⟨by decide +kernel, by decide +kernel⟩, List.mem_of_getElem? (i := 785) (by decide +kernel), List.mem_of_getElem? (i := 795) (by decide +kernel), List.mem_of_getElem? (i := 796) (by decide +kernel)⟩
theorem lw_p15 : lw_okq (⟨"SmokeSeatsModel", "takes", "()V"⟩, 28) := ⟨⟨by decide +kernel, by decide +kernel⟩, List.mem_of_getElem? (i := 785) (by decide +kernel), List.mem_of_getElem? (i := 901) (by decide +kernel), List.mem_of_getElem? (i := 902) (by decide +kernel)⟩
def lw_privs_1 : List (MethodName × Nat) := [(⟨"SmokeSeats", "firstTaking", "(I)I"⟩, 9), (⟨"SmokeSeats", "sitThere", "(III)V"⟩, 9), (⟨"SmokeSeats", "isEnoughThere", "(IIII)Z"⟩, 9), (⟨"SmokeSeats", "heldIfSwapped", "(III)I"⟩, 9), (⟨"SmokeSeats", "heldIfBlown", "(IIII)I"⟩, 9), (⟨"SmokeSeats", "areOdds", "(IIII)Z"⟩, 9), (⟨"SmokeSeats$Odds", "weightBehind", "(I)J"⟩, 7), (⟨"SmokeSeats$Odds", "weightOfAirs", "(I)J"⟩, 7), (⟨"SmokeSeats$Odds", "weightBy", "(II)J"⟩, 7), (⟨"SmokeSeats", "isFrom", "(III)Z"⟩, 9), (⟨"SmokeSeats", "gatherAnswers", "(I)I"⟩, 9), (⟨"SmokeSeats", "mostAlike", "(II)I"⟩, 9), (⟨"SmokeSeats", "isRefused", "(LSmokeSeats$Sheet;II)Z"⟩, 9), (⟨"SmokeSeatsModel", "firstDraft", "()V"⟩, 28), (⟨"SmokeSeatsModel", "keepDraft", "()V"⟩, 28), (⟨"SmokeSeatsModel", "takes", "()V"⟩, 28)]
theorem lw_r1 : ∀ q ∈ lw_privs_1, lw_okq q := List.forall_mem_cons.mpr ⟨lw_p0, List.forall_mem_cons.mpr ⟨lw_p1, List.forall_mem_cons.mpr ⟨lw_p2, List.forall_mem_cons.mpr ⟨lw_p3, List.forall_mem_cons.mpr ⟨lw_p4, List.forall_mem_cons.mpr ⟨lw_p5, List.forall_mem_cons.mpr ⟨lw_p6, List.forall_mem_cons.mpr ⟨lw_p7, List.forall_mem_cons.mpr ⟨lw_p8, List.forall_mem_cons.mpr ⟨lw_p9, List.forall_mem_cons.mpr ⟨lw_p10, List.forall_mem_cons.mpr ⟨lw_p11, List.forall_mem_cons.mpr ⟨lw_p12, List.forall_mem_cons.mpr ⟨lw_p13, List.forall_mem_cons.mpr ⟨lw_p14, List.forall_mem_cons.mpr ⟨lw_p15, fun _ h => absurd h List.not_mem_nil⟩⟩⟩⟩⟩⟩⟩⟩⟩⟩⟩⟩⟩⟩⟩⟩
theorem lw_p16 : lw_okq (⟨"SmokeSeatsModel", "byteAt", "(I)I"⟩, 28) := ⟨⟨by decide +kernel, by decide +kernel⟩, List.mem_of_getElem? (i := 785) (by decide +kernel), List.mem_of_getElem? (i := 905) (by decide +kernel), List.mem_of_getElem? (i := 906) (by decide +kernel)⟩
theorem lw_p17 : lw_okq (⟨"SmokeSeatsModel", "needs", "(ZI)V"⟩, 28) := ⟨⟨by decide +kernel, by decide +kernel⟩, List.mem_of_getElem? (i := 785) (by decide +kernel), List.mem_of_getElem? (i := 913) (by decide +kernel), List.mem_of_getElem? (i := 914) (by decide +kernel)⟩
theorem lw_p18 : lw_okq (⟨"SmokeSeatsModel", "readLine", "()V"⟩, 28) := ⟨⟨by decide +kernel, by decide +kernel⟩, List.mem_of_getElem? (i := 785) (by decide +kernel), List.mem_of_getElem? (i := 917) (by decide +kernel), List.mem_of_getElem? (i := 918) (by decide +kernel)⟩
theorem lw_p19 : lw_okq (⟨"SmokeSeatsModel", "lineNow", "()I"⟩, 28) := ⟨⟨by decide +kernel, by decide +kernel⟩, List.mem_of_getElem? (i := 785) (by decide +kernel), List.mem_of_getElem? (i := 921) (by decide +kernel), List.mem_of_getElem? (i := 922) (by decide +kernel)⟩
theorem lw_p20 : lw_okq (⟨"SmokeSeatsModel", "is", "(IIII)Z"⟩, 28) := ⟨⟨by decide +kernel, by decide +kernel⟩, List.mem_of_getElem? (i := 785) (by decide +kernel), List.mem_of_getElem? (i := 925) (by decide +kernel), List.mem_of_getElem? (i := 926) (by decide +kernel)⟩
theorem lw_p21 : lw_okq (⟨"SmokeSeatsModel", "ends", "(III)Z"⟩, 28) := ⟨⟨by decide +kernel, by decide +kernel⟩, List.mem_of_getElem? (i := 785) (by decide +kernel), List.mem_of_getElem? (i := 929) (by decide +kernel), List.mem_of_getElem? (i := 930) (by decide +kernel)⟩
theorem lw_p22 : lw_okq (⟨"SmokeSeatsModel", "kindNow", "()I"⟩, 28) := ⟨⟨by decide +kernel, by decide +kernel⟩, List.mem_of_getElem? (i := 785) (by decide +kernel), List.mem_of_getElem? (i := 933) (by decide +kernel), List.mem_of_getElem? (i := 934) (by decide +kernel)⟩
theorem lw_p23 : lw_okq (⟨"SmokeSeatsModel", "readLineOf", "(I)V"⟩, 28) := ⟨⟨by decide +kernel, by decide +kernel⟩, List.mem_of_getElem? (i := 785) (by decide +kernel), List.mem_of_getElem? (i := 937) (by decide +kernel), List.mem_of_getElem? (i := 938) (by decide +kernel)⟩
theorem lw_p24 : lw_okq (⟨"SmokeSeatsModel", "readCell", "()I"⟩, 28) := ⟨⟨by decide +kernel, by decide +kernel⟩, List.mem_of_getElem? (i := 785) (by decide +kernel), List.mem_of_getElem? (i := 941) (by decide +kernel), List.mem_of_getElem? (i := 942) (by decide +kernel)⟩
theorem lw_p25 : lw_okq (⟨"SmokeSeatsModel", "looked", "(II)I"⟩, 28) := ⟨⟨by decide +kernel, by decide +kernel⟩, List.mem_of_getElem? (i := 785) (by decide +kernel), List.mem_of_getElem? (i := 945) (by decide +kernel), List.mem_of_getElem? (i := 946) (by decide +kernel)⟩
theorem lw_p26 : lw_okq (⟨"SmokeSeatsModel", "readNumber", "(II)I"⟩, 28) := ⟨⟨by decide +kernel, by decide +kernel⟩, List.mem_of_getElem? (i := 785) (by decide +kernel), List.mem_of_getElem? (i := 956) (by decide +kernel), List.mem_of_getElem? (i := 957) (by decide +kernel)⟩
theorem lw_p27 : lw_okq (⟨"SmokeSeatsModel", "starts", "()V"⟩, 28) := ⟨⟨by decide +kernel, by decide +kernel⟩, List.mem_of_getElem? (i := 785) (by decide +kernel), List.mem_of_getElem? (i := 968) (by decide +kernel), List.mem_of_getElem? (i := 969) (by decide +kernel)⟩
theorem lw_p28 : lw_okq (⟨"SmokeSeatsModel", "allIn", "()I"⟩, 28) := ⟨⟨by decide +kernel, by decide +kernel⟩, List.mem_of_getElem? (i := 785) (by decide +kernel), List.mem_of_getElem? (i := 972) (by decide +kernel), List.mem_of_getElem? (i := 973) (by decide +kernel)⟩
theorem lw_p29 : lw_okq (⟨"SmokeSeatsModel", "inRoom", "(I)I"⟩, 28) := ⟨⟨by decide +kernel, by decide +kernel⟩, List.mem_of_getElem? (i := 785) (by decide +kernel), List.mem_of_getElem? (i := 976) (by decide +kernel), List.mem_of_getElem? (i := 977) (by decide +kernel)⟩
theorem lw_p30 : lw_okq (⟨"SmokeSeatsModel", "allLost", "()I"⟩, 28) := ⟨⟨by decide +kernel, by decide +kernel⟩, List.mem_of_getElem? (i := 785) (by decide +kernel), List.mem_of_getElem? (i := 980) (by decide +kernel), List.mem_of_getElem? (i := 981) (by decide +kernel)⟩
theorem lw_p31 : lw_okq (⟨"SmokeSeatsModel", "allHad", "()I"⟩, 28) := ⟨⟨by decide +kernel, by decide +kernel⟩, List.mem_of_getElem? (i := 785) (by decide +kernel), List.mem_of_getElem? (i := 984) (by decide +kernel), List.mem_of_getElem? (i := 985) (by decide +kernel)⟩
def lw_privs_2 : List (MethodName × Nat) := [(⟨"SmokeSeatsModel", "byteAt", "(I)I"⟩, 28), (⟨"SmokeSeatsModel", "needs", "(ZI)V"⟩, 28), (⟨"SmokeSeatsModel", "readLine", "()V"⟩, 28), (⟨"SmokeSeatsModel", "lineNow", "()I"⟩, 28), (⟨"SmokeSeatsModel", "is", "(IIII)Z"⟩, 28), (⟨"SmokeSeatsModel", "ends", "(III)Z"⟩, 28), (⟨"SmokeSeatsModel", "kindNow", "()I"⟩, 28), (⟨"SmokeSeatsModel", "readLineOf", "(I)V"⟩, 28), (⟨"SmokeSeatsModel", "readCell", "()I"⟩, 28), (⟨"SmokeSeatsModel", "looked", "(II)I"⟩, 28), (⟨"SmokeSeatsModel", "readNumber", "(II)I"⟩, 28), (⟨"SmokeSeatsModel", "starts", "()V"⟩, 28), (⟨"SmokeSeatsModel", "allIn", "()I"⟩, 28), (⟨"SmokeSeatsModel", "inRoom", "(I)I"⟩, 28), (⟨"SmokeSeatsModel", "allLost", "()I"⟩, 28), (⟨"SmokeSeatsModel", "allHad", "()I"⟩, 28)]
theorem lw_r2 : ∀ q ∈ lw_privs_2, lw_okq q := List.forall_mem_cons.mpr ⟨lw_p16, List.forall_mem_cons.mpr ⟨lw_p17, List.forall_mem_cons.mpr ⟨lw_p18, List.forall_mem_cons.mpr ⟨lw_p19, List.forall_mem_cons.mpr ⟨lw_p20, List.forall_mem_cons.mpr ⟨lw_p21, List.forall_mem_cons.mpr ⟨lw_p22, List.forall_mem_cons.mpr ⟨lw_p23, List.forall_mem_cons.mpr ⟨lw_p24, List.forall_mem_cons.mpr ⟨lw_p25, List.forall_mem_cons.mpr ⟨lw_p26, List.forall_mem_cons.mpr ⟨lw_p27, List.forall_mem_cons.mpr ⟨lw_p28, List.forall_mem_cons.mpr ⟨lw_p29, List.forall_mem_cons.mpr ⟨lw_p30, List.forall_mem_cons.mpr ⟨lw_p31, fun _ h => absurd h List.not_mem_nil⟩⟩⟩⟩⟩⟩⟩⟩⟩⟩⟩⟩⟩⟩⟩⟩
theorem lw_p32 : lw_okq (⟨"SmokeSeatsModel", "hadOf", "(I)I"⟩, 28) := ⟨⟨by decide +kernel, by decide +kernel⟩, List.mem_of_getElem? (i := 785) (by decide +kernel), List.mem_of_getElem? (i := 988) (by decide +kernel), List.mem_of_getElem? (i := 989) (by decide +kernel)⟩
theorem lw_p33 : lw_okq (⟨"SmokeSeatsModel", "isLife", "(I)Z"⟩, 28) := ⟨⟨by decide +kernel, by decide +kernel⟩, List.mem_of_getElem? (i := 785) (by decide +kernel), List.mem_of_getElem? (i := 996) (by decide +kernel), List.mem_of_getElem? (i := 997) (by decide +kernel)⟩
theorem lw_p34 : lw_okq (⟨"SmokeSeatsModel", "isSitter", "(I)Z"⟩, 28) := ⟨⟨by decide +kernel, by decide +kernel⟩, List.mem_of_getElem? (i := 785) (by decide +kernel), List.mem_of_getElem? (i := 1010) (by decide +kernel), List.mem_of_getElem? (i := 1011) (by decide +kernel)⟩
theorem lw_p35 : lw_okq (⟨"SmokeSeatsModel", "hadBy", "(I)I"⟩, 28) := ⟨⟨by decide +kernel, by decide +kernel⟩, List.mem_of_getElem? (i := 785) (by decide +kernel), List.mem_of_getElem? (i := 1014) (by decide +kernel), List.mem_of_getElem? (i := 1015) (by decide +kernel)⟩
theorem lw_p36 : lw_okq (⟨"SmokeSeatsModel", "becomes", "(II)I"⟩, 28) := ⟨⟨by decide +kernel, by decide +kernel⟩, List.mem_of_getElem? (i := 785) (by decide +kernel), List.mem_of_getElem? (i := 1041) (by decide +kernel), List.mem_of_getElem? (i := 1042) (by decide +kernel)⟩
theorem lw_p37 : lw_okq (⟨"SmokeSeatsModel", "stepsGo", "(I)V"⟩, 28) := ⟨⟨by decide +kernel, by decide +kernel⟩, List.mem_of_getElem? (i := 785) (by decide +kernel), List.mem_of_getElem? (i := 1067) (by decide +kernel), List.mem_of_getElem? (i := 1068) (by decide +kernel)⟩
theorem lw_p38 : lw_okq (⟨"SmokeSeatsModel", "stepGoes", "(Z)V"⟩, 28) := ⟨⟨by decide +kernel, by decide +kernel⟩, List.mem_of_getElem? (i := 785) (by decide +kernel), List.mem_of_getElem? (i := 1071) (by decide +kernel), List.mem_of_getElem? (i := 1072) (by decide +kernel)⟩
theorem lw_p39 : lw_okq (⟨"SmokeSeatsModel", "isTold", "()V"⟩, 28) := ⟨⟨by decide +kernel, by decide +kernel⟩, List.mem_of_getElem? (i := 785) (by decide +kernel), List.mem_of_getElem? (i := 1075) (by decide +kernel), List.mem_of_getElem? (i := 1076) (by decide +kernel)⟩
theorem lw_p40 : lw_okq (⟨"SmokeSeatsModel", "isTaken", "()V"⟩, 28) := ⟨⟨by decide +kernel, by decide +kernel⟩, List.mem_of_getElem? (i := 785) (by decide +kernel), List.mem_of_getElem? (i := 1082) (by decide +kernel), List.mem_of_getElem? (i := 1083) (by decide +kernel)⟩
theorem lw_p41 : lw_okq (⟨"SmokeSeatsModel", "drifts", "(I)V"⟩, 28) := ⟨⟨by decide +kernel, by decide +kernel⟩, List.mem_of_getElem? (i := 785) (by decide +kernel), List.mem_of_getElem? (i := 1086) (by decide +kernel), List.mem_of_getElem? (i := 1087) (by decide +kernel)⟩
theorem lw_p42 : lw_okq (⟨"SmokeSeatsModel", "settles", "()V"⟩, 28) := ⟨⟨by decide +kernel, by decide +kernel⟩, List.mem_of_getElem? (i := 785) (by decide +kernel), List.mem_of_getElem? (i := 1096) (by decide +kernel), List.mem_of_getElem? (i := 1097) (by decide +kernel)⟩
theorem lw_p43 : lw_okq (⟨"SmokeSeatsModel", "allLeft", "()I"⟩, 28) := ⟨⟨by decide +kernel, by decide +kernel⟩, List.mem_of_getElem? (i := 785) (by decide +kernel), List.mem_of_getElem? (i := 1120) (by decide +kernel), List.mem_of_getElem? (i := 1121) (by decide +kernel)⟩
theorem lw_p44 : lw_okq (⟨"SmokeSeatsModel", "hasIn", "(IIII)I"⟩, 28) := ⟨⟨by decide +kernel, by decide +kernel⟩, List.mem_of_getElem? (i := 785) (by decide +kernel), List.mem_of_getElem? (i := 1128) (by decide +kernel), List.mem_of_getElem? (i := 1129) (by decide +kernel)⟩
theorem lw_p45 : lw_okq (⟨"SmokeSeatsModel", "isOdds", "(IIII)Z"⟩, 28) := ⟨⟨by decide +kernel, by decide +kernel⟩, List.mem_of_getElem? (i := 785) (by decide +kernel), List.mem_of_getElem? (i := 1161) (by decide +kernel), List.mem_of_getElem? (i := 1162) (by decide +kernel)⟩
theorem lw_p46 : lw_okq (⟨"SmokeSeatsModel", "findOdds", "(III)V"⟩, 28) := ⟨⟨by decide +kernel, by decide +kernel⟩, List.mem_of_getElem? (i := 785) (by decide +kernel), List.mem_of_getElem? (i := 1168) (by decide +kernel), List.mem_of_getElem? (i := 1169) (by decide +kernel)⟩
theorem lw_p47 : lw_okq (⟨"SmokeSeatsModel", "isSoWith", "(III)Z"⟩, 28) := ⟨⟨by decide +kernel, by decide +kernel⟩, List.mem_of_getElem? (i := 785) (by decide +kernel), List.mem_of_getElem? (i := 1194) (by decide +kernel), List.mem_of_getElem? (i := 1195) (by decide +kernel)⟩
def lw_privs_3 : List (MethodName × Nat) := [(⟨"SmokeSeatsModel", "hadOf", "(I)I"⟩, 28), (⟨"SmokeSeatsModel", "isLife", "(I)Z"⟩, 28), (⟨"SmokeSeatsModel", "isSitter", "(I)Z"⟩, 28), (⟨"SmokeSeatsModel", "hadBy", "(I)I"⟩, 28), (⟨"SmokeSeatsModel", "becomes", "(II)I"⟩, 28), (⟨"SmokeSeatsModel", "stepsGo", "(I)V"⟩, 28), (⟨"SmokeSeatsModel", "stepGoes", "(Z)V"⟩, 28), (⟨"SmokeSeatsModel", "isTold", "()V"⟩, 28), (⟨"SmokeSeatsModel", "isTaken", "()V"⟩, 28), (⟨"SmokeSeatsModel", "drifts", "(I)V"⟩, 28), (⟨"SmokeSeatsModel", "settles", "()V"⟩, 28), (⟨"SmokeSeatsModel", "allLeft", "()I"⟩, 28), (⟨"SmokeSeatsModel", "hasIn", "(IIII)I"⟩, 28), (⟨"SmokeSeatsModel", "isOdds", "(IIII)Z"⟩, 28), (⟨"SmokeSeatsModel", "findOdds", "(III)V"⟩, 28), (⟨"SmokeSeatsModel", "isSoWith", "(III)Z"⟩, 28)]
theorem lw_r3 : ∀ q ∈ lw_privs_3, lw_okq q := List.forall_mem_cons.mpr ⟨lw_p32, List.forall_mem_cons.mpr ⟨lw_p33, List.forall_mem_cons.mpr ⟨lw_p34, List.forall_mem_cons.mpr ⟨lw_p35, List.forall_mem_cons.mpr ⟨lw_p36, List.forall_mem_cons.mpr ⟨lw_p37, List.forall_mem_cons.mpr ⟨lw_p38, List.forall_mem_cons.mpr ⟨lw_p39, List.forall_mem_cons.mpr ⟨lw_p40, List.forall_mem_cons.mpr ⟨lw_p41, List.forall_mem_cons.mpr ⟨lw_p42, List.forall_mem_cons.mpr ⟨lw_p43, List.forall_mem_cons.mpr ⟨lw_p44, List.forall_mem_cons.mpr ⟨lw_p45, List.forall_mem_cons.mpr ⟨lw_p46, List.forall_mem_cons.mpr ⟨lw_p47, fun _ h => absurd h List.not_mem_nil⟩⟩⟩⟩⟩⟩⟩⟩⟩⟩⟩⟩⟩⟩⟩⟩
theorem lw_p48 : lw_okq (⟨"SmokeSeatsModel", "copies", "(II)V"⟩, 28) := ⟨⟨by decide +kernel, by decide +kernel⟩, List.mem_of_getElem? (i := 785) (by decide +kernel), List.mem_of_getElem? (i := 1218) (by decide +kernel), List.mem_of_getElem? (i := 1219) (by decide +kernel)⟩
def lw_privs_4 : List (MethodName × Nat) := [(⟨"SmokeSeatsModel", "copies", "(II)V"⟩, 28)]
theorem lw_r4 : ∀ q ∈ lw_privs_4, lw_okq q := List.forall_mem_cons.mpr ⟨lw_p48, fun _ h => absurd h List.not_mem_nil⟩
def lw_privs : List (MethodName × Nat) := lw_privs_1 ++ (lw_privs_2 ++ (lw_privs_3 ++ (lw_privs_4)))
def lw_tbl : List Cond := k2_sels lw_privs ++ tables_1
theorem lw_privs_ok : ∀ q ∈ lw_privs, lw_okq q := by
  show ∀ q ∈ lw_privs_1 ++ (lw_privs_2 ++ (lw_privs_3 ++ (lw_privs_4))), lw_okq q
  exact List.forall_mem_append.mpr ⟨lw_r1, List.forall_mem_append.mpr ⟨lw_r2, List.forall_mem_append.mpr ⟨lw_r3, lw_r4⟩⟩⟩
end
section
def RX0 : String := "SmokeSeats$Image"
def TX0 : u_T := fun k => match k with
  | 0 => ("SmokeSeats$Image", "kept", "Z", false)
  | 1 => ("SmokeSeats$Image", "room", "LSmokeSeats$Room;", true)
  | _ => ("SmokeSeats$Image", "seen", "LSmokeSeats$Seen;", true)
def tyX0 : Nat → FieldType := fun k => match k with
  | 0 => .boolean
  | 1 => .object "SmokeSeats$Room"
  | _ => .object "SmokeSeats$Seen"
theorem nmX0 : ∀ a, a < 3 → ∀ b, b < 3 → a ≠ b → (TX0 a).2.1 ≠ (TX0 b).2.1 := by decide +kernel
theorem tyX0_ok : ∀ k, k < 3 → parseFieldDescriptor (TX0 k).2.2.1 = some (tyX0 k) := by decide +kernel
abbrev cX0_init : ByteArray := prog_2_method_1_code
def yX0_init : MethodName := ⟨RX0, "<init>", "()V"⟩
def RX1 : String := "SmokeSeats$Odds"
def TX1 : u_T := fun k => match k with
  | 0 => ("SmokeSeats$Odds", "rooms", "[LSmokeSeats$Room;", true)
  | 1 => ("SmokeSeats$Odds", "still", "I", false)
  | 2 => ("SmokeSeats$Odds", "whom", "I", false)
  | 3 => ("SmokeSeats$Odds", "last", "I", false)
  | 4 => ("SmokeSeats$Odds", "isMean", "Z", false)
  | 5 => ("SmokeSeats$Odds", "above", "J", false)
  | _ => ("SmokeSeats$Odds", "below", "J", false)
def tyX1 : Nat → FieldType := fun k => match k with
  | 0 => .array (.object "SmokeSeats$Room")
  | 1 => .int
  | 2 => .int
  | 3 => .int
  | 4 => .boolean
  | 5 => .long
  | _ => .long
theorem nmX1 : ∀ a, a < 7 → ∀ b, b < 7 → a ≠ b → (TX1 a).2.1 ≠ (TX1 b).2.1 := by decide +kernel
theorem tyX1_ok : ∀ k, k < 7 → parseFieldDescriptor (TX1 k).2.2.1 = some (tyX1 k) := by decide +kernel
abbrev cX1_init : ByteArray := prog_3_method_1_code
def yX1_init : MethodName := ⟨RX1, "<init>", "()V"⟩
abbrev cX1_weigh : ByteArray := prog_3_method_2_code
def yX1_weigh : MethodName := ⟨RX1, "weigh", "(LSmokeSeats$Room;IIIZ)V"⟩
abbrev cX1_weightBehind : ByteArray := prog_3_method_3_code
def yX1_weightBehind : MethodName := ⟨RX1, "weightBehind", "(I)J"⟩
abbrev cX1_weightOfAirs : ByteArray := prog_3_method_4_code
def yX1_weightOfAirs : MethodName := ⟨RX1, "weightOfAirs", "(I)J"⟩
abbrev cX1_weightBy : ByteArray := prog_3_method_5_code
def yX1_weightBy : MethodName := ⟨RX1, "weightBy", "(II)J"⟩
abbrev cX1_tenTo : ByteArray := prog_3_method_6_code
def yX1_tenTo : MethodName := ⟨RX1, "tenTo", "(I)J"⟩
abbrev cX1_reduce : ByteArray := prog_3_method_7_code
def yX1_reduce : MethodName := ⟨RX1, "reduce", "()V"⟩
def RX2 : String := "SmokeSeats$Room"
def TX2 : u_T := fun k => match k with
  | 0 => ("SmokeSeats$Room", "lives", "I", false)
  | 1 => ("SmokeSeats$Room", "sitters", "I", false)
  | 2 => ("SmokeSeats$Room", "step", "I", false)
  | 3 => ("SmokeSeats$Room", "kinds", "[I", true)
  | 4 => ("SmokeSeats$Room", "tables", "[I", true)
  | 5 => ("SmokeSeats$Room", "paces", "[I", true)
  | 6 => ("SmokeSeats$Room", "lefts", "[I", true)
  | 7 => ("SmokeSeats$Room", "lost", "[I", true)
  | 8 => ("SmokeSeats$Room", "aloft", "[I", true)
  | 9 => ("SmokeSeats$Room", "cells", "[I", true)
  | 10 => ("SmokeSeats$Room", "places", "[I", true)
  | 11 => ("SmokeSeats$Room", "sleeves", "[I", true)
  | 12 => ("SmokeSeats$Room", "holds", "[I", true)
  | 13 => ("SmokeSeats$Room", "ways", "[I", true)
  | _ => ("SmokeSeats$Room", "prices", "[I", true)
def tyX2 : Nat → FieldType := fun k => match k with
  | 0 => .int
  | 1 => .int
  | 2 => .int
  | 3 => .array .int
  | 4 => .array .int
  | 5 => .array .int
  | 6 => .array .int
  | 7 => .array .int
  | 8 => .array .int
  | 9 => .array .int
  | 10 => .array .int
  | 11 => .array .int
  | 12 => .array .int
  | 13 => .array .int
  | _ => .array .int
theorem nmX2 : ∀ a, a < 15 → ∀ b, b < 15 → a ≠ b → (TX2 a).2.1 ≠ (TX2 b).2.1 := by decide +kernel
theorem tyX2_ok : ∀ k, k < 15 → parseFieldDescriptor (TX2 k).2.2.1 = some (tyX2 k) := by decide +kernel
abbrev cX2_init : ByteArray := prog_4_method_1_code
def yX2_init : MethodName := ⟨RX2, "<init>", "()V"⟩
abbrev cX2_clear : ByteArray := prog_4_method_2_code
def yX2_clear : MethodName := ⟨RX2, "clear", "()V"⟩
abbrev cX2_copyOf : ByteArray := prog_4_method_3_code
def yX2_copyOf : MethodName := ⟨RX2, "copyOf", "(LSmokeSeats$Room;)V"⟩
abbrev cX2_isLife : ByteArray := prog_4_method_4_code
def yX2_isLife : MethodName := ⟨RX2, "isLife", "(I)Z"⟩
abbrev cX2_isSitter : ByteArray := prog_4_method_5_code
def yX2_isSitter : MethodName := ⟨RX2, "isSitter", "(I)Z"⟩
abbrev cX2_held : ByteArray := prog_4_method_6_code
def yX2_held : MethodName := ⟨RX2, "held", "(II)I"⟩
abbrev cX2_heldBy : ByteArray := prog_4_method_7_code
def yX2_heldBy : MethodName := ⟨RX2, "heldBy", "(I)I"⟩
abbrev cX2_heldOf : ByteArray := prog_4_method_8_code
def yX2_heldOf : MethodName := ⟨RX2, "heldOf", "(I)I"⟩
abbrev cX2_heldByAll : ByteArray := prog_4_method_9_code
def yX2_heldByAll : MethodName := ⟨RX2, "heldByAll", "()I"⟩
abbrev cX2_sumOfLives : ByteArray := prog_4_method_10_code
def yX2_sumOfLives : MethodName := ⟨RX2, "sumOfLives", "([I)I"⟩
abbrev cX2_pricesOfSitters : ByteArray := prog_4_method_11_code
def yX2_pricesOfSitters : MethodName := ⟨RX2, "pricesOfSitters", "()I"⟩
abbrev cX2_isOver : ByteArray := prog_4_method_12_code
def yX2_isOver : MethodName := ⟨RX2, "isOver", "()Z"⟩
abbrev cX2_loseAll : ByteArray := prog_4_method_13_code
def yX2_loseAll : MethodName := ⟨RX2, "loseAll", "()V"⟩
abbrev cX2_goOn : ByteArray := prog_4_method_14_code
def yX2_goOn : MethodName := ⟨RX2, "goOn", "(I)I"⟩
abbrev cX2_wayNow : ByteArray := prog_4_method_15_code
def yX2_wayNow : MethodName := ⟨RX2, "wayNow", "()I"⟩
abbrev cX2_pass : ByteArray := prog_4_method_16_code
def yX2_pass : MethodName := ⟨RX2, "pass", "(I)I"⟩
abbrev cX2_tellAll : ByteArray := prog_4_method_17_code
def yX2_tellAll : MethodName := ⟨RX2, "tellAll", "()V"⟩
abbrev cX2_takeAll : ByteArray := prog_4_method_18_code
def yX2_takeAll : MethodName := ⟨RX2, "takeAll", "()I"⟩
abbrev cX2_carry : ByteArray := prog_4_method_19_code
def yX2_carry : MethodName := ⟨RX2, "carry", "(I)V"⟩
abbrev cX2_give : ByteArray := prog_4_method_20_code
def yX2_give : MethodName := ⟨RX2, "give", "(III)V"⟩
abbrev cX2_moved : ByteArray := prog_4_method_21_code
def yX2_moved : MethodName := ⟨RX2, "moved", "(II)I"⟩
abbrev cX2_beside : ByteArray := prog_4_method_22_code
def yX2_beside : MethodName := ⟨RX2, "beside", "(II)I"⟩
def RX3 : String := "SmokeSeats$Seen"
def TX3 : u_T := fun k => match k with
  | 0 => ("SmokeSeats$Seen", "count", "I", false)
  | 1 => ("SmokeSeats$Seen", "who", "[I", true)
  | 2 => ("SmokeSeats$Seen", "whose", "[I", true)
  | 3 => ("SmokeSeats$Seen", "when", "[I", true)
  | _ => ("SmokeSeats$Seen", "much", "[I", true)
def tyX3 : Nat → FieldType := fun k => match k with
  | 0 => .int
  | 1 => .array .int
  | 2 => .array .int
  | 3 => .array .int
  | _ => .array .int
theorem nmX3 : ∀ a, a < 5 → ∀ b, b < 5 → a ≠ b → (TX3 a).2.1 ≠ (TX3 b).2.1 := by decide +kernel
theorem tyX3_ok : ∀ k, k < 5 → parseFieldDescriptor (TX3 k).2.2.1 = some (tyX3 k) := by decide +kernel
abbrev cX3_init : ByteArray := prog_5_method_1_code
def yX3_init : MethodName := ⟨RX3, "<init>", "()V"⟩
abbrev cX3_copyOf : ByteArray := prog_5_method_2_code
def yX3_copyOf : MethodName := ⟨RX3, "copyOf", "(LSmokeSeats$Seen;)V"⟩
abbrev cX3_put : ByteArray := prog_5_method_3_code
def yX3_put : MethodName := ⟨RX3, "put", "(IIII)Z"⟩
abbrev cX3_farthest : ByteArray := prog_5_method_4_code
def yX3_farthest : MethodName := ⟨RX3, "farthest", "()I"⟩
abbrev cX3_fits : ByteArray := prog_5_method_5_code
def yX3_fits : MethodName := ⟨RX3, "fits", "(LSmokeSeats$Room;I)Z"⟩
abbrev cX3_fitsBehind : ByteArray := prog_5_method_6_code
def yX3_fitsBehind : MethodName := ⟨RX3, "fitsBehind", "(LSmokeSeats$Room;I)Z"⟩
def RX4 : String := "SmokeSeats$Sheet"
def TX4 : u_T := fun k => match k with
  | 0 => ("SmokeSeats$Sheet", "lane", "I", false)
  | 1 => ("SmokeSeats$Sheet", "size", "I", false)
  | _ => ("SmokeSeats$Sheet", "row", "[I", true)
def tyX4 : Nat → FieldType := fun k => match k with
  | 0 => .int
  | 1 => .int
  | _ => .array .int
theorem nmX4 : ∀ a, a < 3 → ∀ b, b < 3 → a ≠ b → (TX4 a).2.1 ≠ (TX4 b).2.1 := by decide +kernel
theorem tyX4_ok : ∀ k, k < 3 → parseFieldDescriptor (TX4 k).2.2.1 = some (tyX4 k) := by decide +kernel
abbrev cX4_init : ByteArray := prog_6_method_1_code
def yX4_init : MethodName := ⟨RX4, "<init>", "()V"⟩
abbrev cX4_isNothing : ByteArray := prog_6_method_2_code
def yX4_isNothing : MethodName := ⟨RX4, "isNothing", "()Z"⟩
abbrev cX4_renew : ByteArray := prog_6_method_3_code
def yX4_renew : MethodName := ⟨RX4, "renew", "(II)V"⟩
abbrev cX4_put : ByteArray := prog_6_method_4_code
def yX4_put : MethodName := ⟨RX4, "put", "(II)V"⟩
abbrev cX4_faultAt : ByteArray := prog_6_method_5_code
def yX4_faultAt : MethodName := ⟨RX4, "faultAt", "(II)I"⟩
abbrev cX4_faultOfPair : ByteArray := prog_6_method_6_code
def yX4_faultOfPair : MethodName := ⟨RX4, "faultOfPair", "(II)I"⟩
def RX5 : String := "SmokeSeats$Tape"
def TX5 : u_T := fun k => match k with
  | 0 => ("SmokeSeats$Tape", "bytes", "[B", true)
  | 1 => ("SmokeSeats$Tape", "length", "I", false)
  | 2 => ("SmokeSeats$Tape", "fault", "I", false)
  | 3 => ("SmokeSeats$Tape", "start", "I", false)
  | 4 => ("SmokeSeats$Tape", "next", "I", false)
  | 5 => ("SmokeSeats$Tape", "token", "I", false)
  | 6 => ("SmokeSeats$Tape", "number", "I", false)
  | _ => ("SmokeSeats$Tape", "told", "I", false)
def tyX5 : Nat → FieldType := fun k => match k with
  | 0 => .array .byte
  | 1 => .int
  | 2 => .int
  | 3 => .int
  | 4 => .int
  | 5 => .int
  | 6 => .int
  | _ => .int
theorem nmX5 : ∀ a, a < 8 → ∀ b, b < 8 → a ≠ b → (TX5 a).2.1 ≠ (TX5 b).2.1 := by decide +kernel
theorem tyX5_ok : ∀ k, k < 8 → parseFieldDescriptor (TX5 k).2.2.1 = some (tyX5 k) := by decide +kernel
abbrev cX5_init : ByteArray := prog_7_method_1_code
def yX5_init : MethodName := ⟨RX5, "<init>", "()V"⟩
abbrev cX5_put : ByteArray := prog_7_method_2_code
def yX5_put : MethodName := ⟨RX5, "put", "(I)Z"⟩
abbrev cX5_tell : ByteArray := prog_7_method_3_code
def yX5_tell : MethodName := ⟨RX5, "tell", "(LSmokeSeats$Room;)I"⟩
abbrev cX5_refuse : ByteArray := prog_7_method_4_code
def yX5_refuse : MethodName := ⟨RX5, "refuse", "(I)Z"⟩
abbrev cX5_readToken : ByteArray := prog_7_method_5_code
def yX5_readToken : MethodName := ⟨RX5, "readToken", "()Z"⟩
abbrev cX5_tokenOf : ByteArray := prog_7_method_6_code
def yX5_tokenOf : MethodName := ⟨RX5, "tokenOf", "(B)I"⟩
abbrev cX5_readLine : ByteArray := prog_7_method_7_code
def yX5_readLine : MethodName := ⟨RX5, "readLine", "(LSmokeSeats$Room;)Z"⟩
abbrev cX5_wordRead : ByteArray := prog_7_method_8_code
def yX5_wordRead : MethodName := ⟨RX5, "wordRead", "()I"⟩
abbrev cX5_isWord : ByteArray := prog_7_method_9_code
def yX5_isWord : MethodName := ⟨RX5, "isWord", "(Ljava/lang/String;)Z"⟩
abbrev cX5_readLife : ByteArray := prog_7_method_10_code
def yX5_readLife : MethodName := ⟨RX5, "readLife", "(LSmokeSeats$Room;I)Z"⟩
abbrev cX5_readSitter : ByteArray := prog_7_method_11_code
def yX5_readSitter : MethodName := ⟨RX5, "readSitter", "(LSmokeSeats$Room;)Z"⟩
abbrev cX5_readOnce : ByteArray := prog_7_method_12_code
def yX5_readOnce : MethodName := ⟨RX5, "readOnce", "([III)Z"⟩
abbrev cX5_readCell : ByteArray := prog_7_method_13_code
def yX5_readCell : MethodName := ⟨RX5, "readCell", "()Z"⟩
abbrev cX5_readNumber : ByteArray := prog_7_method_14_code
def yX5_readNumber : MethodName := ⟨RX5, "readNumber", "(II)Z"⟩
def RX6 : String := "SmokeSeats"
def TX6 : u_T := fun k => match k with
  | 0 => ("SmokeSeats", "now", "LSmokeSeats$Room;", true)
  | 1 => ("SmokeSeats", "trial", "LSmokeSeats$Room;", true)
  | 2 => ("SmokeSeats", "seen", "LSmokeSeats$Seen;", true)
  | 3 => ("SmokeSeats", "images", "[LSmokeSeats$Image;", true)
  | 4 => ("SmokeSeats", "tape", "LSmokeSeats$Tape;", true)
  | 5 => ("SmokeSeats", "sheets", "[LSmokeSeats$Sheet;", true)
  | 6 => ("SmokeSeats", "odds", "LSmokeSeats$Odds;", true)
  | 7 => ("SmokeSeats", "answers", "[I", true)
  | _ => ("SmokeSeats", "torn", "I", false)
def tyX6 : Nat → FieldType := fun k => match k with
  | 0 => .object "SmokeSeats$Room"
  | 1 => .object "SmokeSeats$Room"
  | 2 => .object "SmokeSeats$Seen"
  | 3 => .array (.object "SmokeSeats$Image")
  | 4 => .object "SmokeSeats$Tape"
  | 5 => .array (.object "SmokeSeats$Sheet")
  | 6 => .object "SmokeSeats$Odds"
  | 7 => .array .int
  | _ => .int
theorem nmX6 : ∀ a, a < 9 → ∀ b, b < 9 → a ≠ b → (TX6 a).2.1 ≠ (TX6 b).2.1 := by decide +kernel
theorem tyX6_ok : ∀ k, k < 9 → parseFieldDescriptor (TX6 k).2.2.1 = some (tyX6 k) := by decide +kernel
abbrev cX6_init : ByteArray := prog_1_method_1_code
def yX6_init : MethodName := ⟨RX6, "<init>", "()V"⟩
abbrev cX6_feed : ByteArray := prog_1_method_2_code
def yX6_feed : MethodName := ⟨RX6, "feed", "(I)I"⟩
abbrev cX6_end : ByteArray := prog_1_method_3_code
def yX6_end : MethodName := ⟨RX6, "end", "(I)I"⟩
abbrev cX6_text : ByteArray := prog_1_method_4_code
def yX6_text : MethodName := ⟨RX6, "text", "()I"⟩
abbrev cX6_fault : ByteArray := prog_1_method_5_code
def yX6_fault : MethodName := ⟨RX6, "fault", "()I"⟩
abbrev cX6_rule : ByteArray := prog_1_method_6_code
def yX6_rule : MethodName := ⟨RX6, "rule", "(I)I"⟩
abbrev cX6_life : ByteArray := prog_1_method_7_code
def yX6_life : MethodName := ⟨RX6, "life", "(II)I"⟩
abbrev cX6_sitter : ByteArray := prog_1_method_8_code
def yX6_sitter : MethodName := ⟨RX6, "sitter", "(II)I"⟩
abbrev cX6_has : ByteArray := prog_1_method_9_code
def yX6_has : MethodName := ⟨RX6, "has", "(II)I"⟩
abbrev cX6_in : ByteArray := prog_1_method_10_code
def yX6_in : MethodName := ⟨RX6, "in", "(II)I"⟩
abbrev cX6_air : ByteArray := prog_1_method_11_code
def yX6_air : MethodName := ⟨RX6, "air", "(I)I"⟩
abbrev cX6_alter : ByteArray := prog_1_method_12_code
def yX6_alter : MethodName := ⟨RX6, "alter", "(III)I"⟩
abbrev cX6_seat : ByteArray := prog_1_method_13_code
def yX6_seat : MethodName := ⟨RX6, "seat", "(III)I"⟩
abbrev cX6_blow : ByteArray := prog_1_method_14_code
def yX6_blow : MethodName := ⟨RX6, "blow", "(II)I"⟩
abbrev cX6_price : ByteArray := prog_1_method_15_code
def yX6_price : MethodName := ⟨RX6, "price", "(II)I"⟩
abbrev cX6_open : ByteArray := prog_1_method_16_code
def yX6_open : MethodName := ⟨RX6, "open", "()I"⟩
abbrev cX6_steps : ByteArray := prog_1_method_17_code
def yX6_steps : MethodName := ⟨RX6, "steps", "(I)I"⟩
abbrev cX6_runs : ByteArray := prog_1_method_18_code
def yX6_runs : MethodName := ⟨RX6, "runs", "(II)I"⟩
abbrev cX6_firstTaking : ByteArray := prog_1_method_19_code
def yX6_firstTaking : MethodName := ⟨RX6, "firstTaking", "(I)I"⟩
abbrev cX6_ahead : ByteArray := prog_1_method_20_code
def yX6_ahead : MethodName := ⟨RX6, "ahead", "(III)I"⟩
abbrev cX6_wet : ByteArray := prog_1_method_21_code
def yX6_wet : MethodName := ⟨RX6, "wet", "(II)I"⟩
abbrev cX6_over : ByteArray := prog_1_method_22_code
def yX6_over : MethodName := ⟨RX6, "over", "()I"⟩
abbrev cX6_best : ByteArray := prog_1_method_23_code
def yX6_best : MethodName := ⟨RX6, "best", "(III)I"⟩
abbrev cX6_cheap : ByteArray := prog_1_method_24_code
def yX6_cheap : MethodName := ⟨RX6, "cheap", "(III)I"⟩
abbrev cX6_isEnoughThere : ByteArray := prog_1_method_25_code
def yX6_isEnoughThere : MethodName := ⟨RX6, "isEnoughThere", "(IIII)Z"⟩
abbrev cX6_clean : ByteArray := prog_1_method_26_code
def yX6_clean : MethodName := ⟨RX6, "clean", "(III)I"⟩
abbrev cX6_sitThere : ByteArray := prog_1_method_27_code
def yX6_sitThere : MethodName := ⟨RX6, "sitThere", "(III)V"⟩
abbrev cX6_need : ByteArray := prog_1_method_28_code
def yX6_need : MethodName := ⟨RX6, "need", "(III)I"⟩
abbrev cX6_swap : ByteArray := prog_1_method_29_code
def yX6_swap : MethodName := ⟨RX6, "swap", "(II)I"⟩
abbrev cX6_heldIfSwapped : ByteArray := prog_1_method_30_code
def yX6_heldIfSwapped : MethodName := ⟨RX6, "heldIfSwapped", "(III)I"⟩
abbrev cX6_fan : ByteArray := prog_1_method_31_code
def yX6_fan : MethodName := ⟨RX6, "fan", "(III)I"⟩
abbrev cX6_heldIfBlown : ByteArray := prog_1_method_32_code
def yX6_heldIfBlown : MethodName := ⟨RX6, "heldIfBlown", "(IIII)I"⟩
abbrev cX6_luck : ByteArray := prog_1_method_33_code
def yX6_luck : MethodName := ⟨RX6, "luck", "(IIII)J"⟩
abbrev cX6_mean : ByteArray := prog_1_method_34_code
def yX6_mean : MethodName := ⟨RX6, "mean", "(IIII)J"⟩
abbrev cX6_areOdds : ByteArray := prog_1_method_35_code
def yX6_areOdds : MethodName := ⟨RX6, "areOdds", "(IIII)Z"⟩
abbrev cX6_see : ByteArray := prog_1_method_36_code
def yX6_see : MethodName := ⟨RX6, "see", "(IIII)I"⟩
abbrev cX6_forget : ByteArray := prog_1_method_37_code
def yX6_forget : MethodName := ⟨RX6, "forget", "(I)I"⟩
abbrev cX6_kinds : ByteArray := prog_1_method_38_code
def yX6_kinds : MethodName := ⟨RX6, "kinds", "(I)I"⟩
abbrev cX6_froms : ByteArray := prog_1_method_39_code
def yX6_froms : MethodName := ⟨RX6, "froms", "(II)I"⟩
abbrev cX6_isFrom : ByteArray := prog_1_method_40_code
def yX6_isFrom : MethodName := ⟨RX6, "isFrom", "(III)Z"⟩
abbrev cX6_ask : ByteArray := prog_1_method_41_code
def yX6_ask : MethodName := ⟨RX6, "ask", "(II)I"⟩
abbrev cX6_gatherAnswers : ByteArray := prog_1_method_42_code
def yX6_gatherAnswers : MethodName := ⟨RX6, "gatherAnswers", "(I)I"⟩
abbrev cX6_mostAlike : ByteArray := prog_1_method_43_code
def yX6_mostAlike : MethodName := ⟨RX6, "mostAlike", "(II)I"⟩
abbrev cX6_drift : ByteArray := prog_1_method_44_code
def yX6_drift : MethodName := ⟨RX6, "drift", "(III)I"⟩
abbrev cX6_keep : ByteArray := prog_1_method_45_code
def yX6_keep : MethodName := ⟨RX6, "keep", "(I)I"⟩
abbrev cX6_back : ByteArray := prog_1_method_46_code
def yX6_back : MethodName := ⟨RX6, "back", "(I)I"⟩
abbrev cX6_sheet : ByteArray := prog_1_method_47_code
def yX6_sheet : MethodName := ⟨RX6, "sheet", "(III)I"⟩
abbrev cX6_lay : ByteArray := prog_1_method_48_code
def yX6_lay : MethodName := ⟨RX6, "lay", "(III)I"⟩
abbrev cX6_read : ByteArray := prog_1_method_49_code
def yX6_read : MethodName := ⟨RX6, "read", "(IIII)I"⟩
abbrev cX6_isRefused : ByteArray := prog_1_method_50_code
def yX6_isRefused : MethodName := ⟨RX6, "isRefused", "(LSmokeSeats$Sheet;II)Z"⟩
abbrev cX6_torn : ByteArray := prog_1_method_51_code
def yX6_torn : MethodName := ⟨RX6, "torn", "()I"⟩
abbrev cX6_count : ByteArray := prog_1_method_52_code
def yX6_count : MethodName := ⟨RX6, "count", "(I)I"⟩
abbrev cX6_isWithin : ByteArray := prog_1_method_53_code
def yX6_isWithin : MethodName := ⟨RX6, "isWithin", "(III)Z"⟩
abbrev cX6_isSheet : ByteArray := prog_1_method_54_code
def yX6_isSheet : MethodName := ⟨RX6, "isSheet", "(I)Z"⟩
abbrev cX6_isLane : ByteArray := prog_1_method_55_code
def yX6_isLane : MethodName := ⟨RX6, "isLane", "(I)Z"⟩
abbrev cX6_replace : ByteArray := prog_1_method_56_code
def yX6_replace : MethodName := ⟨RX6, "replace", "([III)I"⟩
abbrev cX6_isCell : ByteArray := prog_1_method_57_code
def yX6_isCell : MethodName := ⟨RX6, "isCell", "(I)Z"⟩
abbrev cX6_cellOf : ByteArray := prog_1_method_58_code
def yX6_cellOf : MethodName := ⟨RX6, "cellOf", "(I)I"⟩
abbrev cX6_nameOf : ByteArray := prog_1_method_59_code
def yX6_nameOf : MethodName := ⟨RX6, "nameOf", "(I)I"⟩
abbrev cX6_rowOf : ByteArray := prog_1_method_60_code
def yX6_rowOf : MethodName := ⟨RX6, "rowOf", "(I)I"⟩
def RX7 : String := "SmokeSeatsModel"
def TX7 : u_T := fun k => match k with
  | 0 => ("SmokeSeatsModel", "st", "[I", true)
  | 1 => ("SmokeSeatsModel", "now", "[I", true)
  | 2 => ("SmokeSeatsModel", "isKept", "[Z", true)
  | 3 => ("SmokeSeatsModel", "lives", "I", false)
  | 4 => ("SmokeSeatsModel", "sitters", "I", false)
  | 5 => ("SmokeSeatsModel", "draft", "[I", true)
  | 6 => ("SmokeSeatsModel", "dLives", "I", false)
  | 7 => ("SmokeSeatsModel", "dSitters", "I", false)
  | 8 => ("SmokeSeatsModel", "toldAirs", "I", false)
  | 9 => ("SmokeSeatsModel", "toldPrices", "I", false)
  | 10 => ("SmokeSeatsModel", "tape", "[I", true)
  | 11 => ("SmokeSeatsModel", "taped", "I", false)
  | 12 => ("SmokeSeatsModel", "pos", "I", false)
  | 13 => ("SmokeSeatsModel", "begun", "I", false)
  | 14 => ("SmokeSeatsModel", "sort", "I", false)
  | 15 => ("SmokeSeatsModel", "value", "I", false)
  | 16 => ("SmokeSeatsModel", "fault", "I", false)
  | 17 => ("SmokeSeatsModel", "wrongAt", "I", false)
  | 18 => ("SmokeSeatsModel", "going", "[I", true)
  | 19 => ("SmokeSeatsModel", "someSum", "J", false)
  | 20 => ("SmokeSeatsModel", "muchSum", "J", false)
  | 21 => ("SmokeSeatsModel", "allWays", "J", false)
  | 22 => ("SmokeSeatsModel", "hads", "[I", true)
  | 23 => ("SmokeSeatsModel", "lanes", "[I", true)
  | 24 => ("SmokeSeatsModel", "sizes", "[I", true)
  | 25 => ("SmokeSeatsModel", "cells", "[I", true)
  | 26 => ("SmokeSeatsModel", "torn", "I", false)
  | _ => ("SmokeSeatsModel", "before", "[I", true)
def tyX7 : Nat → FieldType := fun k => match k with
  | 0 => .array .int
  | 1 => .array .int
  | 2 => .array .boolean
  | 3 => .int
  | 4 => .int
  | 5 => .array .int
  | 6 => .int
  | 7 => .int
  | 8 => .int
  | 9 => .int
  | 10 => .array .int
  | 11 => .int
  | 12 => .int
  | 13 => .int
  | 14 => .int
  | 15 => .int
  | 16 => .int
  | 17 => .int
  | 18 => .array .int
  | 19 => .long
  | 20 => .long
  | 21 => .long
  | 22 => .array .int
  | 23 => .array .int
  | 24 => .array .int
  | 25 => .array .int
  | 26 => .int
  | _ => .array .int
theorem nmX7 : ∀ a, a < 28 → ∀ b, b < 28 → a ≠ b → (TX7 a).2.1 ≠ (TX7 b).2.1 := by decide +kernel
theorem tyX7_ok : ∀ k, k < 28 → parseFieldDescriptor (TX7 k).2.2.1 = some (tyX7 k) := by decide +kernel
abbrev cX7_init : ByteArray := prog_9_method_1_code
def yX7_init : MethodName := ⟨RX7, "<init>", "()V"⟩
abbrev cX7_within : ByteArray := prog_9_method_3_code
def yX7_within : MethodName := ⟨RX7, "within", "(JJJ)Z"⟩
abbrev cX7_flag : ByteArray := prog_9_method_4_code
def yX7_flag : MethodName := ⟨RX7, "flag", "(Z)I"⟩
abbrev cX7_lesser : ByteArray := prog_9_method_5_code
def yX7_lesser : MethodName := ⟨RX7, "lesser", "(II)I"⟩
abbrev cX7_isCell : ByteArray := prog_9_method_6_code
def yX7_isCell : MethodName := ⟨RX7, "isCell", "(I)Z"⟩
abbrev cX7_cellOf : ByteArray := prog_9_method_7_code
def yX7_cellOf : MethodName := ⟨RX7, "cellOf", "(I)I"⟩
abbrev cX7_nameOf : ByteArray := prog_9_method_8_code
def yX7_nameOf : MethodName := ⟨RX7, "nameOf", "(I)I"⟩
abbrev cX7_firstDraft : ByteArray := prog_9_method_9_code
def yX7_firstDraft : MethodName := ⟨RX7, "firstDraft", "()V"⟩
abbrev cX7_keepDraft : ByteArray := prog_9_method_10_code
def yX7_keepDraft : MethodName := ⟨RX7, "keepDraft", "()V"⟩
abbrev cX7_feed : ByteArray := prog_9_method_11_code
def yX7_feed : MethodName := ⟨RX7, "feed", "(I)I"⟩
abbrev cX7_end : ByteArray := prog_9_method_12_code
def yX7_end : MethodName := ⟨RX7, "end", "(I)I"⟩
abbrev cX7_needs : ByteArray := prog_9_method_13_code
def yX7_needs : MethodName := ⟨RX7, "needs", "(ZI)V"⟩
abbrev cX7_byteAt : ByteArray := prog_9_method_14_code
def yX7_byteAt : MethodName := ⟨RX7, "byteAt", "(I)I"⟩
abbrev cX7_is : ByteArray := prog_9_method_15_code
def yX7_is : MethodName := ⟨RX7, "is", "(IIII)Z"⟩
abbrev cX7_ends : ByteArray := prog_9_method_16_code
def yX7_ends : MethodName := ⟨RX7, "ends", "(III)Z"⟩
abbrev cX7_kindNow : ByteArray := prog_9_method_17_code
def yX7_kindNow : MethodName := ⟨RX7, "kindNow", "()I"⟩
abbrev cX7_lineNow : ByteArray := prog_9_method_18_code
def yX7_lineNow : MethodName := ⟨RX7, "lineNow", "()I"⟩
abbrev cX7_takes : ByteArray := prog_9_method_19_code
def yX7_takes : MethodName := ⟨RX7, "takes", "()V"⟩
abbrev cX7_looked : ByteArray := prog_9_method_20_code
def yX7_looked : MethodName := ⟨RX7, "looked", "(II)I"⟩
abbrev cX7_readNumber : ByteArray := prog_9_method_21_code
def yX7_readNumber : MethodName := ⟨RX7, "readNumber", "(II)I"⟩
abbrev cX7_readCell : ByteArray := prog_9_method_22_code
def yX7_readCell : MethodName := ⟨RX7, "readCell", "()I"⟩
abbrev cX7_readLineOf : ByteArray := prog_9_method_23_code
def yX7_readLineOf : MethodName := ⟨RX7, "readLineOf", "(I)V"⟩
abbrev cX7_readLine : ByteArray := prog_9_method_24_code
def yX7_readLine : MethodName := ⟨RX7, "readLine", "()V"⟩
abbrev cX7_text : ByteArray := prog_9_method_25_code
def yX7_text : MethodName := ⟨RX7, "text", "()I"⟩
abbrev cX7_fault : ByteArray := prog_9_method_26_code
def yX7_fault : MethodName := ⟨RX7, "fault", "()I"⟩
abbrev cX7_isLife : ByteArray := prog_9_method_27_code
def yX7_isLife : MethodName := ⟨RX7, "isLife", "(I)Z"⟩
abbrev cX7_isSitter : ByteArray := prog_9_method_28_code
def yX7_isSitter : MethodName := ⟨RX7, "isSitter", "(I)Z"⟩
abbrev cX7_isPart : ByteArray := prog_9_method_29_code
def yX7_isPart : MethodName := ⟨RX7, "isPart", "(I)Z"⟩
abbrev cX7_starts : ByteArray := prog_9_method_30_code
def yX7_starts : MethodName := ⟨RX7, "starts", "()V"⟩
abbrev cX7_settles : ByteArray := prog_9_method_31_code
def yX7_settles : MethodName := ⟨RX7, "settles", "()V"⟩
abbrev cX7_moves : ByteArray := prog_9_method_32_code
def yX7_moves : MethodName := ⟨RX7, "moves", "(II)I"⟩
abbrev cX7_isTold : ByteArray := prog_9_method_33_code
def yX7_isTold : MethodName := ⟨RX7, "isTold", "()V"⟩
abbrev cX7_isTaken : ByteArray := prog_9_method_34_code
def yX7_isTaken : MethodName := ⟨RX7, "isTaken", "()V"⟩
abbrev cX7_nextCell : ByteArray := prog_9_method_35_code
def yX7_nextCell : MethodName := ⟨RX7, "nextCell", "(II)I"⟩
abbrev cX7_drifts : ByteArray := prog_9_method_36_code
def yX7_drifts : MethodName := ⟨RX7, "drifts", "(I)V"⟩
abbrev cX7_stepGoes : ByteArray := prog_9_method_37_code
def yX7_stepGoes : MethodName := ⟨RX7, "stepGoes", "(Z)V"⟩
abbrev cX7_stepsGo : ByteArray := prog_9_method_38_code
def yX7_stepsGo : MethodName := ⟨RX7, "stepsGo", "(I)V"⟩
abbrev cX7_inRoom : ByteArray := prog_9_method_39_code
def yX7_inRoom : MethodName := ⟨RX7, "inRoom", "(I)I"⟩
abbrev cX7_hadBy : ByteArray := prog_9_method_40_code
def yX7_hadBy : MethodName := ⟨RX7, "hadBy", "(I)I"⟩
abbrev cX7_hadOf : ByteArray := prog_9_method_41_code
def yX7_hadOf : MethodName := ⟨RX7, "hadOf", "(I)I"⟩
abbrev cX7_allIn : ByteArray := prog_9_method_42_code
def yX7_allIn : MethodName := ⟨RX7, "allIn", "()I"⟩
abbrev cX7_allLost : ByteArray := prog_9_method_43_code
def yX7_allLost : MethodName := ⟨RX7, "allLost", "()I"⟩
abbrev cX7_allHad : ByteArray := prog_9_method_44_code
def yX7_allHad : MethodName := ⟨RX7, "allHad", "()I"⟩
abbrev cX7_rule : ByteArray := prog_9_method_45_code
def yX7_rule : MethodName := ⟨RX7, "rule", "(I)I"⟩
abbrev cX7_asTold : ByteArray := prog_9_method_46_code
def yX7_asTold : MethodName := ⟨RX7, "asTold", "(II)I"⟩
abbrev cX7_life : ByteArray := prog_9_method_47_code
def yX7_life : MethodName := ⟨RX7, "life", "(II)I"⟩
abbrev cX7_sitter : ByteArray := prog_9_method_48_code
def yX7_sitter : MethodName := ⟨RX7, "sitter", "(II)I"⟩
abbrev cX7_has : ByteArray := prog_9_method_49_code
def yX7_has : MethodName := ⟨RX7, "has", "(II)I"⟩
abbrev cX7_in : ByteArray := prog_9_method_50_code
def yX7_in : MethodName := ⟨RX7, "in", "(II)I"⟩
abbrev cX7_air : ByteArray := prog_9_method_51_code
def yX7_air : MethodName := ⟨RX7, "air", "(I)I"⟩
abbrev cX7_becomes : ByteArray := prog_9_method_52_code
def yX7_becomes : MethodName := ⟨RX7, "becomes", "(II)I"⟩
abbrev cX7_canBe : ByteArray := prog_9_method_53_code
def yX7_canBe : MethodName := ⟨RX7, "canBe", "(II)Z"⟩
abbrev cX7_alter : ByteArray := prog_9_method_54_code
def yX7_alter : MethodName := ⟨RX7, "alter", "(III)I"⟩
abbrev cX7_seat : ByteArray := prog_9_method_55_code
def yX7_seat : MethodName := ⟨RX7, "seat", "(III)I"⟩
abbrev cX7_blow : ByteArray := prog_9_method_56_code
def yX7_blow : MethodName := ⟨RX7, "blow", "(II)I"⟩
abbrev cX7_price : ByteArray := prog_9_method_57_code
def yX7_price : MethodName := ⟨RX7, "price", "(II)I"⟩
abbrev cX7_open : ByteArray := prog_9_method_58_code
def yX7_open : MethodName := ⟨RX7, "open", "()I"⟩
abbrev cX7_steps : ByteArray := prog_9_method_59_code
def yX7_steps : MethodName := ⟨RX7, "steps", "(I)I"⟩
abbrev cX7_isFar : ByteArray := prog_9_method_60_code
def yX7_isFar : MethodName := ⟨RX7, "isFar", "(I)Z"⟩
abbrev cX7_runs : ByteArray := prog_9_method_61_code
def yX7_runs : MethodName := ⟨RX7, "runs", "(II)I"⟩
abbrev cX7_ahead : ByteArray := prog_9_method_62_code
def yX7_ahead : MethodName := ⟨RX7, "ahead", "(III)I"⟩
abbrev cX7_wet : ByteArray := prog_9_method_63_code
def yX7_wet : MethodName := ⟨RX7, "wet", "(II)I"⟩
abbrev cX7_allLeft : ByteArray := prog_9_method_64_code
def yX7_allLeft : MethodName := ⟨RX7, "allLeft", "()I"⟩
abbrev cX7_over : ByteArray := prog_9_method_65_code
def yX7_over : MethodName := ⟨RX7, "over", "()I"⟩
abbrev cX7_hasIn : ByteArray := prog_9_method_66_code
def yX7_hasIn : MethodName := ⟨RX7, "hasIn", "(IIII)I"⟩
abbrev cX7_best : ByteArray := prog_9_method_67_code
def yX7_best : MethodName := ⟨RX7, "best", "(III)I"⟩
abbrev cX7_cheap : ByteArray := prog_9_method_68_code
def yX7_cheap : MethodName := ⟨RX7, "cheap", "(III)I"⟩
abbrev cX7_clean : ByteArray := prog_9_method_69_code
def yX7_clean : MethodName := ⟨RX7, "clean", "(III)I"⟩
abbrev cX7_need : ByteArray := prog_9_method_70_code
def yX7_need : MethodName := ⟨RX7, "need", "(III)I"⟩
abbrev cX7_swap : ByteArray := prog_9_method_71_code
def yX7_swap : MethodName := ⟨RX7, "swap", "(II)I"⟩
abbrev cX7_fan : ByteArray := prog_9_method_72_code
def yX7_fan : MethodName := ⟨RX7, "fan", "(III)I"⟩
abbrev cX7_common : ByteArray := prog_9_method_73_code
def yX7_common : MethodName := ⟨RX7, "common", "(JJ)J"⟩
abbrev cX7_told : ByteArray := prog_9_method_74_code
def yX7_told : MethodName := ⟨RX7, "told", "(JJI)J"⟩
abbrev cX7_findOdds : ByteArray := prog_9_method_75_code
def yX7_findOdds : MethodName := ⟨RX7, "findOdds", "(III)V"⟩
abbrev cX7_isOdds : ByteArray := prog_9_method_76_code
def yX7_isOdds : MethodName := ⟨RX7, "isOdds", "(IIII)Z"⟩
abbrev cX7_luck : ByteArray := prog_9_method_77_code
def yX7_luck : MethodName := ⟨RX7, "luck", "(IIII)J"⟩
abbrev cX7_mean : ByteArray := prog_9_method_78_code
def yX7_mean : MethodName := ⟨RX7, "mean", "(IIII)J"⟩
abbrev cX7_see : ByteArray := prog_9_method_79_code
def yX7_see : MethodName := ⟨RX7, "see", "(IIII)I"⟩
abbrev cX7_forget : ByteArray := prog_9_method_80_code
def yX7_forget : MethodName := ⟨RX7, "forget", "(I)I"⟩
abbrev cX7_isSoWith : ByteArray := prog_9_method_81_code
def yX7_isSoWith : MethodName := ⟨RX7, "isSoWith", "(III)Z"⟩
abbrev cX7_kinds : ByteArray := prog_9_method_82_code
def yX7_kinds : MethodName := ⟨RX7, "kinds", "(I)I"⟩
abbrev cX7_froms : ByteArray := prog_9_method_83_code
def yX7_froms : MethodName := ⟨RX7, "froms", "(II)I"⟩
abbrev cX7_ask : ByteArray := prog_9_method_84_code
def yX7_ask : MethodName := ⟨RX7, "ask", "(II)I"⟩
abbrev cX7_drift : ByteArray := prog_9_method_85_code
def yX7_drift : MethodName := ⟨RX7, "drift", "(III)I"⟩
abbrev cX7_copies : ByteArray := prog_9_method_86_code
def yX7_copies : MethodName := ⟨RX7, "copies", "(II)V"⟩
abbrev cX7_keep : ByteArray := prog_9_method_87_code
def yX7_keep : MethodName := ⟨RX7, "keep", "(I)I"⟩
abbrev cX7_back : ByteArray := prog_9_method_88_code
def yX7_back : MethodName := ⟨RX7, "back", "(I)I"⟩
abbrev cX7_isSheet : ByteArray := prog_9_method_89_code
def yX7_isSheet : MethodName := ⟨RX7, "isSheet", "(II)Z"⟩
abbrev cX7_sheet : ByteArray := prog_9_method_90_code
def yX7_sheet : MethodName := ⟨RX7, "sheet", "(III)I"⟩
abbrev cX7_lay : ByteArray := prog_9_method_91_code
def yX7_lay : MethodName := ⟨RX7, "lay", "(III)I"⟩
abbrev cX7_read : ByteArray := prog_9_method_92_code
def yX7_read : MethodName := ⟨RX7, "read", "(IIII)I"⟩
abbrev cX7_torn : ByteArray := prog_9_method_93_code
def yX7_torn : MethodName := ⟨RX7, "torn", "()I"⟩
abbrev cX7_count : ByteArray := prog_9_method_94_code
def yX7_count : MethodName := ⟨RX7, "count", "(I)I"⟩
def RJ9 : String := "java/lang/Math"
abbrev cJ9_max_7cf53 : ByteArray := prog_10_method_65_code
def yJ9_max_7cf53 : MethodName := ⟨RJ9, "max", "(II)I"⟩
abbrev cJ9_min_7cf53 : ByteArray := prog_10_method_69_code
def yJ9_min_7cf53 : MethodName := ⟨RJ9, "min", "(II)I"⟩
def RJ0 : String := "java/lang/String"
abbrev cJ0_length_8abf5 : ByteArray := prog_11_method_54_code
def yJ0_length_8abf5 : MethodName := ⟨RJ0, "length", "()I"⟩
abbrev cJ0_charAt_5068e : ByteArray := prog_11_method_56_code
def yJ0_charAt_5068e : MethodName := ⟨RJ0, "charAt", "(I)C"⟩
abbrev cJ0_coder_7d493 : ByteArray := prog_11_method_152_code
def yJ0_coder_7d493 : MethodName := ⟨RJ0, "coder", "()B"⟩
abbrev cJ0_isLatin1_aae02 : ByteArray := prog_11_method_154_code
def yJ0_isLatin1_aae02 : MethodName := ⟨RJ0, "isLatin1", "()Z"⟩
abbrev cJ0_checkIndex_df160 : ByteArray := prog_11_method_155_code
def yJ0_checkIndex_df160 : MethodName := ⟨RJ0, "checkIndex", "(II)V"⟩
def RJ1 : String := "java/lang/StringLatin1"
abbrev cJ1_charAt_3b067 : ByteArray := prog_12_method_2_code
def yJ1_charAt_3b067 : MethodName := ⟨RJ1, "charAt", "([BI)C"⟩
def RJ2 : String := "java/lang/StringUTF16"
abbrev cJ2_getChar_3b067 : ByteArray := prog_13_method_5_code
def yJ2_getChar_3b067 : MethodName := ⟨RJ2, "getChar", "([BI)C"⟩
abbrev cJ2_length_9d52b : ByteArray := prog_13_method_6_code
def yJ2_length_9d52b : MethodName := ⟨RJ2, "length", "([B)I"⟩
abbrev cJ2_charAt_3b067 : ByteArray := prog_13_method_83_code
def yJ2_charAt_3b067 : MethodName := ⟨RJ2, "charAt", "([BI)C"⟩
abbrev cJ2_checkIndex_2214a : ByteArray := prog_13_method_91_code
def yJ2_checkIndex_2214a : MethodName := ⟨RJ2, "checkIndex", "(I[B)V"⟩
def RJ10 : String := "java/lang/System"
def RJ7 : String := "java/util/Arrays"
abbrev cJ7_fill_53178 : ByteArray := prog_15_method_103_code
def yJ7_fill_53178 : MethodName := ⟨RJ7, "fill", "([II)V"⟩
def RJ3 : String := "jdk/internal/util/Preconditions"
abbrev cJ3_checkIndex_8e157 : ByteArray := prog_16_method_11_code
def yJ3_checkIndex_8e157 : MethodName := ⟨RJ3, "checkIndex", "(IILjava/util/function/BiFunction;)I"⟩
def RL : String := "SmokeSeatsLaw"
abbrev cL_law : ByteArray := code
def yL_law : MethodName := ⟨RL, "law", "([I)Z"⟩
end
section
/-! the world behind the constructors: cells by numbers, their ints and longs as one pair of functions -/
def gt : List Cond := lw_tbl.filter goodWord
theorem gt_mem {w : Cond} (h : w ∈ tables_1) (hg : goodWord w = true) : w ∈ gt := List.mem_filter.mpr ⟨List.mem_append_right _ h, hg⟩
theorem gt_sel {w : Cond} (h : w ∈ k2_sels lw_privs) (hg : goodWord w = true) : w ∈ gt := List.mem_filter.mpr ⟨List.mem_append_left _ h, hg⟩
theorem gt_good {c0 w : Cond} {ws : List Cond} (hw : w ∈ gt) : GoodIn (c0 :: gt) (w :: gt) := by
  intro x hx
  have hx' : x ∈ gt := by
    rcases List.mem_cons.mp hx with h | h
    · rw [h]; exact hw
    · exact h
  exact ⟨List.mem_cons_of_mem _ hx', good_of_word (List.mem_filter.mp hx').2⟩
theorem tm1 {w : Cond} (h : w ∈ tables_1_1) : w ∈ tables_1 := List.mem_append_left _ h
theorem tm2 {w : Cond} (h : w ∈ tables_1_2) : w ∈ tables_1 := List.mem_append_right _ (List.mem_append_left _ h)
theorem tm3 {w : Cond} (h : w ∈ tables_1_3) : w ∈ tables_1 := List.mem_append_right _ (List.mem_append_right _ (List.mem_append_left _ h))
theorem tm4 {w : Cond} (h : w ∈ tables_1_4) : w ∈ tables_1 := List.mem_append_right _ (List.mem_append_right _ (List.mem_append_right _ (List.mem_append_left _ h)))
theorem tm5 {w : Cond} (h : w ∈ tables_1_5) : w ∈ tables_1 := List.mem_append_right _ (List.mem_append_right _ (List.mem_append_right _ (List.mem_append_right _ (List.mem_append_left _ h))))
theorem tm6 {w : Cond} (h : w ∈ tables_1_6) : w ∈ tables_1 := List.mem_append_right _ (List.mem_append_right _ (List.mem_append_right _ (List.mem_append_right _ (List.mem_append_right _ h))))
abbrev cls : List vw_C := [(RX0, TX0, 3), (RX1, TX1, 7), (RX2, TX2, 15), (RX3, TX3, 5), (RX4, TX4, 3), (RX5, TX5, 8), (RX6, TX6, 9), (RX7, TX7, 28)]
theorem in0 : ∀ w ∈ u_ws RX0 TX0 3, w ∈ gt := by decide +kernel
theorem in1 : ∀ w ∈ u_ws RX1 TX1 7, w ∈ gt := by decide +kernel
theorem in2 : ∀ w ∈ u_ws RX2 TX2 15, w ∈ gt := by decide +kernel
theorem in3 : ∀ w ∈ u_ws RX3 TX3 5, w ∈ gt := by decide +kernel
theorem in4 : ∀ w ∈ u_ws RX4 TX4 3, w ∈ gt := by decide +kernel
theorem in5 : ∀ w ∈ u_ws RX5 TX5 8, w ∈ gt := by decide +kernel
theorem in6 : ∀ w ∈ u_ws RX6 TX6 9, w ∈ gt := by decide +kernel
theorem in7 : ∀ w ∈ u_ws RX7 TX7 28, w ∈ gt := by decide +kernel
/-- what each cell is: 0 to 7 objects of the classes, 8 bytes, 9 ints, 10 booleans, 11 Images, 12 Rooms, 13 Sheets -/
def kdL : List Nat := [6, 2, 9, 9, 9, 9, 9, 9, 9, 9, 9, 9, 9, 9, 2, 9, 9, 9, 9, 9, 9, 9, 9, 9, 9, 9, 9, 3, 9, 9, 9, 9, 11, 5, 8, 13, 1, 12, 2, 9, 9, 9, 9, 9, 9, 9, 9, 9, 9, 9, 9, 2, 9, 9, 9, 9, 9, 9, 9, 9, 9, 9, 9, 9, 2, 9, 9, 9, 9, 9, 9, 9, 9, 9, 9, 9, 9, 2, 9, 9, 9, 9, 9, 9, 9, 9, 9, 9, 9, 9, 2, 9, 9, 9, 9, 9, 9, 9, 9, 9, 9, 9, 9, 2, 9, 9, 9, 9, 9, 9, 9, 9, 9, 9, 9, 9, 2, 9, 9, 9, 9, 9, 9, 9, 9, 9, 9, 9, 9, 2, 9, 9, 9, 9, 9, 9, 9, 9, 9, 9, 9, 9, 9, 0, 2, 9, 9, 9, 9, 9, 9, 9, 9, 9, 9, 9, 9, 3, 9, 9, 9, 9, 0, 2, 9, 9, 9, 9, 9, 9, 9, 9, 9, 9, 9, 9, 3, 9, 9, 9, 9, 4, 9, 4, 9, 4, 9, 4, 9, 7, 9, 9, 10, 9, 9, 9, 9, 9, 9, 9, 9]
def lnL : List Nat := [0, 0, 3, 3, 3, 3, 3, 3, 60, 4, 4, 12, 6, 4, 0, 3, 3, 3, 3, 3, 3, 60, 4, 4, 12, 6, 4, 0, 6, 6, 6, 6, 2, 0, 160, 4, 0, 8, 0, 3, 3, 3, 3, 3, 3, 60, 4, 4, 12, 6, 4, 0, 3, 3, 3, 3, 3, 3, 60, 4, 4, 12, 6, 4, 0, 3, 3, 3, 3, 3, 3, 60, 4, 4, 12, 6, 4, 0, 3, 3, 3, 3, 3, 3, 60, 4, 4, 12, 6, 4, 0, 3, 3, 3, 3, 3, 3, 60, 4, 4, 12, 6, 4, 0, 3, 3, 3, 3, 3, 3, 60, 4, 4, 12, 6, 4, 0, 3, 3, 3, 3, 3, 3, 60, 4, 4, 12, 6, 4, 0, 3, 3, 3, 3, 3, 3, 60, 4, 4, 12, 6, 4, 80, 0, 0, 3, 3, 3, 3, 3, 3, 60, 4, 4, 12, 6, 4, 0, 6, 6, 6, 6, 0, 0, 3, 3, 3, 3, 3, 3, 60, 4, 4, 12, 6, 4, 0, 6, 6, 6, 6, 0, 40, 0, 40, 0, 40, 0, 40, 0, 393, 131, 2, 131, 160, 20, 80, 4, 4, 160, 131]
def kd (k : Nat) : Nat := kdL.getD k 99
def ln (k : Nat) : Nat := lnL.getD k 0
def lnI (k : Nat) : Nat := if kd k = 9 then ln k else 0
def lnB (k : Nat) : Nat := if kd k = 8 then ln k else 0
def lnZ (k : Nat) : Nat := if kd k = 10 then ln k else 0
theorem kd_lt {k c : Nat} (h : kd k = c) (hc : c < 99) : k < 201 := by
  rcases Nat.lt_or_ge k 201 with h1 | h1
  · exact h1
  · have : kd k = 99 := by
      unfold kd
      rw [List.getD_eq_getElem?_getD, List.getElem?_eq_none (by rw [show kdL.length = 201 from by decide +kernel]; exact h1)]
      rfl
    omega
abbrev St : Type := (Nat → Nat → Int32) × (Nat → Nat → Int64)
abbrev Gm : Type := va_G × (Nat → Nat) × (Nat → Prop) × (Nat → ClassId) × (Nat → Nat) × (Nat → Nat)
def gD (Γ : Gm) : va_G := Γ.1
def gL (Γ : Gm) : Nat → Nat := Γ.2.1
def gA (Γ : Gm) : Nat → Prop := Γ.2.2.1
def gC (Γ : Gm) : Nat → ClassId := Γ.2.2.2.1
def gK (Γ : Gm) : Nat → Nat := Γ.2.2.2.2.1
def gV (Γ : Gm) : Nat → Nat := Γ.2.2.2.2.2
def tys (Γ : Gm) : List (ClassId × FieldType) := [(gC Γ 8, .byte), (gC Γ 9, .int), (gC Γ 10, .boolean), (gC Γ 11, .object "SmokeSeats$Image"), (gC Γ 12, .object "SmokeSeats$Room"), (gC Γ 13, .object "SmokeSeats$Sheet")]
def entK (Γ : Gm) (c k : Nat) (f : Nat → Int32) (g : Nat → Int64) : va_E :=
  match c with
  | 0 => .inr (0, [.int (f 0), .ref (gL Γ (k + 1)), .ref (gL Γ (k + 14))])
  | 1 => .inr (1, [.ref (gL Γ (k + 1)), .int (f 1), .int (f 2), .int (f 3), .int (f 4), .long (g 5), .long (g 6)])
  | 2 => .inr (2, [.int (f 0), .int (f 1), .int (f 2), .ref (gL Γ (k + 1)), .ref (gL Γ (k + 2)), .ref (gL Γ (k + 3)), .ref (gL Γ (k + 4)), .ref (gL Γ (k + 5)), .ref (gL Γ (k + 6)), .ref (gL Γ (k + 7)), .ref (gL Γ (k + 8)), .ref (gL Γ (k + 9)), .ref (gL Γ (k + 10)), .ref (gL Γ (k + 11)), .ref (gL Γ (k + 12))])
  | 3 => .inr (3, [.int (f 0), .ref (gL Γ (k + 1)), .ref (gL Γ (k + 2)), .ref (gL Γ (k + 3)), .ref (gL Γ (k + 4))])
  | 4 => .inr (4, [.int (f 0), .int (f 1), .ref (gL Γ (k + 1))])
  | 5 => .inr (5, [.ref (gL Γ (k + 1)), .int (f 1), .int (f 2), .int (f 3), .int (f 4), .int (f 5), .int (f 6), .int (f 7)])
  | 6 => .inr (6, [.ref (gL Γ (k + 1)), .ref (gL Γ (k + 14)), .ref (gL Γ (k + 27)), .ref (gL Γ (k + 32)), .ref (gL Γ (k + 33)), .ref (gL Γ (k + 35)), .ref (gL Γ (k + 36)), .ref (gL Γ (k + 142)), .int (f 8)])
  | 7 => .inr (7, [.ref (gL Γ (k + 1)), .ref (gL Γ (k + 2)), .ref (gL Γ (k + 3)), .int (f 3), .int (f 4), .ref (gL Γ (k + 4)), .int (f 6), .int (f 7), .int (f 8), .int (f 9), .ref (gL Γ (k + 5)), .int (f 11), .int (f 12), .int (f 13), .int (f 14), .int (f 15), .int (f 16), .int (f 17), .ref (gL Γ (k + 6)), .long (g 19), .long (g 20), .long (g 21), .ref (gL Γ (k + 7)), .ref (gL Γ (k + 8)), .ref (gL Γ (k + 9)), .ref (gL Γ (k + 10)), .int (f 26), .ref (gL Γ (k + 11))])
  | 8 => .inl (gC Γ 8, ln k, .inl f)
  | 9 => .inl (gC Γ 9, ln k, .inl f)
  | 10 => .inl (gC Γ 10, ln k, .inl f)
  | 11 => .inl (gC Γ 11, ln k, .inr (.inr (.inr (.inr (fun j => some (gL Γ (k + 111 + 19 * j)))))))
  | 12 => .inl (gC Γ 12, ln k, .inr (.inr (.inr (.inr (fun j => some (gL Γ (k + 1 + 13 * j)))))))
  | 13 => .inl (gC Γ 13, ln k, .inr (.inr (.inr (.inr (fun j => some (gL Γ (k + 146 + 2 * j)))))))
  | _ => .inr (0, [])
def ent (Γ : Gm) (s : St) (k : Nat) : va_E := entK Γ (kd k) k (s.1 k) (s.2 k)
def wl (Γ : Gm) (s : St) : va_W := (List.range 201).map (fun k => (gL Γ k, ent Γ s k))
theorem wl_get {Γ : Gm} {s : St} {k : Nat} (h : k < 201) : (wl Γ s)[k]? = some (gL Γ k, ent Γ s k) := by
  unfold wl
  rw [List.getElem?_map, List.getElem?_range h]
  rfl
theorem wl_set {Γ : Gm} {s s' : St} {k : Nat} {e : va_E} (hk : k < 201) (h1 : ent Γ s' k = e) (h2 : ∀ j, j ≠ k → s'.1 j = s.1 j ∧ s'.2 j = s.2 j) : (wl Γ s).set k (gL Γ k, e) = wl Γ s' := by
  apply List.ext_getElem?
  intro i
  rw [List.getElem?_set]
  by_cases hi : k = i
  · subst hi
    rw [if_pos rfl, wl_get hk, h1]
    simp [wl, hk]
  · rw [if_neg hi]
    rcases Nat.lt_or_ge i 201 with h3 | h3
    · rw [wl_get h3, wl_get h3]
      obtain ⟨e1, e2⟩ := h2 i (fun h => hi h.symm)
      simp only [ent, e1, e2]
    · simp [wl, h3]
def wI (s : St) (k i : Nat) (x : Int32) : St := (fun a => if a = k then upd (s.1 k) i x else s.1 a, s.2)
def wJ (s : St) (k i : Nat) (x : Int64) : St := (s.1, fun a => if a = k then vp_updL (s.2 k) i x else s.2 a)
/-- a row of ints is written as a whole -/
def wR (s : St) (k : Nat) (f : Nat → Int32) : St := (fun a => if a = k then f else s.1 a, s.2)
theorem wI_o {s : St} {k i : Nat} {x : Int32} (j : Nat) (h : j ≠ k) : (wI s k i x).1 j = s.1 j ∧ (wI s k i x).2 j = s.2 j := ⟨if_neg h, rfl⟩
theorem wR_o {s : St} {k : Nat} {f : Nat → Int32} (j : Nat) (h : j ≠ k) : (wR s k f).1 j = s.1 j ∧ (wR s k f).2 j = s.2 j := ⟨if_neg h, rfl⟩
theorem wJ_o {s : St} {k i : Nat} {x : Int64} (j : Nat) (h : j ≠ k) : (wJ s k i x).1 j = s.1 j ∧ (wJ s k i x).2 j = s.2 j := ⟨rfl, if_neg h⟩
theorem wI_k {s : St} {k i : Nat} {x : Int32} : (wI s k i x).1 k = upd (s.1 k) i x := if_pos rfl
theorem wR_k {s : St} {k : Nat} {f : Nat → Int32} : (wR s k f).1 k = f := if_pos rfl
theorem wJ_k {s : St} {k i : Nat} {x : Int64} : (wJ s k i x).2 k = vp_updL (s.2 k) i x := if_pos rfl
end
section
/-! the judgement of the walks: Zw, over a bundle of the machine's names -/
def isNest : Cond → Bool
  | .methodLinkNest .. => true
  | _ => false
def nestW : List Cond := tables_1.filter isNest
def lenS : List Nat := [5, 5, 4, 5, 6, 3, 5]
def bytS : List (List Int32) := [[112, 108, 97, 105, 110], [104, 101, 97, 118, 121], [116, 104, 105, 110], [104, 97, 112, 112, 121], [115, 105, 116, 116, 101, 114], [97, 105, 114], [112, 114, 105, 99, 101]]
def txS : List (Nat × String) := [(80, "plain"), (86, "heavy"), (88, "thin"), (90, "happy"), (92, "sitter"), (94, "air"), (96, "price")]
def Ag (Γ : Gm) (U : State) (H : Heap) : Prop :=
  va_K (gD Γ) cls (tys Γ) U ∧ (∀ w ∈ nestW, va_Nw w U) ∧ (∀ (i : Nat) (q : Nat × String), txS[i]? = some q → vk_R "SmokeSeats$Tape" q.1 q.2 (gK Γ i) U) ∧ vk_S 7 lenS bytS (gK Γ) (gV Γ) (gA Γ) U H ∧ va_Z "java/lang/String" "COMPACT_STRINGS" "Z" (.int 1) (gA Γ) U H ∧ va_Zq "jdk/internal/util/Preconditions" "SIOOBE_FORMATTER" "Ljava/util/function/BiFunction;" (gA Γ) U H
theorem nest_tables {w : Cond} (h : isNest w = true) : w.onTables = true := by cases w <;> first | rfl | (simp [isNest] at h)
theorem nest_warm {w : Cond} (h : isNest w = true) {s U : State} (hW : s.WarmedH U.vm) (hZ : va_Nw w s) : va_Nw w U := by
  cases w <;> first | exact va_Nw.warmM hW hZ | (simp [isNest] at h)
theorem va_Zq.kept' {C n d : String} {A : Nat → Prop} {U : State} {H H1 : Heap} (h : va_Zq C n d A U H) (hq : ∀ a : Nat, a < H.size → ¬ A a → H1[a]? = H[a]?) : va_Zq C n d A U H1 := by
  rcases h with h | ⟨t, h⟩
  · exact Or.inl (h.kept hq)
  · exact Or.inr ⟨t, h.kept hq⟩
theorem va_Zq.moved' {C n d : String} {A : Nat → Prop} {u U : State} {H : Heap} (hvm : u.vm.Alike U.vm) (h : va_Zq C n d A u H) : va_Zq C n d A U H := by
  rcases h with h | ⟨t, h⟩
  · exact Or.inl (h.moved hvm)
  · exact Or.inr ⟨t, h.moved hvm⟩
/-- the ambient facts go to a later state: its tables warmed, its old cells as they were -/
theorem Ag.to {Γ : Gm} {s U : State} {H : Heap} (h : Ag Γ s s.heap) (hW : s.WarmedH U.vm) (hq : ∀ a : Nat, a < s.heap.size → ¬ gA Γ a → H[a]? = s.heap[a]?) : Ag Γ U H := by
  obtain ⟨h1, h2, h3, h4, h5, h6⟩ := h
  exact ⟨va_K.moved hW.alike h1, fun w hw => nest_warm (List.mem_filter.mp hw).2 hW (h2 w hw), fun i q hi => vk_R.warm hW (h3 i q hi), (h4.kept hq).moved hW.alike, (h5.kept hq).moved hW.alike, va_Zq.moved' hW.alike (h6.kept' hq)⟩
theorem Ag.same {Γ : Gm} {u U : State} (hv : U.vm = u.vm) (hh : U.heap = u.heap) (h : Ag Γ u u.heap) : Ag Γ U U.heap := by
  obtain ⟨h1, h2, h3, h4, h5, h6⟩ := h
  have hA : u.vm.Alike U.vm := by rw [hv]; exact Vm.Alike.refl _
  rw [hh]
  exact ⟨va_K.moved hA h1, fun w hw => va_Nw.same (nest_tables (List.mem_filter.mp hw).2) hv.symm (h2 w hw), fun i q hi => vk_R.same hv (h3 i q hi), h4.moved hA, h5.moved hA, va_Zq.moved' hA h6⟩
abbrev Cx : Type := Program × Launch × Env × Room × State × MethodId × Array Value × List Frame × Method × Code
def xp (X : Cx) : Program := X.1
def xl (X : Cx) : Launch := X.2.1
def xe (X : Cx) : Env := X.2.2.1
def xR (X : Cx) : Room := X.2.2.2.1
def xs (X : Cx) : State := X.2.2.2.2.1
def xm (X : Cx) : MethodId := X.2.2.2.2.2.1
def xa (X : Cx) : Array Value := X.2.2.2.2.2.2.1
def xb (X : Cx) : List Frame := X.2.2.2.2.2.2.2.1
def xM (X : Cx) : Method := X.2.2.2.2.2.2.2.2.1
def xc (X : Cx) : Code := X.2.2.2.2.2.2.2.2.2
def hp (Γ : Gm) (s : St) (H : Heap) : Prop := va_P (gD Γ) cls (wl Γ s) H ∧ va_D (gA Γ) (wl Γ s)
def Po (Γ : Gm) (r : Option Value × St) : Array Value → State → Outcome → State → Prop := fun _ st o t => (o = .returned r.1 ∧ hp Γ r.2 t.heap) ∧ va_F (gA Γ) st t
def rmd (d : Nat) : Room := { frames := d, cells := 0, slots := 0, locals := 100 * d }
/-- a method's contract: from the world s with these arguments it answers r.1 and leaves the world r.2 -/
def Ct (l : Launch) (Γ : Gm) (y : MethodName) (cc : ByteArray) (nL : Nat) (ret : Option FieldType) (d : Nat) (args : List Value) (s : St) (r : Option Value × St) : Prop :=
  Met l y (.code y cc nL ret :: gt) (rmd d) (va_Pc args (fun U => hp Γ s U.heap ∧ Ag Γ U U.heap)) (Po Γ r) 0 0 (gA Γ)
def Zw (X : Cx) (Γ : Gm) (nL : Nat) (r : Option Value × St) (s : St) (pc : Nat) (lv : List (Nat × Value)) (st : List Value) : Prop :=
  ∀ (H : Heap) (locs : List Loc) (ls : Array Slot), hp Γ s H → va_S (gA Γ) (xs X).heap H locs → lv_has ls nL lv →
    W (xp X) (xl X) (xe X) (xR X) (xs X) (xm X) (xa X) (xb X) (xM X) (xc X) H locs 0 0 (MQ (xb X) (Po Γ r) (xa X) (xs X) 0 0 (gA Γ)) (F0 (xm X) pc ls st)
/-- what a walk stands on -/
def Amb (X : Cx) (Γ : Gm) (cc : ByteArray) (own : String) (nL : Nat) (ret : Option FieldType) (d : Nat) : Prop :=
  (xp X).tables.exec = Jvm.exec ∧ (xc X).code = cc ∧ (xc X).maxLocals = nL ∧ (xs X).vm.findClass own = some (xm X).cls ∧ (∀ w ∈ gt, w.before (xa X) (xs X) = true) ∧ Ag Γ (xs X) (xs X).heap ∧ (xM X).sig.returnType = ret ∧ (xM X).locks = false ∧ xR X = rmd d
theorem Ct.of {l : Launch} {Γ : Gm} {y : MethodName} {cc : ByteArray} {nL : Nat} {ret : Option FieldType} {d : Nat} {args : List Value} {s : St} {r : Option Value × St} (hy : plainName y.cls = true) (hn : (lg_sl args).length ≤ nL)
    (h : ∀ X : Cx, xl X = l → Amb X Γ cc y.cls nL ret d → Zw X Γ nL r s 0 (lv_args 0 args) []) : Ct l Γ y cc nL ret d args s r := by
  unfold Ct
  refine Met.ofW (cc := cc) (maxL := nL) (ret := ret) hy rfl ?_
  intro p e st m as below meth c s₁ B hml hv
  obtain ⟨rfl, hP, hA⟩ := hv
  have hts := atoms_spec (ws := Cond.code y cc nL ret :: gt) B.pre
  have hown : st.vm.findClass y.cls = some m.cls := findClass_of_methodNamed B.named
  have hl := lv_entry args (n := nL) hn
  rw [lg_entry_eq]
  exact h (p, l, e, rmd d, st, m, args.toArray, below, meth, c) rfl ⟨B.exec, B.bytes, hml, hown, fun w hw => hts w (List.mem_cons_of_mem _ hw), hA, B.returns, B.notSynchronized, rfl⟩ st.heap [] _ hP va_S.rf hl
end
section
theorem z_iconst {X : Cx} {Γ : Gm} {cc : ByteArray} {own : String} {nL : Nat} {ret : Option FieldType} {d : Nat} {r : Option Value × St} {s : St} {pc : Nat} {lv : List (Nat × Value)} {st : List Value} (hX : Amb X Γ cc own nL ret d) {n : Int} {v : Int32} (hd : decode cc pc = .ok (.iconst n, 1)) (hv : Int32.ofInt n = v) (pc2 : Nat) (hp : pc + 1 = pc2) (k : Zw X Γ nL r s pc2 lv (.int v :: st)) : Zw X Γ nL r s pc lv (st) := by subst hp; exact fun H locs ls hP hS hl => lv_iconst hX.1 hX.2.1 hd hv (k H locs ls hP hS hl)
theorem z_bipush {X : Cx} {Γ : Gm} {cc : ByteArray} {own : String} {nL : Nat} {ret : Option FieldType} {d : Nat} {r : Option Value × St} {s : St} {pc : Nat} {lv : List (Nat × Value)} {st : List Value} (hX : Amb X Γ cc own nL ret d) {n : Int} {v : Int32} (hd : decode cc pc = .ok (.bipush n, 2)) (hv : (Int8.ofInt n).toInt32 = v) (pc2 : Nat) (hp : pc + 2 = pc2) (k : Zw X Γ nL r s pc2 lv (.int v :: st)) : Zw X Γ nL r s pc lv (st) := by subst hp; exact fun H locs ls hP hS hl => lv_bipush hX.1 hX.2.1 hd hv (k H locs ls hP hS hl)
theorem z_sipush {X : Cx} {Γ : Gm} {cc : ByteArray} {own : String} {nL : Nat} {ret : Option FieldType} {d : Nat} {r : Option Value × St} {s : St} {pc : Nat} {lv : List (Nat × Value)} {st : List Value} (hX : Amb X Γ cc own nL ret d) {n : Int} {v : Int32} (hd : decode cc pc = .ok (.sipush n, 3)) (hv : (Int16.ofInt n).toInt32 = v) (pc2 : Nat) (hp : pc + 3 = pc2) (k : Zw X Γ nL r s pc2 lv (.int v :: st)) : Zw X Γ nL r s pc lv (st) := by subst hp; exact fun H locs ls hP hS hl => lv_sipush hX.1 hX.2.1 hd hv (k H locs ls hP hS hl)
theorem z_lconst {X : Cx} {Γ : Gm} {cc : ByteArray} {own : String} {nL : Nat} {ret : Option FieldType} {d : Nat} {r : Option Value × St} {s : St} {pc : Nat} {lv : List (Nat × Value)} {st : List Value} (hX : Amb X Γ cc own nL ret d) {n : Fin 2} {v : Int64} (hd : decode cc pc = .ok (.lconst n, 1)) (hv : Int64.ofNat (n : Nat) = v) (pc2 : Nat) (hp : pc + 1 = pc2) (k : Zw X Γ nL r s pc2 lv (.long v :: st)) : Zw X Γ nL r s pc lv (st) := by subst hp; exact fun H locs ls hP hS hl => lv_lconst hX.1 hX.2.1 hd hv (k H locs ls hP hS hl)
theorem z_ldc {X : Cx} {Γ : Gm} {cc : ByteArray} {own : String} {nL : Nat} {ret : Option FieldType} {d : Nat} {r : Option Value × St} {s : St} {pc : Nat} {lv : List (Nat × Value)} {st : List Value} (hX : Amb X Γ cc own nL ret d) {n : Nat} {v : Int32} (hd : decode cc pc = .ok (.ldc n, 2)) (hc : Cond.constant own n v ∈ gt) (pc2 : Nat) (hp : pc + 2 = pc2) (k : Zw X Γ nL r s pc2 lv (.int v :: st)) : Zw X Γ nL r s pc lv (st) := by subst hp; exact fun H locs ls hP hS hl => lv_ldc hX.1 hX.2.1 hX.2.2.2.1 (hX.2.2.2.2.1 _ hc) hd (k H locs ls hP hS hl)
theorem z_ldc2 {X : Cx} {Γ : Gm} {cc : ByteArray} {own : String} {nL : Nat} {ret : Option FieldType} {d : Nat} {r : Option Value × St} {s : St} {pc : Nat} {lv : List (Nat × Value)} {st : List Value} (hX : Amb X Γ cc own nL ret d) {n : Nat} {v : Int64} (hd : decode cc pc = .ok (.ldc2_w n, 3)) (hc : Cond.constantLong own n v ∈ gt) (pc2 : Nat) (hp : pc + 3 = pc2) (k : Zw X Γ nL r s pc2 lv (.long v :: st)) : Zw X Γ nL r s pc lv (st) := by subst hp; exact fun H locs ls hP hS hl => lv_ldc2 hX.1 hX.2.1 hX.2.2.2.1 (hX.2.2.2.2.1 _ hc) hd (k H locs ls hP hS hl)
theorem z_iload_n {X : Cx} {Γ : Gm} {cc : ByteArray} {own : String} {nL : Nat} {ret : Option FieldType} {d : Nat} {r : Option Value × St} {s : St} {pc : Nat} {lv : List (Nat × Value)} {st : List Value} (hX : Amb X Γ cc own nL ret d) {n : Fin 4} {x : Int32} (hd : decode cc pc = .ok (.iload_n n, 1)) (j : Nat) (hj : lv[j]? = some ((n : Nat), .int x)) (pc2 : Nat) (hp : pc + 1 = pc2) (k : Zw X Γ nL r s pc2 lv (.int x :: st)) : Zw X Γ nL r s pc lv (st) := by subst hp; exact fun H locs ls hP hS hl => lv_iload_n hX.1 hX.2.1 hd rfl (lv_at hl j hj) (k H locs ls hP hS hl)
theorem z_iload {X : Cx} {Γ : Gm} {cc : ByteArray} {own : String} {nL : Nat} {ret : Option FieldType} {d : Nat} {r : Option Value × St} {s : St} {pc : Nat} {lv : List (Nat × Value)} {st : List Value} (hX : Amb X Γ cc own nL ret d) {n : Nat} {x : Int32} (hd : decode cc pc = .ok (.iload n, 2)) (j : Nat) (hj : lv[j]? = some (n, .int x)) (pc2 : Nat) (hp : pc + 2 = pc2) (k : Zw X Γ nL r s pc2 lv (.int x :: st)) : Zw X Γ nL r s pc lv (st) := by subst hp; exact fun H locs ls hP hS hl => lv_iload hX.1 hX.2.1 hd (lv_at hl j hj) (k H locs ls hP hS hl)
theorem z_istore_n {X : Cx} {Γ : Gm} {cc : ByteArray} {own : String} {nL : Nat} {ret : Option FieldType} {d : Nat} {r : Option Value × St} {s : St} {pc : Nat} {lv : List (Nat × Value)} {st : List Value} (hX : Amb X Γ cc own nL ret d) {n : Fin 4} {x : Int32} {lv2 : List (Nat × Value)} (hd : decode cc pc = .ok (.istore_n n, 1)) (hn : (n : Nat) < nL) (hl2 : ((n : Nat), Value.int x) :: lv.filter (fun q => !(q.1 == (n : Nat)) && !(q.1 + 1 == (n : Nat) && q.2.category == 2)) = lv2) (pc2 : Nat) (hp : pc + 1 = pc2) (k : Zw X Γ nL r s pc2 lv2 (st)) : Zw X Γ nL r s pc lv (.int x :: st) := by subst hp; exact fun H locs ls hP hS hl => lv_istore_n hX.1 hX.2.1 hd rfl hl hn hl2 (fun ls2 h2 => k H locs ls2 hP hS h2)
theorem z_istore {X : Cx} {Γ : Gm} {cc : ByteArray} {own : String} {nL : Nat} {ret : Option FieldType} {d : Nat} {r : Option Value × St} {s : St} {pc : Nat} {lv : List (Nat × Value)} {st : List Value} (hX : Amb X Γ cc own nL ret d) {n : Nat} {x : Int32} {lv2 : List (Nat × Value)} (hd : decode cc pc = .ok (.istore n, 2)) (hn : n < nL) (hl2 : (n, Value.int x) :: lv.filter (fun q => !(q.1 == n) && !(q.1 + 1 == n && q.2.category == 2)) = lv2) (pc2 : Nat) (hp : pc + 2 = pc2) (k : Zw X Γ nL r s pc2 lv2 (st)) : Zw X Γ nL r s pc lv (.int x :: st) := by subst hp; exact fun H locs ls hP hS hl => lv_istore hX.1 hX.2.1 hd hl hn hl2 (fun ls2 h2 => k H locs ls2 hP hS h2)
theorem z_lload_n {X : Cx} {Γ : Gm} {cc : ByteArray} {own : String} {nL : Nat} {ret : Option FieldType} {d : Nat} {r : Option Value × St} {s : St} {pc : Nat} {lv : List (Nat × Value)} {st : List Value} (hX : Amb X Γ cc own nL ret d) {n : Fin 4} {x : Int64} (hd : decode cc pc = .ok (.lload_n n, 1)) (j : Nat) (hj : lv[j]? = some ((n : Nat), .long x)) (pc2 : Nat) (hp : pc + 1 = pc2) (k : Zw X Γ nL r s pc2 lv (.long x :: st)) : Zw X Γ nL r s pc lv (st) := by subst hp; exact fun H locs ls hP hS hl => lv_lload_n hX.1 hX.2.1 hd rfl (lv_at hl j hj) (k H locs ls hP hS hl)
theorem z_lload {X : Cx} {Γ : Gm} {cc : ByteArray} {own : String} {nL : Nat} {ret : Option FieldType} {d : Nat} {r : Option Value × St} {s : St} {pc : Nat} {lv : List (Nat × Value)} {st : List Value} (hX : Amb X Γ cc own nL ret d) {n : Nat} {x : Int64} (hd : decode cc pc = .ok (.lload n, 2)) (j : Nat) (hj : lv[j]? = some (n, .long x)) (pc2 : Nat) (hp : pc + 2 = pc2) (k : Zw X Γ nL r s pc2 lv (.long x :: st)) : Zw X Γ nL r s pc lv (st) := by subst hp; exact fun H locs ls hP hS hl => lv_lload hX.1 hX.2.1 hd (lv_at hl j hj) (k H locs ls hP hS hl)
theorem z_lstore_n {X : Cx} {Γ : Gm} {cc : ByteArray} {own : String} {nL : Nat} {ret : Option FieldType} {d : Nat} {r : Option Value × St} {s : St} {pc : Nat} {lv : List (Nat × Value)} {st : List Value} (hX : Amb X Γ cc own nL ret d) {n : Fin 4} {x : Int64} {lv2 : List (Nat × Value)} (hd : decode cc pc = .ok (.lstore_n n, 1)) (hn : (n : Nat) + 1 < nL) (hl2 : ((n : Nat), Value.long x) :: lv.filter (fun q => !(q.1 == (n : Nat)) && (!(q.1 == (n : Nat) + 1) && !(q.1 + 1 == (n : Nat) && q.2.category == 2))) = lv2) (pc2 : Nat) (hp : pc + 1 = pc2) (k : Zw X Γ nL r s pc2 lv2 (st)) : Zw X Γ nL r s pc lv (.long x :: st) := by subst hp; exact fun H locs ls hP hS hl => lv_lstore_n hX.1 hX.2.1 hd rfl hl hn hl2 (fun ls2 h2 => k H locs ls2 hP hS h2)
theorem z_lstore {X : Cx} {Γ : Gm} {cc : ByteArray} {own : String} {nL : Nat} {ret : Option FieldType} {d : Nat} {r : Option Value × St} {s : St} {pc : Nat} {lv : List (Nat × Value)} {st : List Value} (hX : Amb X Γ cc own nL ret d) {n : Nat} {x : Int64} {lv2 : List (Nat × Value)} (hd : decode cc pc = .ok (.lstore n, 2)) (hn : n + 1 < nL) (hl2 : (n, Value.long x) :: lv.filter (fun q => !(q.1 == n) && (!(q.1 == n + 1) && !(q.1 + 1 == n && q.2.category == 2))) = lv2) (pc2 : Nat) (hp : pc + 2 = pc2) (k : Zw X Γ nL r s pc2 lv2 (st)) : Zw X Γ nL r s pc lv (.long x :: st) := by subst hp; exact fun H locs ls hP hS hl => lv_lstore hX.1 hX.2.1 hd hl hn hl2 (fun ls2 h2 => k H locs ls2 hP hS h2)
theorem z_aload_n {X : Cx} {Γ : Gm} {cc : ByteArray} {own : String} {nL : Nat} {ret : Option FieldType} {d : Nat} {r : Option Value × St} {s : St} {pc : Nat} {lv : List (Nat × Value)} {st : List Value} (hX : Amb X Γ cc own nL ret d) {n : Fin 4} {x : Nat} (hd : decode cc pc = .ok (.aload_n n, 1)) (j : Nat) (hj : lv[j]? = some ((n : Nat), .ref x)) (pc2 : Nat) (hp : pc + 1 = pc2) (k : Zw X Γ nL r s pc2 lv (.ref x :: st)) : Zw X Γ nL r s pc lv (st) := by subst hp; exact fun H locs ls hP hS hl => lv_aload_n hX.1 hX.2.1 hd rfl (lv_at hl j hj) (k H locs ls hP hS hl)
theorem z_aload {X : Cx} {Γ : Gm} {cc : ByteArray} {own : String} {nL : Nat} {ret : Option FieldType} {d : Nat} {r : Option Value × St} {s : St} {pc : Nat} {lv : List (Nat × Value)} {st : List Value} (hX : Amb X Γ cc own nL ret d) {n : Nat} {x : Nat} (hd : decode cc pc = .ok (.aload n, 2)) (j : Nat) (hj : lv[j]? = some (n, .ref x)) (pc2 : Nat) (hp : pc + 2 = pc2) (k : Zw X Γ nL r s pc2 lv (.ref x :: st)) : Zw X Γ nL r s pc lv (st) := by subst hp; exact fun H locs ls hP hS hl => lv_aload hX.1 hX.2.1 hd (lv_at hl j hj) (k H locs ls hP hS hl)
theorem z_astore_n {X : Cx} {Γ : Gm} {cc : ByteArray} {own : String} {nL : Nat} {ret : Option FieldType} {d : Nat} {r : Option Value × St} {s : St} {pc : Nat} {lv : List (Nat × Value)} {st : List Value} (hX : Amb X Γ cc own nL ret d) {n : Fin 4} {x : Nat} {lv2 : List (Nat × Value)} (hd : decode cc pc = .ok (.astore_n n, 1)) (hn : (n : Nat) < nL) (hl2 : ((n : Nat), Value.ref x) :: lv.filter (fun q => !(q.1 == (n : Nat)) && !(q.1 + 1 == (n : Nat) && q.2.category == 2)) = lv2) (pc2 : Nat) (hp : pc + 1 = pc2) (k : Zw X Γ nL r s pc2 lv2 (st)) : Zw X Γ nL r s pc lv (.ref x :: st) := by subst hp; exact fun H locs ls hP hS hl => lv_astore_n hX.1 hX.2.1 hd rfl hl hn hl2 (fun ls2 h2 => k H locs ls2 hP hS h2)
theorem z_astore {X : Cx} {Γ : Gm} {cc : ByteArray} {own : String} {nL : Nat} {ret : Option FieldType} {d : Nat} {r : Option Value × St} {s : St} {pc : Nat} {lv : List (Nat × Value)} {st : List Value} (hX : Amb X Γ cc own nL ret d) {n : Nat} {x : Nat} {lv2 : List (Nat × Value)} (hd : decode cc pc = .ok (.astore n, 2)) (hn : n < nL) (hl2 : (n, Value.ref x) :: lv.filter (fun q => !(q.1 == n) && !(q.1 + 1 == n && q.2.category == 2)) = lv2) (pc2 : Nat) (hp : pc + 2 = pc2) (k : Zw X Γ nL r s pc2 lv2 (st)) : Zw X Γ nL r s pc lv (.ref x :: st) := by subst hp; exact fun H locs ls hP hS hl => lv_astore hX.1 hX.2.1 hd hl hn hl2 (fun ls2 h2 => k H locs ls2 hP hS h2)
theorem z_iinc {X : Cx} {Γ : Gm} {cc : ByteArray} {own : String} {nL : Nat} {ret : Option FieldType} {d : Nat} {r : Option Value × St} {s : St} {pc : Nat} {lv : List (Nat × Value)} {st : List Value} (hX : Amb X Γ cc own nL ret d) {i : Nat} {n : Int} {x v : Int32} {lv2 : List (Nat × Value)} (hd : decode cc pc = .ok (.iinc i n, 3)) (j : Nat) (hj : lv[j]? = some (i, .int x)) (hv : x + Int32.ofInt n = v) (hn : i < nL) (hl2 : (i, Value.int v) :: lv.filter (fun q => !(q.1 == i) && !(q.1 + 1 == i && q.2.category == 2)) = lv2) (pc2 : Nat) (hp : pc + 3 = pc2) (k : Zw X Γ nL r s pc2 lv2 (st)) : Zw X Γ nL r s pc lv (st) := by subst hp; exact fun H locs ls hP hS hl => lv_iinc hX.1 hX.2.1 hd hl hj hv hn hl2 (fun ls2 h2 => k H locs ls2 hP hS h2)
theorem z_iadd {X : Cx} {Γ : Gm} {cc : ByteArray} {own : String} {nL : Nat} {ret : Option FieldType} {d : Nat} {r : Option Value × St} {s : St} {pc : Nat} {lv : List (Nat × Value)} {st : List Value} (hX : Amb X Γ cc own nL ret d) {x y : Int32} (hd : decode cc pc = .ok (.iadd, 1)) (pc2 : Nat) (hp : pc + 1 = pc2) (k : Zw X Γ nL r s pc2 lv (.int (x + y) :: st)) : Zw X Γ nL r s pc lv (.int y :: .int x :: st) := by subst hp; exact fun H locs ls hP hS hl => lv_iadd hX.1 hX.2.1 hd (k H locs ls hP hS hl)
theorem z_isub {X : Cx} {Γ : Gm} {cc : ByteArray} {own : String} {nL : Nat} {ret : Option FieldType} {d : Nat} {r : Option Value × St} {s : St} {pc : Nat} {lv : List (Nat × Value)} {st : List Value} (hX : Amb X Γ cc own nL ret d) {x y : Int32} (hd : decode cc pc = .ok (.isub, 1)) (pc2 : Nat) (hp : pc + 1 = pc2) (k : Zw X Γ nL r s pc2 lv (.int (x - y) :: st)) : Zw X Γ nL r s pc lv (.int y :: .int x :: st) := by subst hp; exact fun H locs ls hP hS hl => lv_isub hX.1 hX.2.1 hd (k H locs ls hP hS hl)
theorem z_imul {X : Cx} {Γ : Gm} {cc : ByteArray} {own : String} {nL : Nat} {ret : Option FieldType} {d : Nat} {r : Option Value × St} {s : St} {pc : Nat} {lv : List (Nat × Value)} {st : List Value} (hX : Amb X Γ cc own nL ret d) {x y : Int32} (hd : decode cc pc = .ok (.imul, 1)) (pc2 : Nat) (hp : pc + 1 = pc2) (k : Zw X Γ nL r s pc2 lv (.int (x * y) :: st)) : Zw X Γ nL r s pc lv (.int y :: .int x :: st) := by subst hp; exact fun H locs ls hP hS hl => lv_imul hX.1 hX.2.1 hd (k H locs ls hP hS hl)
theorem z_iand {X : Cx} {Γ : Gm} {cc : ByteArray} {own : String} {nL : Nat} {ret : Option FieldType} {d : Nat} {r : Option Value × St} {s : St} {pc : Nat} {lv : List (Nat × Value)} {st : List Value} (hX : Amb X Γ cc own nL ret d) {x y : Int32} (hd : decode cc pc = .ok (.iand, 1)) (pc2 : Nat) (hp : pc + 1 = pc2) (k : Zw X Γ nL r s pc2 lv (.int (x &&& y) :: st)) : Zw X Γ nL r s pc lv (.int y :: .int x :: st) := by subst hp; exact fun H locs ls hP hS hl => lv_iand hX.1 hX.2.1 hd (k H locs ls hP hS hl)
theorem z_ior {X : Cx} {Γ : Gm} {cc : ByteArray} {own : String} {nL : Nat} {ret : Option FieldType} {d : Nat} {r : Option Value × St} {s : St} {pc : Nat} {lv : List (Nat × Value)} {st : List Value} (hX : Amb X Γ cc own nL ret d) {x y : Int32} (hd : decode cc pc = .ok (.ior, 1)) (pc2 : Nat) (hp : pc + 1 = pc2) (k : Zw X Γ nL r s pc2 lv (.int (x ||| y) :: st)) : Zw X Γ nL r s pc lv (.int y :: .int x :: st) := by subst hp; exact fun H locs ls hP hS hl => lv_ior hX.1 hX.2.1 hd (k H locs ls hP hS hl)
theorem z_ixor {X : Cx} {Γ : Gm} {cc : ByteArray} {own : String} {nL : Nat} {ret : Option FieldType} {d : Nat} {r : Option Value × St} {s : St} {pc : Nat} {lv : List (Nat × Value)} {st : List Value} (hX : Amb X Γ cc own nL ret d) {x y : Int32} (hd : decode cc pc = .ok (.ixor, 1)) (pc2 : Nat) (hp : pc + 1 = pc2) (k : Zw X Γ nL r s pc2 lv (.int (x ^^^ y) :: st)) : Zw X Γ nL r s pc lv (.int y :: .int x :: st) := by subst hp; exact fun H locs ls hP hS hl => lv_ixor hX.1 hX.2.1 hd (k H locs ls hP hS hl)
theorem z_idiv {X : Cx} {Γ : Gm} {cc : ByteArray} {own : String} {nL : Nat} {ret : Option FieldType} {d : Nat} {r : Option Value × St} {s : St} {pc : Nat} {lv : List (Nat × Value)} {st : List Value} (hX : Amb X Γ cc own nL ret d) {x y : Int32} (hd : decode cc pc = .ok (.idiv, 1)) (hy : ¬ y = 0) (pc2 : Nat) (hp : pc + 1 = pc2) (k : Zw X Γ nL r s pc2 lv (.int (x / y) :: st)) : Zw X Γ nL r s pc lv (.int y :: .int x :: st) := by subst hp; exact fun H locs ls hP hS hl => lv_idiv hX.1 hX.2.1 hd hy (k H locs ls hP hS hl)
theorem z_irem {X : Cx} {Γ : Gm} {cc : ByteArray} {own : String} {nL : Nat} {ret : Option FieldType} {d : Nat} {r : Option Value × St} {s : St} {pc : Nat} {lv : List (Nat × Value)} {st : List Value} (hX : Amb X Γ cc own nL ret d) {x y : Int32} (hd : decode cc pc = .ok (.irem, 1)) (hy : ¬ y = 0) (pc2 : Nat) (hp : pc + 1 = pc2) (k : Zw X Γ nL r s pc2 lv (.int (x - x / y * y) :: st)) : Zw X Γ nL r s pc lv (.int y :: .int x :: st) := by subst hp; exact fun H locs ls hP hS hl => lv_irem hX.1 hX.2.1 hd hy (k H locs ls hP hS hl)
theorem z_ladd {X : Cx} {Γ : Gm} {cc : ByteArray} {own : String} {nL : Nat} {ret : Option FieldType} {d : Nat} {r : Option Value × St} {s : St} {pc : Nat} {lv : List (Nat × Value)} {st : List Value} (hX : Amb X Γ cc own nL ret d) {x y : Int64} (hd : decode cc pc = .ok (.ladd, 1)) (pc2 : Nat) (hp : pc + 1 = pc2) (k : Zw X Γ nL r s pc2 lv (.long (x + y) :: st)) : Zw X Γ nL r s pc lv (.long y :: .long x :: st) := by subst hp; exact fun H locs ls hP hS hl => lv_ladd hX.1 hX.2.1 hd (k H locs ls hP hS hl)
theorem z_lsub {X : Cx} {Γ : Gm} {cc : ByteArray} {own : String} {nL : Nat} {ret : Option FieldType} {d : Nat} {r : Option Value × St} {s : St} {pc : Nat} {lv : List (Nat × Value)} {st : List Value} (hX : Amb X Γ cc own nL ret d) {x y : Int64} (hd : decode cc pc = .ok (.lsub, 1)) (pc2 : Nat) (hp : pc + 1 = pc2) (k : Zw X Γ nL r s pc2 lv (.long (x - y) :: st)) : Zw X Γ nL r s pc lv (.long y :: .long x :: st) := by subst hp; exact fun H locs ls hP hS hl => lv_lsub hX.1 hX.2.1 hd (k H locs ls hP hS hl)
theorem z_lmul {X : Cx} {Γ : Gm} {cc : ByteArray} {own : String} {nL : Nat} {ret : Option FieldType} {d : Nat} {r : Option Value × St} {s : St} {pc : Nat} {lv : List (Nat × Value)} {st : List Value} (hX : Amb X Γ cc own nL ret d) {x y : Int64} (hd : decode cc pc = .ok (.lmul, 1)) (pc2 : Nat) (hp : pc + 1 = pc2) (k : Zw X Γ nL r s pc2 lv (.long (x * y) :: st)) : Zw X Γ nL r s pc lv (.long y :: .long x :: st) := by subst hp; exact fun H locs ls hP hS hl => lv_lmul hX.1 hX.2.1 hd (k H locs ls hP hS hl)
theorem z_ldiv {X : Cx} {Γ : Gm} {cc : ByteArray} {own : String} {nL : Nat} {ret : Option FieldType} {d : Nat} {r : Option Value × St} {s : St} {pc : Nat} {lv : List (Nat × Value)} {st : List Value} (hX : Amb X Γ cc own nL ret d) {x y : Int64} (hd : decode cc pc = .ok (.ldiv, 1)) (hy : ¬ y = 0) (pc2 : Nat) (hp : pc + 1 = pc2) (k : Zw X Γ nL r s pc2 lv (.long (x / y) :: st)) : Zw X Γ nL r s pc lv (.long y :: .long x :: st) := by subst hp; exact fun H locs ls hP hS hl => lv_ldiv hX.1 hX.2.1 hd hy (k H locs ls hP hS hl)
theorem z_lrem {X : Cx} {Γ : Gm} {cc : ByteArray} {own : String} {nL : Nat} {ret : Option FieldType} {d : Nat} {r : Option Value × St} {s : St} {pc : Nat} {lv : List (Nat × Value)} {st : List Value} (hX : Amb X Γ cc own nL ret d) {x y : Int64} (hd : decode cc pc = .ok (.lrem, 1)) (hy : ¬ y = 0) (pc2 : Nat) (hp : pc + 1 = pc2) (k : Zw X Γ nL r s pc2 lv (.long (x - x / y * y) :: st)) : Zw X Γ nL r s pc lv (.long y :: .long x :: st) := by subst hp; exact fun H locs ls hP hS hl => lv_lrem hX.1 hX.2.1 hd hy (k H locs ls hP hS hl)
theorem z_ishl {X : Cx} {Γ : Gm} {cc : ByteArray} {own : String} {nL : Nat} {ret : Option FieldType} {d : Nat} {r : Option Value × St} {s : St} {pc : Nat} {lv : List (Nat × Value)} {st : List Value} (hX : Amb X Γ cc own nL ret d) {x y : Int32} (hd : decode cc pc = .ok (.ishl, 1)) (pc2 : Nat) (hp : pc + 1 = pc2) (k : Zw X Γ nL r s pc2 lv (.int (x <<< (y &&& 31)) :: st)) : Zw X Γ nL r s pc lv (.int y :: .int x :: st) := by subst hp; exact fun H locs ls hP hS hl => lv_ishl hX.1 hX.2.1 hd (k H locs ls hP hS hl)
theorem z_ishr {X : Cx} {Γ : Gm} {cc : ByteArray} {own : String} {nL : Nat} {ret : Option FieldType} {d : Nat} {r : Option Value × St} {s : St} {pc : Nat} {lv : List (Nat × Value)} {st : List Value} (hX : Amb X Γ cc own nL ret d) {x y : Int32} (hd : decode cc pc = .ok (.ishr, 1)) (pc2 : Nat) (hp : pc + 1 = pc2) (k : Zw X Γ nL r s pc2 lv (.int (x >>> (y &&& 31)) :: st)) : Zw X Γ nL r s pc lv (.int y :: .int x :: st) := by subst hp; exact fun H locs ls hP hS hl => lv_ishr hX.1 hX.2.1 hd (k H locs ls hP hS hl)
theorem z_iushr {X : Cx} {Γ : Gm} {cc : ByteArray} {own : String} {nL : Nat} {ret : Option FieldType} {d : Nat} {r : Option Value × St} {s : St} {pc : Nat} {lv : List (Nat × Value)} {st : List Value} (hX : Amb X Γ cc own nL ret d) {x y : Int32} (hd : decode cc pc = .ok (.iushr, 1)) (pc2 : Nat) (hp : pc + 1 = pc2) (k : Zw X Γ nL r s pc2 lv (.int ((x.toUInt32 >>> (y.toUInt32 &&& Int32.toUInt32 31)).toInt32) :: st)) : Zw X Γ nL r s pc lv (.int y :: .int x :: st) := by subst hp; exact fun H locs ls hP hS hl => lv_iushr hX.1 hX.2.1 hd rfl (k H locs ls hP hS hl)
theorem z_i2l {X : Cx} {Γ : Gm} {cc : ByteArray} {own : String} {nL : Nat} {ret : Option FieldType} {d : Nat} {r : Option Value × St} {s : St} {pc : Nat} {lv : List (Nat × Value)} {st : List Value} (hX : Amb X Γ cc own nL ret d) {x : Int32} (hd : decode cc pc = .ok (.i2l, 1)) (pc2 : Nat) (hp : pc + 1 = pc2) (k : Zw X Γ nL r s pc2 lv (.long x.toInt64 :: st)) : Zw X Γ nL r s pc lv (.int x :: st) := by subst hp; exact fun H locs ls hP hS hl => lv_i2l hX.1 hX.2.1 hd rfl (k H locs ls hP hS hl)
theorem z_i2b {X : Cx} {Γ : Gm} {cc : ByteArray} {own : String} {nL : Nat} {ret : Option FieldType} {d : Nat} {r : Option Value × St} {s : St} {pc : Nat} {lv : List (Nat × Value)} {st : List Value} (hX : Amb X Γ cc own nL ret d) {x : Int32} (hd : decode cc pc = .ok (.i2b, 1)) (pc2 : Nat) (hp : pc + 1 = pc2) (k : Zw X Γ nL r s pc2 lv (.int x.toInt8.toInt32 :: st)) : Zw X Γ nL r s pc lv (.int x :: st) := by subst hp; exact fun H locs ls hP hS hl => lv_i2b hX.1 hX.2.1 hd rfl (k H locs ls hP hS hl)
theorem z_i2s {X : Cx} {Γ : Gm} {cc : ByteArray} {own : String} {nL : Nat} {ret : Option FieldType} {d : Nat} {r : Option Value × St} {s : St} {pc : Nat} {lv : List (Nat × Value)} {st : List Value} (hX : Amb X Γ cc own nL ret d) {x : Int32} (hd : decode cc pc = .ok (.i2s, 1)) (pc2 : Nat) (hp : pc + 1 = pc2) (k : Zw X Γ nL r s pc2 lv (.int x.toInt16.toInt32 :: st)) : Zw X Γ nL r s pc lv (.int x :: st) := by subst hp; exact fun H locs ls hP hS hl => lv_i2s hX.1 hX.2.1 hd rfl (k H locs ls hP hS hl)
theorem z_lcmp {X : Cx} {Γ : Gm} {cc : ByteArray} {own : String} {nL : Nat} {ret : Option FieldType} {d : Nat} {r : Option Value × St} {s : St} {pc : Nat} {lv : List (Nat × Value)} {st : List Value} (hX : Amb X Γ cc own nL ret d) {x y : Int64} (hd : decode cc pc = .ok (.lcmp, 1)) (pc2 : Nat) (hp : pc + 1 = pc2) (k : Zw X Γ nL r s pc2 lv (.int (lg_cmp x y) :: st)) : Zw X Γ nL r s pc lv (.long y :: .long x :: st) := by subst hp; exact fun H locs ls hP hS hl => W.lcmp hX.1 hX.2.1 hd (k H locs ls hP hS hl)
theorem z_dup {X : Cx} {Γ : Gm} {cc : ByteArray} {own : String} {nL : Nat} {ret : Option FieldType} {d : Nat} {r : Option Value × St} {s : St} {pc : Nat} {lv : List (Nat × Value)} {st : List Value} (hX : Amb X Γ cc own nL ret d) {v : Value} (hd : decode cc pc = .ok (.dup, 1)) (hv : v.category = 1) (pc2 : Nat) (hp : pc + 1 = pc2) (k : Zw X Γ nL r s pc2 lv (v :: v :: st)) : Zw X Γ nL r s pc lv (v :: st) := by subst hp; exact fun H locs ls hP hS hl => lv_dup hX.1 hX.2.1 hd hv (k H locs ls hP hS hl)
theorem z_pop {X : Cx} {Γ : Gm} {cc : ByteArray} {own : String} {nL : Nat} {ret : Option FieldType} {d : Nat} {r : Option Value × St} {s : St} {pc : Nat} {lv : List (Nat × Value)} {st : List Value} (hX : Amb X Γ cc own nL ret d) {v : Value} (hd : decode cc pc = .ok (.pop, 1)) (hv : v.category = 1) (pc2 : Nat) (hp : pc + 1 = pc2) (k : Zw X Γ nL r s pc2 lv (st)) : Zw X Γ nL r s pc lv (v :: st) := by subst hp; exact fun H locs ls hP hS hl => lv_pop hX.1 hX.2.1 hd hv (k H locs ls hP hS hl)
theorem z_dup2 {X : Cx} {Γ : Gm} {cc : ByteArray} {own : String} {nL : Nat} {ret : Option FieldType} {d : Nat} {r : Option Value × St} {s : St} {pc : Nat} {lv : List (Nat × Value)} {st : List Value} (hX : Amb X Γ cc own nL ret d) {v w : Value} (hd : decode cc pc = .ok (.dup2, 1)) (hv : v.category = 1) (hw : w.category = 1) (pc2 : Nat) (hp : pc + 1 = pc2) (k : Zw X Γ nL r s pc2 lv (v :: w :: v :: w :: st)) : Zw X Γ nL r s pc lv (v :: w :: st) := by subst hp; exact fun H locs ls hP hS hl => lv_dup2_11 hX.1 hX.2.1 hd hv hw (k H locs ls hP hS hl)
theorem z_dup2L {X : Cx} {Γ : Gm} {cc : ByteArray} {own : String} {nL : Nat} {ret : Option FieldType} {d : Nat} {r : Option Value × St} {s : St} {pc : Nat} {lv : List (Nat × Value)} {st : List Value} (hX : Amb X Γ cc own nL ret d) {v : Value} (hd : decode cc pc = .ok (.dup2, 1)) (hv : v.category = 2) (pc2 : Nat) (hp : pc + 1 = pc2) (k : Zw X Γ nL r s pc2 lv (v :: v :: st)) : Zw X Γ nL r s pc lv (v :: st) := by subst hp; exact fun H locs ls hP hS hl => lv_dup2_2 hX.1 hX.2.1 hd hv (k H locs ls hP hS hl)
theorem z_if_eq {X : Cx} {Γ : Gm} {cc : ByteArray} {own : String} {nL : Nat} {ret : Option FieldType} {d : Nat} {r : Option Value × St} {s : St} {pc : Nat} {lv : List (Nat × Value)} {st : List Value} (hX : Amb X Γ cc own nL ret d) {x : Int32} {off : Int} (tgt : Nat) (hd : decode cc pc = .ok (.ifCond .eq off, 3)) (ht : (pc : Int) + off = (tgt : Int)) (pc2 : Nat) (hp : pc + 3 = pc2) (kt : x = 0 → Zw X Γ nL r s tgt lv (st)) (kf : ¬ (x = 0) → Zw X Γ nL r s pc2 lv (st)) : Zw X Γ nL r s pc lv (.int x :: st) := by subst hp; exact fun H locs ls hP hS hl => lv_if_eq hX.1 hX.2.1 hd ht (fun h => kt (by simpa using h) H locs ls hP hS hl) (fun h => kf (by simpa using h) H locs ls hP hS hl)
theorem z_icmp_eq {X : Cx} {Γ : Gm} {cc : ByteArray} {own : String} {nL : Nat} {ret : Option FieldType} {d : Nat} {r : Option Value × St} {s : St} {pc : Nat} {lv : List (Nat × Value)} {st : List Value} (hX : Amb X Γ cc own nL ret d) {x y : Int32} {off : Int} (tgt : Nat) (hd : decode cc pc = .ok (.if_icmp .eq off, 3)) (ht : (pc : Int) + off = (tgt : Int)) (pc2 : Nat) (hp : pc + 3 = pc2) (kt : x = y → Zw X Γ nL r s tgt lv (st)) (kf : ¬ (x = y) → Zw X Γ nL r s pc2 lv (st)) : Zw X Γ nL r s pc lv (.int y :: .int x :: st) := by subst hp; exact fun H locs ls hP hS hl => lv_icmp_eq hX.1 hX.2.1 hd ht (fun h => kt (by simpa using h) H locs ls hP hS hl) (fun h => kf (by simpa using h) H locs ls hP hS hl)
theorem z_if_ne {X : Cx} {Γ : Gm} {cc : ByteArray} {own : String} {nL : Nat} {ret : Option FieldType} {d : Nat} {r : Option Value × St} {s : St} {pc : Nat} {lv : List (Nat × Value)} {st : List Value} (hX : Amb X Γ cc own nL ret d) {x : Int32} {off : Int} (tgt : Nat) (hd : decode cc pc = .ok (.ifCond .ne off, 3)) (ht : (pc : Int) + off = (tgt : Int)) (pc2 : Nat) (hp : pc + 3 = pc2) (kt : ¬ x = 0 → Zw X Γ nL r s tgt lv (st)) (kf : ¬ (¬ x = 0) → Zw X Γ nL r s pc2 lv (st)) : Zw X Γ nL r s pc lv (.int x :: st) := by subst hp; exact fun H locs ls hP hS hl => lv_if_ne hX.1 hX.2.1 hd ht (fun h => kt (by simpa using h) H locs ls hP hS hl) (fun h => kf (by simpa using h) H locs ls hP hS hl)
theorem z_icmp_ne {X : Cx} {Γ : Gm} {cc : ByteArray} {own : String} {nL : Nat} {ret : Option FieldType} {d : Nat} {r : Option Value × St} {s : St} {pc : Nat} {lv : List (Nat × Value)} {st : List Value} (hX : Amb X Γ cc own nL ret d) {x y : Int32} {off : Int} (tgt : Nat) (hd : decode cc pc = .ok (.if_icmp .ne off, 3)) (ht : (pc : Int) + off = (tgt : Int)) (pc2 : Nat) (hp : pc + 3 = pc2) (kt : ¬ x = y → Zw X Γ nL r s tgt lv (st)) (kf : ¬ (¬ x = y) → Zw X Γ nL r s pc2 lv (st)) : Zw X Γ nL r s pc lv (.int y :: .int x :: st) := by subst hp; exact fun H locs ls hP hS hl => lv_icmp_ne hX.1 hX.2.1 hd ht (fun h => kt (by simpa using h) H locs ls hP hS hl) (fun h => kf (by simpa using h) H locs ls hP hS hl)
theorem z_if_lt {X : Cx} {Γ : Gm} {cc : ByteArray} {own : String} {nL : Nat} {ret : Option FieldType} {d : Nat} {r : Option Value × St} {s : St} {pc : Nat} {lv : List (Nat × Value)} {st : List Value} (hX : Amb X Γ cc own nL ret d) {x : Int32} {off : Int} (tgt : Nat) (hd : decode cc pc = .ok (.ifCond .lt off, 3)) (ht : (pc : Int) + off = (tgt : Int)) (pc2 : Nat) (hp : pc + 3 = pc2) (kt : x < 0 → Zw X Γ nL r s tgt lv (st)) (kf : ¬ (x < 0) → Zw X Γ nL r s pc2 lv (st)) : Zw X Γ nL r s pc lv (.int x :: st) := by subst hp; exact fun H locs ls hP hS hl => lv_if_lt hX.1 hX.2.1 hd ht (fun h => kt (by simpa using h) H locs ls hP hS hl) (fun h => kf (by simpa using h) H locs ls hP hS hl)
theorem z_icmp_lt {X : Cx} {Γ : Gm} {cc : ByteArray} {own : String} {nL : Nat} {ret : Option FieldType} {d : Nat} {r : Option Value × St} {s : St} {pc : Nat} {lv : List (Nat × Value)} {st : List Value} (hX : Amb X Γ cc own nL ret d) {x y : Int32} {off : Int} (tgt : Nat) (hd : decode cc pc = .ok (.if_icmp .lt off, 3)) (ht : (pc : Int) + off = (tgt : Int)) (pc2 : Nat) (hp : pc + 3 = pc2) (kt : x < y → Zw X Γ nL r s tgt lv (st)) (kf : ¬ (x < y) → Zw X Γ nL r s pc2 lv (st)) : Zw X Γ nL r s pc lv (.int y :: .int x :: st) := by subst hp; exact fun H locs ls hP hS hl => lv_icmp_lt hX.1 hX.2.1 hd ht (fun h => kt (by simpa using h) H locs ls hP hS hl) (fun h => kf (by simpa using h) H locs ls hP hS hl)
theorem z_if_ge {X : Cx} {Γ : Gm} {cc : ByteArray} {own : String} {nL : Nat} {ret : Option FieldType} {d : Nat} {r : Option Value × St} {s : St} {pc : Nat} {lv : List (Nat × Value)} {st : List Value} (hX : Amb X Γ cc own nL ret d) {x : Int32} {off : Int} (tgt : Nat) (hd : decode cc pc = .ok (.ifCond .ge off, 3)) (ht : (pc : Int) + off = (tgt : Int)) (pc2 : Nat) (hp : pc + 3 = pc2) (kt : 0 ≤ x → Zw X Γ nL r s tgt lv (st)) (kf : ¬ (0 ≤ x) → Zw X Γ nL r s pc2 lv (st)) : Zw X Γ nL r s pc lv (.int x :: st) := by subst hp; exact fun H locs ls hP hS hl => lv_if_ge hX.1 hX.2.1 hd ht (fun h => kt (by simpa using h) H locs ls hP hS hl) (fun h => kf (by simpa using h) H locs ls hP hS hl)
theorem z_icmp_ge {X : Cx} {Γ : Gm} {cc : ByteArray} {own : String} {nL : Nat} {ret : Option FieldType} {d : Nat} {r : Option Value × St} {s : St} {pc : Nat} {lv : List (Nat × Value)} {st : List Value} (hX : Amb X Γ cc own nL ret d) {x y : Int32} {off : Int} (tgt : Nat) (hd : decode cc pc = .ok (.if_icmp .ge off, 3)) (ht : (pc : Int) + off = (tgt : Int)) (pc2 : Nat) (hp : pc + 3 = pc2) (kt : y ≤ x → Zw X Γ nL r s tgt lv (st)) (kf : ¬ (y ≤ x) → Zw X Γ nL r s pc2 lv (st)) : Zw X Γ nL r s pc lv (.int y :: .int x :: st) := by subst hp; exact fun H locs ls hP hS hl => lv_icmp_ge hX.1 hX.2.1 hd ht (fun h => kt (by simpa using h) H locs ls hP hS hl) (fun h => kf (by simpa using h) H locs ls hP hS hl)
theorem z_if_gt {X : Cx} {Γ : Gm} {cc : ByteArray} {own : String} {nL : Nat} {ret : Option FieldType} {d : Nat} {r : Option Value × St} {s : St} {pc : Nat} {lv : List (Nat × Value)} {st : List Value} (hX : Amb X Γ cc own nL ret d) {x : Int32} {off : Int} (tgt : Nat) (hd : decode cc pc = .ok (.ifCond .gt off, 3)) (ht : (pc : Int) + off = (tgt : Int)) (pc2 : Nat) (hp : pc + 3 = pc2) (kt : 0 < x → Zw X Γ nL r s tgt lv (st)) (kf : ¬ (0 < x) → Zw X Γ nL r s pc2 lv (st)) : Zw X Γ nL r s pc lv (.int x :: st) := by subst hp; exact fun H locs ls hP hS hl => lv_if_gt hX.1 hX.2.1 hd ht (fun h => kt (by simpa using h) H locs ls hP hS hl) (fun h => kf (by simpa using h) H locs ls hP hS hl)
theorem z_icmp_gt {X : Cx} {Γ : Gm} {cc : ByteArray} {own : String} {nL : Nat} {ret : Option FieldType} {d : Nat} {r : Option Value × St} {s : St} {pc : Nat} {lv : List (Nat × Value)} {st : List Value} (hX : Amb X Γ cc own nL ret d) {x y : Int32} {off : Int} (tgt : Nat) (hd : decode cc pc = .ok (.if_icmp .gt off, 3)) (ht : (pc : Int) + off = (tgt : Int)) (pc2 : Nat) (hp : pc + 3 = pc2) (kt : y < x → Zw X Γ nL r s tgt lv (st)) (kf : ¬ (y < x) → Zw X Γ nL r s pc2 lv (st)) : Zw X Γ nL r s pc lv (.int y :: .int x :: st) := by subst hp; exact fun H locs ls hP hS hl => lv_icmp_gt hX.1 hX.2.1 hd ht (fun h => kt (by simpa using h) H locs ls hP hS hl) (fun h => kf (by simpa using h) H locs ls hP hS hl)
theorem z_if_le {X : Cx} {Γ : Gm} {cc : ByteArray} {own : String} {nL : Nat} {ret : Option FieldType} {d : Nat} {r : Option Value × St} {s : St} {pc : Nat} {lv : List (Nat × Value)} {st : List Value} (hX : Amb X Γ cc own nL ret d) {x : Int32} {off : Int} (tgt : Nat) (hd : decode cc pc = .ok (.ifCond .le off, 3)) (ht : (pc : Int) + off = (tgt : Int)) (pc2 : Nat) (hp : pc + 3 = pc2) (kt : x ≤ 0 → Zw X Γ nL r s tgt lv (st)) (kf : ¬ (x ≤ 0) → Zw X Γ nL r s pc2 lv (st)) : Zw X Γ nL r s pc lv (.int x :: st) := by subst hp; exact fun H locs ls hP hS hl => lv_if_le hX.1 hX.2.1 hd ht (fun h => kt (by simpa using h) H locs ls hP hS hl) (fun h => kf (by simpa using h) H locs ls hP hS hl)
theorem z_icmp_le {X : Cx} {Γ : Gm} {cc : ByteArray} {own : String} {nL : Nat} {ret : Option FieldType} {d : Nat} {r : Option Value × St} {s : St} {pc : Nat} {lv : List (Nat × Value)} {st : List Value} (hX : Amb X Γ cc own nL ret d) {x y : Int32} {off : Int} (tgt : Nat) (hd : decode cc pc = .ok (.if_icmp .le off, 3)) (ht : (pc : Int) + off = (tgt : Int)) (pc2 : Nat) (hp : pc + 3 = pc2) (kt : x ≤ y → Zw X Γ nL r s tgt lv (st)) (kf : ¬ (x ≤ y) → Zw X Γ nL r s pc2 lv (st)) : Zw X Γ nL r s pc lv (.int y :: .int x :: st) := by subst hp; exact fun H locs ls hP hS hl => lv_icmp_le hX.1 hX.2.1 hd ht (fun h => kt (by simpa using h) H locs ls hP hS hl) (fun h => kf (by simpa using h) H locs ls hP hS hl)
theorem z_goto {X : Cx} {Γ : Gm} {cc : ByteArray} {own : String} {nL : Nat} {ret : Option FieldType} {d : Nat} {r : Option Value × St} {s : St} {pc : Nat} {lv : List (Nat × Value)} {st : List Value} (hX : Amb X Γ cc own nL ret d) {off : Int} (tgt : Nat) (hd : decode cc pc = .ok (.goto off, 3)) (ht : (pc : Int) + off = (tgt : Int)) (k : Zw X Γ nL r s tgt lv (st)) : Zw X Γ nL r s pc lv (st) := fun H locs ls hP hS hl => lv_goto hX.1 hX.2.1 hd ht (k H locs ls hP hS hl)
theorem z_tcase {X : Cx} {Γ : Gm} {cc : ByteArray} {own : String} {nL : Nat} {ret : Option FieldType} {d : Nat} {r : Option Value × St} {s : St} {pc : Nat} {lv : List (Nat × Value)} {st : List Value} (hX : Amb X Γ cc own nL ret d) {dflt lo hi off : Int} {offs : Array Int} {len : Nat} {x : Int32} (tgt : Nat) (hd : decode cc pc = .ok (.tableswitch dflt lo hi offs, len)) (c : Int32) (hx : x = c) (h : ¬ c.toInt < lo ∧ ¬ hi < c.toInt ∧ offs[(c.toInt - lo).toNat]? = some off) (ht : (pc : Int) + off = (tgt : Int)) (k : Zw X Γ nL r s tgt lv (st)) : Zw X Γ nL r s pc lv (.int x :: st) := fun H locs ls hP hS hl => by subst hx; exact lv_tableIn hX.1 hX.2.1 hd h.1 h.2.1 h.2.2 ht (k H locs ls hP hS hl)
theorem z_tdef {X : Cx} {Γ : Gm} {cc : ByteArray} {own : String} {nL : Nat} {ret : Option FieldType} {d : Nat} {r : Option Value × St} {s : St} {pc : Nat} {lv : List (Nat × Value)} {st : List Value} (hX : Amb X Γ cc own nL ret d) {dflt lo hi : Int} {offs : Array Int} {len : Nat} {x : Int32} (tgt : Nat) (hd : decode cc pc = .ok (.tableswitch dflt lo hi offs, len)) (h : x.toInt < lo ∨ hi < x.toInt) (ht : (pc : Int) + dflt = (tgt : Int)) (k : Zw X Γ nL r s tgt lv (st)) : Zw X Γ nL r s pc lv (.int x :: st) := fun H locs ls hP hS hl => lv_tableOut hX.1 hX.2.1 hd h ht (k H locs ls hP hS hl)
theorem z_look {X : Cx} {Γ : Gm} {cc : ByteArray} {own : String} {nL : Nat} {ret : Option FieldType} {d : Nat} {r : Option Value × St} {s : St} {pc : Nat} {lv : List (Nat × Value)} {st : List Value} (hX : Amb X Γ cc own nL ret d) {dflt off : Int} {ps : Array (Int × Int)} {len : Nat} {x : Int32} (tgt : Nat) (hd : decode cc pc = .ok (.lookupswitch dflt ps, len)) (hp : (ps.toList.zip (ps.toList.drop 1)).all (fun (a, next) => a.1 < next.1) = true) (ho : Op.lookupswitch.offset ps.toList dflt x.toInt = off) (ht : (pc : Int) + off = (tgt : Int)) (k : Zw X Γ nL r s tgt lv (st)) : Zw X Γ nL r s pc lv (.int x :: st) := fun H locs ls hP hS hl => lv_lookup hX.1 hX.2.1 hd hp ho ht (k H locs ls hP hS hl)
theorem z_nm {X : Cx} {Γ : Gm} {nL : Nat} {r : Option Value × St} {s : St} {pc : Nat} {lv : List (Nat × Value)} {st : List Value} {x v : Int32} (e : v = x) (k : Zw X Γ nL r s pc lv (.int v :: st)) : Zw X Γ nL r s pc lv (.int x :: st) := e ▸ k
theorem z_nmL {X : Cx} {Γ : Gm} {nL : Nat} {r : Option Value × St} {s : St} {pc : Nat} {lv : List (Nat × Value)} {st : List Value} {x v : Int64} (e : v = x) (k : Zw X Γ nL r s pc lv (.long v :: st)) : Zw X Γ nL r s pc lv (.long x :: st) := e ▸ k
theorem z_sub {X : Cx} {Γ : Gm} {nL : Nat} {r : Option Value × St} {s : St} {pc : Nat} {lv lv2 : List (Nat × Value)} {st : List Value} (ks : List Nat) (h : lv_pick lv ks = lv2) (k : Zw X Γ nL r s pc lv2 st) : Zw X Γ nL r s pc lv st := fun H locs ls hP hS hl => k H locs ls hP hS (lv_sub hl ks h)
theorem z_iret {X : Cx} {Γ : Gm} {cc : ByteArray} {own : String} {nL : Nat} {ret : Option FieldType} {d : Nat} {r : Option Value × St} {s : St} {pc : Nat} {lv : List (Nat × Value)} (hX : Amb X Γ cc own nL ret d) {v : Int32} (hd : decode cc pc = .ok (.ireturn, 1)) (hr : ret = some .int) (he : (some (Value.int v), s) = r)  : Zw X Γ nL r s pc lv ([.int v]) := fun H locs ls hP hS hl => W.iret hX.1 hX.2.1 (hX.2.2.2.2.2.2.1.trans hr) (fun t ht hW => ⟨⟨by rw [← he], by rw [ht, ← he]; exact hP⟩, hS.F ht⟩) hS.2.2 hd hX.2.2.2.2.2.2.2.1
theorem z_zret {X : Cx} {Γ : Gm} {cc : ByteArray} {own : String} {nL : Nat} {ret : Option FieldType} {d : Nat} {r : Option Value × St} {s : St} {pc : Nat} {lv : List (Nat × Value)} (hX : Amb X Γ cc own nL ret d) {v : Int32} (hd : decode cc pc = .ok (.ireturn, 1)) (hr : ret = some .boolean) (hv : v = 0 ∨ v = 1) (he : (some (Value.int v), s) = r)  : Zw X Γ nL r s pc lv ([.int v]) := fun H locs ls hP hS hl => W.zret hX.1 hX.2.1 (hX.2.2.2.2.2.2.1.trans hr) (by rcases hv with rfl | rfl <;> decide) (fun t ht hW => ⟨⟨by rw [← he], by rw [ht, ← he]; exact hP⟩, hS.F ht⟩) hS.2.2 hd hX.2.2.2.2.2.2.2.1
theorem z_lret {X : Cx} {Γ : Gm} {cc : ByteArray} {own : String} {nL : Nat} {ret : Option FieldType} {d : Nat} {r : Option Value × St} {s : St} {pc : Nat} {lv : List (Nat × Value)} (hX : Amb X Γ cc own nL ret d) {v : Int64} (hd : decode cc pc = .ok (.lreturn, 1)) (hr : ret = some .long) (he : (some (Value.long v), s) = r)  : Zw X Γ nL r s pc lv ([.long v]) := fun H locs ls hP hS hl => W.lret hX.1 hX.2.1 (hX.2.2.2.2.2.2.1.trans hr) (fun t ht hW => ⟨⟨by rw [← he], by rw [ht, ← he]; exact hP⟩, hS.F ht⟩) hS.2.2 hd hX.2.2.2.2.2.2.2.1
theorem z_vret {X : Cx} {Γ : Gm} {cc : ByteArray} {own : String} {nL : Nat} {ret : Option FieldType} {d : Nat} {r : Option Value × St} {s : St} {pc : Nat} {lv : List (Nat × Value)} (hX : Amb X Γ cc own nL ret d) (hd : decode cc pc = .ok (.return_, 1)) (hr : ret = none) (he : (none, s) = r)  : Zw X Γ nL r s pc lv ([]) := fun H locs ls hP hS hl => W.vret hX.1 hX.2.1 (hX.2.2.2.2.2.2.1.trans hr) (fun t ht hW => ⟨⟨by rw [← he], by rw [ht, ← he]; exact hP⟩, hS.F ht⟩) hS.2.2 hd hX.2.2.2.2.2.2.2.1
end
section
def flds (Γ : Gm) (c k : Nat) (f : Nat → Int32) (g : Nat → Int64) : List Value := match entK Γ c k f g with
  | .inr q => q.2
  | .inl _ => []
theorem z_getG {X : Cx} {Γ : Gm} {cc : ByteArray} {own : String} {nL : Nat} {ret : Option FieldType} {d : Nat} {r : Option Value × St} {s : St} {pc : Nat} {lv : List (Nat × Value)} {st : List Value} (hX : Amb X Γ cc own nL ret d) {k ci j idx N : Nat} {C : String} {T : u_T} {fs : List Value} {v : Value} (hk : k < 201) (he : ent Γ s k = .inr (ci, fs)) (hc : cls[ci]? = some (C, T, N)) (hin : ∀ w ∈ u_ws C T N, w ∈ gt) (hj : j < N) (hv : fs[j]? = some v) (hd : decode cc pc = .ok (.getfield idx, 3)) (hl : Cond.fieldLink own idx (T j).1 (T j).2.1 (T j).2.2.1 ∈ gt) (pc2 : Nat) (hp : pc + 3 = pc2) (kk : Zw X Γ nL r s pc2 lv (v :: st)) : Zw X Γ nL r s pc lv (.ref (gL Γ k) :: st) := by
  subst hp
  exact fun H locs ls hP hS h2 => va_get (D := gD Γ) (cl := cls) (ci := ci) (C := C) (T := T) (N := N) hX.1 hX.2.1 hX.2.2.2.2.1 hin hX.2.2.2.1 hX.2.2.2.2.2.1.1 hP.1 k (by rw [wl_get hk, he]) hc j hj (hX.2.2.2.2.1 _ hl) (fun _ h => h) hv hd (kk H locs ls hP hS h2)
theorem z_putG {X : Cx} {Γ : Gm} {cc : ByteArray} {own : String} {nL : Nat} {ret : Option FieldType} {d : Nat} {r : Option Value × St} {s : St} {pc : Nat} {lv : List (Nat × Value)} {st : List Value} (hX : Amb X Γ cc own nL ret d) {k ci j idx N : Nat} {C : String} {T : u_T} {fs : List Value} {v : Value} {ty : FieldType} {s2 : St} (hk : k < 201) (he : ent Γ s k = .inr (ci, fs)) (hc : cls[ci]? = some (C, T, N)) (hin : ∀ w ∈ u_ws C T N, w ∈ gt) (ty0 : Nat → FieldType) (hty : ∀ k, k < N → parseFieldDescriptor (T k).2.2.1 = some (ty0 k)) (hnm : ∀ a, a < N → ∀ b, b < N → a ≠ b → (T a).2.1 ≠ (T b).2.1) (hj : j < N) (hfin : (T j).2.2.2 = false) (hpd : parseFieldDescriptor (T j).2.2.1 = some ty) (hn : narrow ty v = v) (hfit : fits ty v = true) (hlen : j < fs.length) (h1 : ent Γ s2 k = .inr (ci, fs.set j v)) (h2 : ∀ j, j ≠ k → s2.1 j = s.1 j ∧ s2.2 j = s.2 j) (hd : decode cc pc = .ok (.putfield idx, 3)) (hl : Cond.fieldLink own idx (T j).1 (T j).2.1 (T j).2.2.1 ∈ gt) (pc2 : Nat) (hp : pc + 3 = pc2) (kk : Zw X Γ nL r s2 pc2 lv (st)) : Zw X Γ nL r s pc lv (v :: .ref (gL Γ k) :: st) := by
  subst hp
  exact fun H locs ls hP hS h3 => va_put (D := gD Γ) (cl := cls) (ci := ci) (C := C) (T := T) (N := N) hX.1 hX.2.1 hX.2.2.2.2.1 hin ty0 hty hnm hX.2.2.2.1 hX.2.2.2.2.2.1.1 hP.1 hP.2 hS k (by rw [wl_get hk, he]) hc j hj (hX.2.2.2.2.1 _ hl) (fun _ h => h) hfin hpd hn hfit hlen hd (fun H1 locs1 p1 p2 p3 => kk H1 locs1 ls (by rw [wl_set hk h1 h2] at p1 p2; exact ⟨p1, p2⟩) p3 h3)
theorem ent_0 {Γ : Gm} {s : St} {k : Nat} (h : kd k = 0) : ent Γ s k = .inr (0, flds Γ 0 k (s.1 k) (s.2 k)) := by unfold ent; rw [h]; rfl
theorem z_get0 {X : Cx} {Γ : Gm} {cc : ByteArray} {own : String} {nL : Nat} {ret : Option FieldType} {d : Nat} {r : Option Value × St} {s : St} {pc : Nat} {lv : List (Nat × Value)} {st : List Value} (hX : Amb X Γ cc own nL ret d) {k j idx : Nat} {v : Value} (h : kd k = 0) (hj : j < 3) (hv : (flds Γ 0 k (s.1 k) (s.2 k))[j]? = some v) (hd : decode cc pc = .ok (.getfield idx, 3)) (hl : Cond.fieldLink own idx (TX0 j).1 (TX0 j).2.1 (TX0 j).2.2.1 ∈ gt) (pc2 : Nat) (hp : pc + 3 = pc2) (kk : Zw X Γ nL r s pc2 lv (v :: st)) : Zw X Γ nL r s pc lv (.ref (gL Γ k) :: st) :=
  z_getG hX (kd_lt h (by decide)) (ent_0 h) (show cls[0]? = some (RX0, TX0, 3) from rfl) in0 hj hv hd hl pc2 hp kk
theorem z_putI0 {X : Cx} {Γ : Gm} {cc : ByteArray} {own : String} {nL : Nat} {ret : Option FieldType} {d : Nat} {r : Option Value × St} {s : St} {pc : Nat} {lv : List (Nat × Value)} {st : List Value} (hX : Amb X Γ cc own nL ret d) {k j idx : Nat} {x : Int32} {s2 : St} (h : kd k = 0) (hj : j < 3) (hfin : (TX0 j).2.2.2 = false) (hpd : parseFieldDescriptor (TX0 j).2.2.1 = some .int) (hs : (flds Γ 0 k (s.1 k) (s.2 k)).set j (.int x) = flds Γ 0 k (upd (s.1 k) j x) (s.2 k)) (hd : decode cc pc = .ok (.putfield idx, 3)) (hl : Cond.fieldLink own idx (TX0 j).1 (TX0 j).2.1 (TX0 j).2.2.1 ∈ gt) (e : s2 = wI s k j x) (pc2 : Nat) (hp : pc + 3 = pc2) (kk : Zw X Γ nL r s2 pc2 lv (st)) : Zw X Γ nL r s pc lv (.int x :: .ref (gL Γ k) :: st) := by
  subst e
  exact z_putG hX (kd_lt h (by decide)) (ent_0 h) (show cls[0]? = some (RX0, TX0, 3) from rfl) in0 tyX0 tyX0_ok nmX0 hj hfin hpd rfl rfl hj (by rw [ent_0 h, wI_k, hs]; rfl) wI_o hd hl pc2 hp kk
theorem z_putZ0 {X : Cx} {Γ : Gm} {cc : ByteArray} {own : String} {nL : Nat} {ret : Option FieldType} {d : Nat} {r : Option Value × St} {s : St} {pc : Nat} {lv : List (Nat × Value)} {st : List Value} (hX : Amb X Γ cc own nL ret d) {k j idx : Nat} {x : Int32} {s2 : St} (h : kd k = 0) (hj : j < 3) (hfin : (TX0 j).2.2.2 = false) (hpd : parseFieldDescriptor (TX0 j).2.2.1 = some .boolean) (hx : x = 0 ∨ x = 1) (hs : (flds Γ 0 k (s.1 k) (s.2 k)).set j (.int x) = flds Γ 0 k (upd (s.1 k) j x) (s.2 k)) (hd : decode cc pc = .ok (.putfield idx, 3)) (hl : Cond.fieldLink own idx (TX0 j).1 (TX0 j).2.1 (TX0 j).2.2.1 ∈ gt) (e : s2 = wI s k j x) (pc2 : Nat) (hp : pc + 3 = pc2) (kk : Zw X Γ nL r s2 pc2 lv (st)) : Zw X Γ nL r s pc lv (.int x :: .ref (gL Γ k) :: st) := by
  subst e
  exact z_putG hX (kd_lt h (by decide)) (ent_0 h) (show cls[0]? = some (RX0, TX0, 3) from rfl) in0 tyX0 tyX0_ok nmX0 hj hfin hpd (by rcases hx with rfl | rfl <;> decide) (by rcases hx with rfl | rfl <;> decide) hj (by rw [ent_0 h, wI_k, hs]; rfl) wI_o hd hl pc2 hp kk
theorem ent_1 {Γ : Gm} {s : St} {k : Nat} (h : kd k = 1) : ent Γ s k = .inr (1, flds Γ 1 k (s.1 k) (s.2 k)) := by unfold ent; rw [h]; rfl
theorem z_get1 {X : Cx} {Γ : Gm} {cc : ByteArray} {own : String} {nL : Nat} {ret : Option FieldType} {d : Nat} {r : Option Value × St} {s : St} {pc : Nat} {lv : List (Nat × Value)} {st : List Value} (hX : Amb X Γ cc own nL ret d) {k j idx : Nat} {v : Value} (h : kd k = 1) (hj : j < 7) (hv : (flds Γ 1 k (s.1 k) (s.2 k))[j]? = some v) (hd : decode cc pc = .ok (.getfield idx, 3)) (hl : Cond.fieldLink own idx (TX1 j).1 (TX1 j).2.1 (TX1 j).2.2.1 ∈ gt) (pc2 : Nat) (hp : pc + 3 = pc2) (kk : Zw X Γ nL r s pc2 lv (v :: st)) : Zw X Γ nL r s pc lv (.ref (gL Γ k) :: st) :=
  z_getG hX (kd_lt h (by decide)) (ent_1 h) (show cls[1]? = some (RX1, TX1, 7) from rfl) in1 hj hv hd hl pc2 hp kk
theorem z_putI1 {X : Cx} {Γ : Gm} {cc : ByteArray} {own : String} {nL : Nat} {ret : Option FieldType} {d : Nat} {r : Option Value × St} {s : St} {pc : Nat} {lv : List (Nat × Value)} {st : List Value} (hX : Amb X Γ cc own nL ret d) {k j idx : Nat} {x : Int32} {s2 : St} (h : kd k = 1) (hj : j < 7) (hfin : (TX1 j).2.2.2 = false) (hpd : parseFieldDescriptor (TX1 j).2.2.1 = some .int) (hs : (flds Γ 1 k (s.1 k) (s.2 k)).set j (.int x) = flds Γ 1 k (upd (s.1 k) j x) (s.2 k)) (hd : decode cc pc = .ok (.putfield idx, 3)) (hl : Cond.fieldLink own idx (TX1 j).1 (TX1 j).2.1 (TX1 j).2.2.1 ∈ gt) (e : s2 = wI s k j x) (pc2 : Nat) (hp : pc + 3 = pc2) (kk : Zw X Γ nL r s2 pc2 lv (st)) : Zw X Γ nL r s pc lv (.int x :: .ref (gL Γ k) :: st) := by
  subst e
  exact z_putG hX (kd_lt h (by decide)) (ent_1 h) (show cls[1]? = some (RX1, TX1, 7) from rfl) in1 tyX1 tyX1_ok nmX1 hj hfin hpd rfl rfl hj (by rw [ent_1 h, wI_k, hs]; rfl) wI_o hd hl pc2 hp kk
theorem z_putZ1 {X : Cx} {Γ : Gm} {cc : ByteArray} {own : String} {nL : Nat} {ret : Option FieldType} {d : Nat} {r : Option Value × St} {s : St} {pc : Nat} {lv : List (Nat × Value)} {st : List Value} (hX : Amb X Γ cc own nL ret d) {k j idx : Nat} {x : Int32} {s2 : St} (h : kd k = 1) (hj : j < 7) (hfin : (TX1 j).2.2.2 = false) (hpd : parseFieldDescriptor (TX1 j).2.2.1 = some .boolean) (hx : x = 0 ∨ x = 1) (hs : (flds Γ 1 k (s.1 k) (s.2 k)).set j (.int x) = flds Γ 1 k (upd (s.1 k) j x) (s.2 k)) (hd : decode cc pc = .ok (.putfield idx, 3)) (hl : Cond.fieldLink own idx (TX1 j).1 (TX1 j).2.1 (TX1 j).2.2.1 ∈ gt) (e : s2 = wI s k j x) (pc2 : Nat) (hp : pc + 3 = pc2) (kk : Zw X Γ nL r s2 pc2 lv (st)) : Zw X Γ nL r s pc lv (.int x :: .ref (gL Γ k) :: st) := by
  subst e
  exact z_putG hX (kd_lt h (by decide)) (ent_1 h) (show cls[1]? = some (RX1, TX1, 7) from rfl) in1 tyX1 tyX1_ok nmX1 hj hfin hpd (by rcases hx with rfl | rfl <;> decide) (by rcases hx with rfl | rfl <;> decide) hj (by rw [ent_1 h, wI_k, hs]; rfl) wI_o hd hl pc2 hp kk
theorem z_putJ1 {X : Cx} {Γ : Gm} {cc : ByteArray} {own : String} {nL : Nat} {ret : Option FieldType} {d : Nat} {r : Option Value × St} {s : St} {pc : Nat} {lv : List (Nat × Value)} {st : List Value} (hX : Amb X Γ cc own nL ret d) {k j idx : Nat} {x : Int64} {s2 : St} (h : kd k = 1) (hj : j < 7) (hfin : (TX1 j).2.2.2 = false) (hpd : parseFieldDescriptor (TX1 j).2.2.1 = some .long) (hs : (flds Γ 1 k (s.1 k) (s.2 k)).set j (.long x) = flds Γ 1 k (s.1 k) (vp_updL (s.2 k) j x)) (hd : decode cc pc = .ok (.putfield idx, 3)) (hl : Cond.fieldLink own idx (TX1 j).1 (TX1 j).2.1 (TX1 j).2.2.1 ∈ gt) (e : s2 = wJ s k j x) (pc2 : Nat) (hp : pc + 3 = pc2) (kk : Zw X Γ nL r s2 pc2 lv (st)) : Zw X Γ nL r s pc lv (.long x :: .ref (gL Γ k) :: st) := by
  subst e
  exact z_putG hX (kd_lt h (by decide)) (ent_1 h) (show cls[1]? = some (RX1, TX1, 7) from rfl) in1 tyX1 tyX1_ok nmX1 hj hfin hpd rfl rfl hj (by rw [ent_1 h, wJ_k, hs]; rfl) wJ_o hd hl pc2 hp kk
theorem ent_2 {Γ : Gm} {s : St} {k : Nat} (h : kd k = 2) : ent Γ s k = .inr (2, flds Γ 2 k (s.1 k) (s.2 k)) := by unfold ent; rw [h]; rfl
theorem z_get2 {X : Cx} {Γ : Gm} {cc : ByteArray} {own : String} {nL : Nat} {ret : Option FieldType} {d : Nat} {r : Option Value × St} {s : St} {pc : Nat} {lv : List (Nat × Value)} {st : List Value} (hX : Amb X Γ cc own nL ret d) {k j idx : Nat} {v : Value} (h : kd k = 2) (hj : j < 15) (hv : (flds Γ 2 k (s.1 k) (s.2 k))[j]? = some v) (hd : decode cc pc = .ok (.getfield idx, 3)) (hl : Cond.fieldLink own idx (TX2 j).1 (TX2 j).2.1 (TX2 j).2.2.1 ∈ gt) (pc2 : Nat) (hp : pc + 3 = pc2) (kk : Zw X Γ nL r s pc2 lv (v :: st)) : Zw X Γ nL r s pc lv (.ref (gL Γ k) :: st) :=
  z_getG hX (kd_lt h (by decide)) (ent_2 h) (show cls[2]? = some (RX2, TX2, 15) from rfl) in2 hj hv hd hl pc2 hp kk
theorem z_putI2 {X : Cx} {Γ : Gm} {cc : ByteArray} {own : String} {nL : Nat} {ret : Option FieldType} {d : Nat} {r : Option Value × St} {s : St} {pc : Nat} {lv : List (Nat × Value)} {st : List Value} (hX : Amb X Γ cc own nL ret d) {k j idx : Nat} {x : Int32} {s2 : St} (h : kd k = 2) (hj : j < 15) (hfin : (TX2 j).2.2.2 = false) (hpd : parseFieldDescriptor (TX2 j).2.2.1 = some .int) (hs : (flds Γ 2 k (s.1 k) (s.2 k)).set j (.int x) = flds Γ 2 k (upd (s.1 k) j x) (s.2 k)) (hd : decode cc pc = .ok (.putfield idx, 3)) (hl : Cond.fieldLink own idx (TX2 j).1 (TX2 j).2.1 (TX2 j).2.2.1 ∈ gt) (e : s2 = wI s k j x) (pc2 : Nat) (hp : pc + 3 = pc2) (kk : Zw X Γ nL r s2 pc2 lv (st)) : Zw X Γ nL r s pc lv (.int x :: .ref (gL Γ k) :: st) := by
  subst e
  exact z_putG hX (kd_lt h (by decide)) (ent_2 h) (show cls[2]? = some (RX2, TX2, 15) from rfl) in2 tyX2 tyX2_ok nmX2 hj hfin hpd rfl rfl hj (by rw [ent_2 h, wI_k, hs]; rfl) wI_o hd hl pc2 hp kk
theorem ent_3 {Γ : Gm} {s : St} {k : Nat} (h : kd k = 3) : ent Γ s k = .inr (3, flds Γ 3 k (s.1 k) (s.2 k)) := by unfold ent; rw [h]; rfl
theorem z_get3 {X : Cx} {Γ : Gm} {cc : ByteArray} {own : String} {nL : Nat} {ret : Option FieldType} {d : Nat} {r : Option Value × St} {s : St} {pc : Nat} {lv : List (Nat × Value)} {st : List Value} (hX : Amb X Γ cc own nL ret d) {k j idx : Nat} {v : Value} (h : kd k = 3) (hj : j < 5) (hv : (flds Γ 3 k (s.1 k) (s.2 k))[j]? = some v) (hd : decode cc pc = .ok (.getfield idx, 3)) (hl : Cond.fieldLink own idx (TX3 j).1 (TX3 j).2.1 (TX3 j).2.2.1 ∈ gt) (pc2 : Nat) (hp : pc + 3 = pc2) (kk : Zw X Γ nL r s pc2 lv (v :: st)) : Zw X Γ nL r s pc lv (.ref (gL Γ k) :: st) :=
  z_getG hX (kd_lt h (by decide)) (ent_3 h) (show cls[3]? = some (RX3, TX3, 5) from rfl) in3 hj hv hd hl pc2 hp kk
theorem z_putI3 {X : Cx} {Γ : Gm} {cc : ByteArray} {own : String} {nL : Nat} {ret : Option FieldType} {d : Nat} {r : Option Value × St} {s : St} {pc : Nat} {lv : List (Nat × Value)} {st : List Value} (hX : Amb X Γ cc own nL ret d) {k j idx : Nat} {x : Int32} {s2 : St} (h : kd k = 3) (hj : j < 5) (hfin : (TX3 j).2.2.2 = false) (hpd : parseFieldDescriptor (TX3 j).2.2.1 = some .int) (hs : (flds Γ 3 k (s.1 k) (s.2 k)).set j (.int x) = flds Γ 3 k (upd (s.1 k) j x) (s.2 k)) (hd : decode cc pc = .ok (.putfield idx, 3)) (hl : Cond.fieldLink own idx (TX3 j).1 (TX3 j).2.1 (TX3 j).2.2.1 ∈ gt) (e : s2 = wI s k j x) (pc2 : Nat) (hp : pc + 3 = pc2) (kk : Zw X Γ nL r s2 pc2 lv (st)) : Zw X Γ nL r s pc lv (.int x :: .ref (gL Γ k) :: st) := by
  subst e
  exact z_putG hX (kd_lt h (by decide)) (ent_3 h) (show cls[3]? = some (RX3, TX3, 5) from rfl) in3 tyX3 tyX3_ok nmX3 hj hfin hpd rfl rfl hj (by rw [ent_3 h, wI_k, hs]; rfl) wI_o hd hl pc2 hp kk
theorem ent_4 {Γ : Gm} {s : St} {k : Nat} (h : kd k = 4) : ent Γ s k = .inr (4, flds Γ 4 k (s.1 k) (s.2 k)) := by unfold ent; rw [h]; rfl
theorem z_get4 {X : Cx} {Γ : Gm} {cc : ByteArray} {own : String} {nL : Nat} {ret : Option FieldType} {d : Nat} {r : Option Value × St} {s : St} {pc : Nat} {lv : List (Nat × Value)} {st : List Value} (hX : Amb X Γ cc own nL ret d) {k j idx : Nat} {v : Value} (h : kd k = 4) (hj : j < 3) (hv : (flds Γ 4 k (s.1 k) (s.2 k))[j]? = some v) (hd : decode cc pc = .ok (.getfield idx, 3)) (hl : Cond.fieldLink own idx (TX4 j).1 (TX4 j).2.1 (TX4 j).2.2.1 ∈ gt) (pc2 : Nat) (hp : pc + 3 = pc2) (kk : Zw X Γ nL r s pc2 lv (v :: st)) : Zw X Γ nL r s pc lv (.ref (gL Γ k) :: st) :=
  z_getG hX (kd_lt h (by decide)) (ent_4 h) (show cls[4]? = some (RX4, TX4, 3) from rfl) in4 hj hv hd hl pc2 hp kk
theorem z_putI4 {X : Cx} {Γ : Gm} {cc : ByteArray} {own : String} {nL : Nat} {ret : Option FieldType} {d : Nat} {r : Option Value × St} {s : St} {pc : Nat} {lv : List (Nat × Value)} {st : List Value} (hX : Amb X Γ cc own nL ret d) {k j idx : Nat} {x : Int32} {s2 : St} (h : kd k = 4) (hj : j < 3) (hfin : (TX4 j).2.2.2 = false) (hpd : parseFieldDescriptor (TX4 j).2.2.1 = some .int) (hs : (flds Γ 4 k (s.1 k) (s.2 k)).set j (.int x) = flds Γ 4 k (upd (s.1 k) j x) (s.2 k)) (hd : decode cc pc = .ok (.putfield idx, 3)) (hl : Cond.fieldLink own idx (TX4 j).1 (TX4 j).2.1 (TX4 j).2.2.1 ∈ gt) (e : s2 = wI s k j x) (pc2 : Nat) (hp : pc + 3 = pc2) (kk : Zw X Γ nL r s2 pc2 lv (st)) : Zw X Γ nL r s pc lv (.int x :: .ref (gL Γ k) :: st) := by
  subst e
  exact z_putG hX (kd_lt h (by decide)) (ent_4 h) (show cls[4]? = some (RX4, TX4, 3) from rfl) in4 tyX4 tyX4_ok nmX4 hj hfin hpd rfl rfl hj (by rw [ent_4 h, wI_k, hs]; rfl) wI_o hd hl pc2 hp kk
theorem ent_5 {Γ : Gm} {s : St} {k : Nat} (h : kd k = 5) : ent Γ s k = .inr (5, flds Γ 5 k (s.1 k) (s.2 k)) := by unfold ent; rw [h]; rfl
theorem z_get5 {X : Cx} {Γ : Gm} {cc : ByteArray} {own : String} {nL : Nat} {ret : Option FieldType} {d : Nat} {r : Option Value × St} {s : St} {pc : Nat} {lv : List (Nat × Value)} {st : List Value} (hX : Amb X Γ cc own nL ret d) {k j idx : Nat} {v : Value} (h : kd k = 5) (hj : j < 8) (hv : (flds Γ 5 k (s.1 k) (s.2 k))[j]? = some v) (hd : decode cc pc = .ok (.getfield idx, 3)) (hl : Cond.fieldLink own idx (TX5 j).1 (TX5 j).2.1 (TX5 j).2.2.1 ∈ gt) (pc2 : Nat) (hp : pc + 3 = pc2) (kk : Zw X Γ nL r s pc2 lv (v :: st)) : Zw X Γ nL r s pc lv (.ref (gL Γ k) :: st) :=
  z_getG hX (kd_lt h (by decide)) (ent_5 h) (show cls[5]? = some (RX5, TX5, 8) from rfl) in5 hj hv hd hl pc2 hp kk
theorem z_putI5 {X : Cx} {Γ : Gm} {cc : ByteArray} {own : String} {nL : Nat} {ret : Option FieldType} {d : Nat} {r : Option Value × St} {s : St} {pc : Nat} {lv : List (Nat × Value)} {st : List Value} (hX : Amb X Γ cc own nL ret d) {k j idx : Nat} {x : Int32} {s2 : St} (h : kd k = 5) (hj : j < 8) (hfin : (TX5 j).2.2.2 = false) (hpd : parseFieldDescriptor (TX5 j).2.2.1 = some .int) (hs : (flds Γ 5 k (s.1 k) (s.2 k)).set j (.int x) = flds Γ 5 k (upd (s.1 k) j x) (s.2 k)) (hd : decode cc pc = .ok (.putfield idx, 3)) (hl : Cond.fieldLink own idx (TX5 j).1 (TX5 j).2.1 (TX5 j).2.2.1 ∈ gt) (e : s2 = wI s k j x) (pc2 : Nat) (hp : pc + 3 = pc2) (kk : Zw X Γ nL r s2 pc2 lv (st)) : Zw X Γ nL r s pc lv (.int x :: .ref (gL Γ k) :: st) := by
  subst e
  exact z_putG hX (kd_lt h (by decide)) (ent_5 h) (show cls[5]? = some (RX5, TX5, 8) from rfl) in5 tyX5 tyX5_ok nmX5 hj hfin hpd rfl rfl hj (by rw [ent_5 h, wI_k, hs]; rfl) wI_o hd hl pc2 hp kk
theorem ent_6 {Γ : Gm} {s : St} {k : Nat} (h : kd k = 6) : ent Γ s k = .inr (6, flds Γ 6 k (s.1 k) (s.2 k)) := by unfold ent; rw [h]; rfl
theorem z_get6 {X : Cx} {Γ : Gm} {cc : ByteArray} {own : String} {nL : Nat} {ret : Option FieldType} {d : Nat} {r : Option Value × St} {s : St} {pc : Nat} {lv : List (Nat × Value)} {st : List Value} (hX : Amb X Γ cc own nL ret d) {k j idx : Nat} {v : Value} (h : kd k = 6) (hj : j < 9) (hv : (flds Γ 6 k (s.1 k) (s.2 k))[j]? = some v) (hd : decode cc pc = .ok (.getfield idx, 3)) (hl : Cond.fieldLink own idx (TX6 j).1 (TX6 j).2.1 (TX6 j).2.2.1 ∈ gt) (pc2 : Nat) (hp : pc + 3 = pc2) (kk : Zw X Γ nL r s pc2 lv (v :: st)) : Zw X Γ nL r s pc lv (.ref (gL Γ k) :: st) :=
  z_getG hX (kd_lt h (by decide)) (ent_6 h) (show cls[6]? = some (RX6, TX6, 9) from rfl) in6 hj hv hd hl pc2 hp kk
theorem z_putI6 {X : Cx} {Γ : Gm} {cc : ByteArray} {own : String} {nL : Nat} {ret : Option FieldType} {d : Nat} {r : Option Value × St} {s : St} {pc : Nat} {lv : List (Nat × Value)} {st : List Value} (hX : Amb X Γ cc own nL ret d) {k j idx : Nat} {x : Int32} {s2 : St} (h : kd k = 6) (hj : j < 9) (hfin : (TX6 j).2.2.2 = false) (hpd : parseFieldDescriptor (TX6 j).2.2.1 = some .int) (hs : (flds Γ 6 k (s.1 k) (s.2 k)).set j (.int x) = flds Γ 6 k (upd (s.1 k) j x) (s.2 k)) (hd : decode cc pc = .ok (.putfield idx, 3)) (hl : Cond.fieldLink own idx (TX6 j).1 (TX6 j).2.1 (TX6 j).2.2.1 ∈ gt) (e : s2 = wI s k j x) (pc2 : Nat) (hp : pc + 3 = pc2) (kk : Zw X Γ nL r s2 pc2 lv (st)) : Zw X Γ nL r s pc lv (.int x :: .ref (gL Γ k) :: st) := by
  subst e
  exact z_putG hX (kd_lt h (by decide)) (ent_6 h) (show cls[6]? = some (RX6, TX6, 9) from rfl) in6 tyX6 tyX6_ok nmX6 hj hfin hpd rfl rfl hj (by rw [ent_6 h, wI_k, hs]; rfl) wI_o hd hl pc2 hp kk
theorem ent_7 {Γ : Gm} {s : St} {k : Nat} (h : kd k = 7) : ent Γ s k = .inr (7, flds Γ 7 k (s.1 k) (s.2 k)) := by unfold ent; rw [h]; rfl
theorem z_get7 {X : Cx} {Γ : Gm} {cc : ByteArray} {own : String} {nL : Nat} {ret : Option FieldType} {d : Nat} {r : Option Value × St} {s : St} {pc : Nat} {lv : List (Nat × Value)} {st : List Value} (hX : Amb X Γ cc own nL ret d) {k j idx : Nat} {v : Value} (h : kd k = 7) (hj : j < 28) (hv : (flds Γ 7 k (s.1 k) (s.2 k))[j]? = some v) (hd : decode cc pc = .ok (.getfield idx, 3)) (hl : Cond.fieldLink own idx (TX7 j).1 (TX7 j).2.1 (TX7 j).2.2.1 ∈ gt) (pc2 : Nat) (hp : pc + 3 = pc2) (kk : Zw X Γ nL r s pc2 lv (v :: st)) : Zw X Γ nL r s pc lv (.ref (gL Γ k) :: st) :=
  z_getG hX (kd_lt h (by decide)) (ent_7 h) (show cls[7]? = some (RX7, TX7, 28) from rfl) in7 hj hv hd hl pc2 hp kk
theorem z_putI7 {X : Cx} {Γ : Gm} {cc : ByteArray} {own : String} {nL : Nat} {ret : Option FieldType} {d : Nat} {r : Option Value × St} {s : St} {pc : Nat} {lv : List (Nat × Value)} {st : List Value} (hX : Amb X Γ cc own nL ret d) {k j idx : Nat} {x : Int32} {s2 : St} (h : kd k = 7) (hj : j < 28) (hfin : (TX7 j).2.2.2 = false) (hpd : parseFieldDescriptor (TX7 j).2.2.1 = some .int) (hs : (flds Γ 7 k (s.1 k) (s.2 k)).set j (.int x) = flds Γ 7 k (upd (s.1 k) j x) (s.2 k)) (hd : decode cc pc = .ok (.putfield idx, 3)) (hl : Cond.fieldLink own idx (TX7 j).1 (TX7 j).2.1 (TX7 j).2.2.1 ∈ gt) (e : s2 = wI s k j x) (pc2 : Nat) (hp : pc + 3 = pc2) (kk : Zw X Γ nL r s2 pc2 lv (st)) : Zw X Γ nL r s pc lv (.int x :: .ref (gL Γ k) :: st) := by
  subst e
  exact z_putG hX (kd_lt h (by decide)) (ent_7 h) (show cls[7]? = some (RX7, TX7, 28) from rfl) in7 tyX7 tyX7_ok nmX7 hj hfin hpd rfl rfl hj (by rw [ent_7 h, wI_k, hs]; rfl) wI_o hd hl pc2 hp kk
theorem z_putJ7 {X : Cx} {Γ : Gm} {cc : ByteArray} {own : String} {nL : Nat} {ret : Option FieldType} {d : Nat} {r : Option Value × St} {s : St} {pc : Nat} {lv : List (Nat × Value)} {st : List Value} (hX : Amb X Γ cc own nL ret d) {k j idx : Nat} {x : Int64} {s2 : St} (h : kd k = 7) (hj : j < 28) (hfin : (TX7 j).2.2.2 = false) (hpd : parseFieldDescriptor (TX7 j).2.2.1 = some .long) (hs : (flds Γ 7 k (s.1 k) (s.2 k)).set j (.long x) = flds Γ 7 k (s.1 k) (vp_updL (s.2 k) j x)) (hd : decode cc pc = .ok (.putfield idx, 3)) (hl : Cond.fieldLink own idx (TX7 j).1 (TX7 j).2.1 (TX7 j).2.2.1 ∈ gt) (e : s2 = wJ s k j x) (pc2 : Nat) (hp : pc + 3 = pc2) (kk : Zw X Γ nL r s2 pc2 lv (st)) : Zw X Γ nL r s pc lv (.long x :: .ref (gL Γ k) :: st) := by
  subst e
  exact z_putG hX (kd_lt h (by decide)) (ent_7 h) (show cls[7]? = some (RX7, TX7, 28) from rfl) in7 tyX7 tyX7_ok nmX7 hj hfin hpd rfl rfl hj (by rw [ent_7 h, wJ_k, hs]; rfl) wJ_o hd hl pc2 hp kk
theorem lnI_k {a : Nat} {i : Int32} (h : vp_in i (lnI a)) : kd a = 9 ∧ vp_in i (ln a) := by
  unfold lnI at h
  by_cases h9 : kd a = 9
  · rw [if_pos h9] at h; exact ⟨h9, h⟩
  · rw [if_neg h9] at h; exact absurd (Or.inr (Nat.zero_le _)) h
theorem lnB_k {a : Nat} {i : Int32} (h : vp_in i (lnB a)) : kd a = 8 ∧ vp_in i (ln a) := by
  unfold lnB at h
  by_cases h9 : kd a = 8
  · rw [if_pos h9] at h; exact ⟨h9, h⟩
  · rw [if_neg h9] at h; exact absurd (Or.inr (Nat.zero_le _)) h
theorem lnZ_k {a : Nat} {i : Int32} (h : vp_in i (lnZ a)) : kd a = 10 ∧ vp_in i (ln a) := by
  unfold lnZ at h
  by_cases h9 : kd a = 10
  · rw [if_pos h9] at h; exact ⟨h9, h⟩
  · rw [if_neg h9] at h; exact absurd (Or.inr (Nat.zero_le _)) h
theorem ent_8 {Γ : Gm} {s : St} {k : Nat} (h : kd k = 8) : ent Γ s k = .inl (gC Γ 8, ln k, .inl (s.1 k)) := by unfold ent; rw [h]; rfl
theorem ent_9 {Γ : Gm} {s : St} {k : Nat} (h : kd k = 9) : ent Γ s k = .inl (gC Γ 9, ln k, .inl (s.1 k)) := by unfold ent; rw [h]; rfl
theorem ent_10 {Γ : Gm} {s : St} {k : Nat} (h : kd k = 10) : ent Γ s k = .inl (gC Γ 10, ln k, .inl (s.1 k)) := by unfold ent; rw [h]; rfl
theorem z_iald {X : Cx} {Γ : Gm} {cc : ByteArray} {own : String} {nL : Nat} {ret : Option FieldType} {d : Nat} {r : Option Value × St} {s : St} {pc : Nat} {lv : List (Nat × Value)} {st : List Value} (hX : Amb X Γ cc own nL ret d) {a : Nat} {i : Int32} (hin : vp_in i (lnI a)) (hd : decode cc pc = .ok (.iaload, 1)) (pc2 : Nat) (hp : pc + 1 = pc2) (kk : Zw X Γ nL r s pc2 lv (.int (s.1 a i.toNatClampNeg) :: st)) : Zw X Γ nL r s pc lv (.int i :: .ref (gL Γ a) :: st) := by
  subst hp
  exact fun H locs ls hP hS h3 => va_iald (D := gD Γ) (cl := cls) (tys := tys Γ) hX.1 hX.2.1 hX.2.2.2.2.2.1.1 hP.1 a 1 (by rw [wl_get (kd_lt (lnI_k hin).1 (by decide)), ent_9 (lnI_k hin).1]) rfl (lnI_k hin).2 hd (kk H locs ls hP hS h3)
theorem z_bald {X : Cx} {Γ : Gm} {cc : ByteArray} {own : String} {nL : Nat} {ret : Option FieldType} {d : Nat} {r : Option Value × St} {s : St} {pc : Nat} {lv : List (Nat × Value)} {st : List Value} (hX : Amb X Γ cc own nL ret d) {a : Nat} {i : Int32} (hin : vp_in i (lnB a)) (hd : decode cc pc = .ok (.baload, 1)) (pc2 : Nat) (hp : pc + 1 = pc2) (kk : Zw X Γ nL r s pc2 lv (.int (s.1 a i.toNatClampNeg) :: st)) : Zw X Γ nL r s pc lv (.int i :: .ref (gL Γ a) :: st) := by
  subst hp
  exact fun H locs ls hP hS h3 => va_bald (D := gD Γ) (cl := cls) (tys := tys Γ) hX.1 hX.2.1 hX.2.2.2.2.2.1.1 hP.1 a 0 (by rw [wl_get (kd_lt (lnB_k hin).1 (by decide)), ent_8 (lnB_k hin).1]) rfl (lnB_k hin).2 hd (kk H locs ls hP hS h3)
theorem z_zald {X : Cx} {Γ : Gm} {cc : ByteArray} {own : String} {nL : Nat} {ret : Option FieldType} {d : Nat} {r : Option Value × St} {s : St} {pc : Nat} {lv : List (Nat × Value)} {st : List Value} (hX : Amb X Γ cc own nL ret d) {a : Nat} {i : Int32} (hin : vp_in i (lnZ a)) (hd : decode cc pc = .ok (.baload, 1)) (pc2 : Nat) (hp : pc + 1 = pc2) (kk : Zw X Γ nL r s pc2 lv (.int (s.1 a i.toNatClampNeg) :: st)) : Zw X Γ nL r s pc lv (.int i :: .ref (gL Γ a) :: st) := by
  subst hp
  exact fun H locs ls hP hS h3 => va_zald (D := gD Γ) (cl := cls) (tys := tys Γ) hX.1 hX.2.1 hX.2.2.2.2.2.1.1 hP.1 a 2 (by rw [wl_get (kd_lt (lnZ_k hin).1 (by decide)), ent_10 (lnZ_k hin).1]) rfl (lnZ_k hin).2 hd (kk H locs ls hP hS h3)
theorem z_iast {X : Cx} {Γ : Gm} {cc : ByteArray} {own : String} {nL : Nat} {ret : Option FieldType} {d : Nat} {r : Option Value × St} {s : St} {pc : Nat} {lv : List (Nat × Value)} {st : List Value} (hX : Amb X Γ cc own nL ret d) {a : Nat} {i x : Int32} {s2 : St} (hin : vp_in i (lnI a)) (hd : decode cc pc = .ok (.iastore, 1)) (e : s2 = wI s a i.toNatClampNeg x) (pc2 : Nat) (hp : pc + 1 = pc2) (kk : Zw X Γ nL r s2 pc2 lv (st)) : Zw X Γ nL r s pc lv (.int x :: .int i :: .ref (gL Γ a) :: st) := by
  subst hp
  subst e
  intro H locs ls hP hS h3
  have h9 := (lnI_k hin).1
  exact va_iast (D := gD Γ) (cl := cls) (tys := tys Γ) hX.1 hX.2.1 hX.2.2.2.2.2.1.1 hP.1 hP.2 hS a 1 (by rw [wl_get (kd_lt h9 (by decide)), ent_9 h9]) rfl (lnI_k hin).2 hd (fun H1 locs1 p1 p2 p3 => kk H1 locs1 ls (by
    rw [wl_set (s' := wI s a i.toNatClampNeg x) (kd_lt h9 (by decide)) (by rw [ent_9 h9, wI_k]) wI_o] at p1 p2
    exact ⟨p1, p2⟩) p3 h3)
theorem z_bast {X : Cx} {Γ : Gm} {cc : ByteArray} {own : String} {nL : Nat} {ret : Option FieldType} {d : Nat} {r : Option Value × St} {s : St} {pc : Nat} {lv : List (Nat × Value)} {st : List Value} (hX : Amb X Γ cc own nL ret d) {a : Nat} {i x : Int32} {s2 : St} (hin : vp_in i (lnB a)) (hd : decode cc pc = .ok (.bastore, 1)) (e : s2 = wI s a i.toNatClampNeg (vp_nar .byte x)) (pc2 : Nat) (hp : pc + 1 = pc2) (kk : Zw X Γ nL r s2 pc2 lv (st)) : Zw X Γ nL r s pc lv (.int x :: .int i :: .ref (gL Γ a) :: st) := by
  subst hp
  subst e
  intro H locs ls hP hS h3
  have h9 := (lnB_k hin).1
  exact va_bast (D := gD Γ) (cl := cls) (tys := tys Γ) hX.1 hX.2.1 hX.2.2.2.2.2.1.1 hP.1 hP.2 hS a 0 (by rw [wl_get (kd_lt h9 (by decide)), ent_8 h9]) rfl (lnB_k hin).2 hd (fun H1 locs1 p1 p2 p3 => kk H1 locs1 ls (by
    rw [wl_set (s' := wI s a i.toNatClampNeg (vp_nar .byte x)) (kd_lt h9 (by decide)) (by rw [ent_8 h9, wI_k]) wI_o] at p1 p2
    exact ⟨p1, p2⟩) p3 h3)
theorem z_zast {X : Cx} {Γ : Gm} {cc : ByteArray} {own : String} {nL : Nat} {ret : Option FieldType} {d : Nat} {r : Option Value × St} {s : St} {pc : Nat} {lv : List (Nat × Value)} {st : List Value} (hX : Amb X Γ cc own nL ret d) {a : Nat} {i x : Int32} {s2 : St} (hin : vp_in i (lnZ a)) (hd : decode cc pc = .ok (.bastore, 1)) (e : s2 = wI s a i.toNatClampNeg (vp_nar .boolean x)) (pc2 : Nat) (hp : pc + 1 = pc2) (kk : Zw X Γ nL r s2 pc2 lv (st)) : Zw X Γ nL r s pc lv (.int x :: .int i :: .ref (gL Γ a) :: st) := by
  subst hp
  subst e
  intro H locs ls hP hS h3
  have h9 := (lnZ_k hin).1
  exact va_zast (D := gD Γ) (cl := cls) (tys := tys Γ) hX.1 hX.2.1 hX.2.2.2.2.2.1.1 hP.1 hP.2 hS a 2 (by rw [wl_get (kd_lt h9 (by decide)), ent_10 h9]) rfl (lnZ_k hin).2 hd (fun H1 locs1 p1 p2 p3 => kk H1 locs1 ls (by
    rw [wl_set (s' := wI s a i.toNatClampNeg (vp_nar .boolean x)) (kd_lt h9 (by decide)) (by rw [ent_10 h9, wI_k]) wI_o] at p1 p2
    exact ⟨p1, p2⟩) p3 h3)
theorem ent_11 {Γ : Gm} {s : St} {k : Nat} (h : kd k = 11) : ent Γ s k = .inl (gC Γ 11, ln k, .inr (.inr (.inr (.inr (fun j => some (gL Γ (k + 111 + 19 * j))))))) := by unfold ent; rw [h]; rfl
theorem z_aald11 {X : Cx} {Γ : Gm} {cc : ByteArray} {own : String} {nL : Nat} {ret : Option FieldType} {d : Nat} {r : Option Value × St} {s : St} {pc : Nat} {lv : List (Nat × Value)} {st : List Value} (hX : Amb X Γ cc own nL ret d) {a : Nat} {i : Int32} (h : kd a = 11) (hin : vp_in i (ln a)) (hd : decode cc pc = .ok (.aaload, 1)) (pc2 : Nat) (hp : pc + 1 = pc2) (kk : Zw X Γ nL r s pc2 lv (.ref (gL Γ (a + 111 + 19 * i.toNatClampNeg)) :: st)) : Zw X Γ nL r s pc lv (.int i :: .ref (gL Γ a) :: st) := by
  subst hp
  exact fun H locs ls hP hS h3 => va_aldq (D := gD Γ) (cl := cls) (tys := tys Γ) hX.1 hX.2.1 hX.2.2.2.2.2.1.1 hP.1 a 3 (f := fun j => some (gL Γ (a + 111 + 19 * j))) (by rw [wl_get (kd_lt h (by decide)), ent_11 h]) rfl hin hd (kk H locs ls hP hS h3)
theorem ent_12 {Γ : Gm} {s : St} {k : Nat} (h : kd k = 12) : ent Γ s k = .inl (gC Γ 12, ln k, .inr (.inr (.inr (.inr (fun j => some (gL Γ (k + 1 + 13 * j))))))) := by unfold ent; rw [h]; rfl
theorem z_aald12 {X : Cx} {Γ : Gm} {cc : ByteArray} {own : String} {nL : Nat} {ret : Option FieldType} {d : Nat} {r : Option Value × St} {s : St} {pc : Nat} {lv : List (Nat × Value)} {st : List Value} (hX : Amb X Γ cc own nL ret d) {a : Nat} {i : Int32} (h : kd a = 12) (hin : vp_in i (ln a)) (hd : decode cc pc = .ok (.aaload, 1)) (pc2 : Nat) (hp : pc + 1 = pc2) (kk : Zw X Γ nL r s pc2 lv (.ref (gL Γ (a + 1 + 13 * i.toNatClampNeg)) :: st)) : Zw X Γ nL r s pc lv (.int i :: .ref (gL Γ a) :: st) := by
  subst hp
  exact fun H locs ls hP hS h3 => va_aldq (D := gD Γ) (cl := cls) (tys := tys Γ) hX.1 hX.2.1 hX.2.2.2.2.2.1.1 hP.1 a 4 (f := fun j => some (gL Γ (a + 1 + 13 * j))) (by rw [wl_get (kd_lt h (by decide)), ent_12 h]) rfl hin hd (kk H locs ls hP hS h3)
theorem ent_13 {Γ : Gm} {s : St} {k : Nat} (h : kd k = 13) : ent Γ s k = .inl (gC Γ 13, ln k, .inr (.inr (.inr (.inr (fun j => some (gL Γ (k + 146 + 2 * j))))))) := by unfold ent; rw [h]; rfl
theorem z_aald13 {X : Cx} {Γ : Gm} {cc : ByteArray} {own : String} {nL : Nat} {ret : Option FieldType} {d : Nat} {r : Option Value × St} {s : St} {pc : Nat} {lv : List (Nat × Value)} {st : List Value} (hX : Amb X Γ cc own nL ret d) {a : Nat} {i : Int32} (h : kd a = 13) (hin : vp_in i (ln a)) (hd : decode cc pc = .ok (.aaload, 1)) (pc2 : Nat) (hp : pc + 1 = pc2) (kk : Zw X Γ nL r s pc2 lv (.ref (gL Γ (a + 146 + 2 * i.toNatClampNeg)) :: st)) : Zw X Γ nL r s pc lv (.int i :: .ref (gL Γ a) :: st) := by
  subst hp
  exact fun H locs ls hP hS h3 => va_aldq (D := gD Γ) (cl := cls) (tys := tys Γ) hX.1 hX.2.1 hX.2.2.2.2.2.1.1 hP.1 a 5 (f := fun j => some (gL Γ (a + 146 + 2 * j))) (by rw [wl_get (kd_lt h (by decide)), ent_13 h]) rfl hin hd (kk H locs ls hP hS h3)
theorem z_alenI {X : Cx} {Γ : Gm} {cc : ByteArray} {own : String} {nL : Nat} {ret : Option FieldType} {d : Nat} {r : Option Value × St} {s : St} {pc : Nat} {lv : List (Nat × Value)} {st : List Value} (hX : Amb X Γ cc own nL ret d) {a : Nat} (h : kd a = 9) (hd : decode cc pc = .ok (.arraylength, 1)) (pc2 : Nat) (hp : pc + 1 = pc2) (kk : Zw X Γ nL r s pc2 lv (.int (nI (ln a)) :: st)) : Zw X Γ nL r s pc lv (.ref (gL Γ a) :: st) := by
  subst hp
  exact fun H locs ls hP hS h3 => va_alen (D := gD Γ) (cl := cls) (tys := tys Γ) hX.1 hX.2.1 hX.2.2.2.2.2.1.1 hP.1 a 1 (x := (ln a, .inl (s.1 a))) (by rw [wl_get (kd_lt h (by decide)), ent_9 h]) rfl rfl hd (kk H locs ls hP hS h3)
theorem gt_goodIn {w : Cond} (hw : w ∈ gt) : GoodIn gt (w :: gt) := by
  intro x hx
  have hx' : x ∈ gt := by
    rcases List.mem_cons.mp hx with h | h
    · rw [h]; exact hw
    · exact h
  exact ⟨hx', good_of_word (List.mem_filter.mp hx').2⟩
/-- the words of a call's link -/
def LkV (own : String) (idx : Nat) (y : MethodName) (cc : ByteArray) (nL : Nat) (ret : Option FieldType) : Prop := Cond.methodLink own idx y ∈ gt ∧ Cond.instanceMethod y ∈ gt ∧ Cond.selects y.cls y y ∈ gt ∧ Cond.initialized y.cls ∈ gt ∧ Cond.code y cc nL ret ∈ gt
def LkS (own : String) (idx : Nat) (y : MethodName) (cc : ByteArray) (nL : Nat) (ret : Option FieldType) : Prop := Cond.methodLink own idx y ∈ gt ∧ Cond.static y ∈ gt ∧ Cond.initialized y.cls ∈ gt ∧ Cond.code y cc nL ret ∈ gt
def LkN (own : String) (idx : Nat) (y : MethodName) (cc : ByteArray) (nL : Nat) (ret : Option FieldType) : Prop := Cond.methodLinkNest own idx y "SmokeSeats" ∈ nestW ∧ Cond.static y ∈ gt ∧ Cond.initialized y.cls ∈ gt ∧ Cond.code y cc nL ret ∈ gt
def Ds (y : MethodName) (n : Nat) : Prop := y.cls ≠ "java/lang/invoke/MethodHandle" ∧ y.cls ≠ "java/lang/invoke/VarHandle" ∧ (parseMethodDescriptor y.desc).map (fun d => d.parameters.length) = some n
theorem Pc_blind {Γ : Gm} {s : St} {args : List Value} : FrameBlind (va_Pc args (fun U => hp Γ s U.heap ∧ Ag Γ U U.heap)) := fun a U g mk q => ⟨q.1, q.2.1, Ag.same (u := U) (U := U.calling g mk a) rfl rfl q.2.2⟩
theorem z_run {X : Cx} {Γ : Gm} {nL : Nat} {r : Option Value × St} {s2 : St} {v : Option Value} {pc : Nat} {lv : List (Nat × Value)} {st st0 : List Value} {a : Array Value} {H : Heap} {locs : List Loc} {ls : Array Slot} (hl : lv_has ls nL lv) (hS : va_S (gA Γ) (xs X).heap H locs)
    (hr : va_Run (xp X) (xl X) (xe X) (xR X) (xs X) (xm X) (xa X) (xb X) (xM X) (xc X) H locs 0 0 0 0 (F0 (xm X) pc ls st0) st (Po Γ (v, s2) a) (gA Γ)) (kk : Zw X Γ nL r s2 (pc + 3) lv (v.toList ++ st)) :
    W (xp X) (xl X) (xe X) (xR X) (xs X) (xm X) (xa X) (xb X) (xM X) (xc X) H locs 0 0 (MQ (xb X) (Po Γ r) (xa X) (xs X) 0 0 (gA Γ)) (F0 (xm X) pc ls st0) := by
  intro T hT XX
  obtain ⟨v', st₀, t, T', L, h0, X', hL, e1, e2, ⟨⟨hv, hP⟩, hz, hk⟩, stp⟩ := hr T hT XX
  cases hv
  rw [h0] at hz hk
  obtain ⟨t2, a1, b1⟩ := kk T'.heap (locs ++ L) ls (by rw [e1]; exact hP)
    ⟨Nat.le_trans hS.1 (by rw [e1]; exact hz), fun q h1 h2 => by rw [e1, hk q (Nat.lt_of_lt_of_le h1 hS.1) h2]; exact hS.2.1 q h1 h2, fun q hq => by
      rcases List.mem_append.mp hq with h | h
      · exact hS.2.2 q h
      · exact hL q h⟩ hl T' rfl X'
  exact ⟨t2, stp t2 a1, b1⟩
theorem rmd_ok {d e n : Nat} (h : e + 1 ≤ d) (hn : n ≤ 81) : (rmd e).frames + 1 ≤ (rmd d).frames ∧ 8 + (n + 11) + (rmd e).locals ≤ (rmd d).locals := by
  unfold rmd; dsimp only; omega
theorem pre_at {X : Cx} {Γ : Gm} {s : St} {H : Heap} {locs : List Loc} {args : List Value} (hA : Ag Γ (xs X) (xs X).heap) (hP : hp Γ s H) (hS : va_S (gA Γ) (xs X).heap H locs) : ∀ U : State, U.heap = H → (xs X).WarmedH U.vm → va_Pc args (fun U => hp Γ s U.heap ∧ Ag Γ U U.heap) args.toArray U := fun U hU hW => ⟨rfl, by rw [hU]; exact hP, by rw [hU]; exact hA.to hW hS.2.1⟩
theorem z_callV {X : Cx} {Γ : Gm} {cc : ByteArray} {own : String} {nL : Nat} {ret : Option FieldType} {d : Nat} {r : Option Value × St} {s : St} {pc : Nat} {lv : List (Nat × Value)} {st : List Value} (hX : Amb X Γ cc own nL ret d) {y : MethodName} {cc2 : ByteArray} {nL2 n d2 idx : Nat} {ret2 : Option FieldType} {As : List Value} {v : Option Value} {s2 : St} {b ci N : Nat} {T : u_T} {fs : List Value} (hM : Ct (xl X) Γ y cc2 nL2 ret2 d2 (.ref (gL Γ b) :: As) s (v, s2)) (hlk : LkV own idx y cc2 nL2 ret2) (hy : Ds y n) (hn : As.length = n) (hR : d2 + 1 ≤ d) (hL : nL2 ≤ 81) (hb : b < 201) (he : ent Γ s b = .inr (ci, fs)) (hc : cls[ci]? = some (y.cls, T, N)) (hst : (st.map fun v => v.category).sum ≤ 8) (hd : decode cc pc = .ok (.invokevirtual idx, 3)) (pc2 : Nat) (hp : pc + 3 = pc2) (kk : Zw X Γ nL r s2 pc2 lv (v.toList ++ st)) : Zw X Γ nL r s pc lv (As.reverse ++ .ref (gL Γ b) :: st) := by
  subst hp
  obtain ⟨k1, k2, k3, k4, k5⟩ := hlk
  have hX' := hX
  obtain ⟨hx, hb', hml, hown, hts, hA, -, -, hRR⟩ := hX
  intro H locs ls hP hS hl
  have hCB : CallB (xR X) (xs X) (xa X) own idx y cc2 nL2 ret2 (Cond.code y cc2 nL2 ret2 :: gt) (rmd d2) 0 0 n := callB_of n hts (gt_goodIn k5) rfl rfl rfl (hts _ k4) (hts _ k1) hy (by rw [hRR]; exact rmd_ok hR hL)
  refine z_run hl hS (va_runV (C := y.cls) (b := gL Γ b) (As := As) (rest := st) ⟨hx, hb', hml, hown, hts⟩ hM ⟨hCB, hts _ k2, hts _ k3⟩ ⟨Pc_blind, va_recv hA.1 hP.1 (ci := ci) (q0 := b) hc (by rw [wl_get hb, he]), pre_at hA hP hS⟩ rfl hn hl.1 rfl (lv_room hst) hd ⟨Nat.zero_le _, Nat.zero_le _⟩) kk
theorem z_callS {X : Cx} {Γ : Gm} {cc : ByteArray} {own : String} {nL : Nat} {ret : Option FieldType} {d : Nat} {r : Option Value × St} {s : St} {pc : Nat} {lv : List (Nat × Value)} {st : List Value} (hX : Amb X Γ cc own nL ret d) {y : MethodName} {cc2 : ByteArray} {nL2 n d2 idx : Nat} {ret2 : Option FieldType} {As : List Value} {v : Option Value} {s2 : St} (hM : Ct (xl X) Γ y cc2 nL2 ret2 d2 As s (v, s2)) (hlk : LkS own idx y cc2 nL2 ret2) (hy : Ds y n) (hn : As.length = n) (hR : d2 + 1 ≤ d) (hL : nL2 ≤ 81) (hst : (st.map fun v => v.category).sum ≤ 8) (hd : decode cc pc = .ok (.invokestatic idx, 3)) (pc2 : Nat) (hp : pc + 3 = pc2) (kk : Zw X Γ nL r s2 pc2 lv (v.toList ++ st)) : Zw X Γ nL r s pc lv (As.reverse ++ st) := by
  subst hp
  obtain ⟨k1, k2, k4, k5⟩ := hlk
  obtain ⟨hx, hb', hml, hown, hts, hA, -, -, hRR⟩ := hX
  intro H locs ls hP hS hl
  have hCB : CallB (xR X) (xs X) (xa X) own idx y cc2 nL2 ret2 (Cond.code y cc2 nL2 ret2 :: gt) (rmd d2) 0 0 n := callB_of n hts (gt_goodIn k5) rfl rfl rfl (hts _ k4) (hts _ k1) hy (by rw [hRR]; exact rmd_ok hR hL)
  refine z_run hl hS (va_runS (As := As) (rest := st) ⟨hx, hb', hml, hown, hts⟩ hM ⟨hCB, hts _ k2⟩ ⟨Pc_blind, pre_at hA hP hS⟩ rfl hn hl.1 rfl (lv_room hst) hd ⟨Nat.zero_le _, Nat.zero_le _⟩) kk
theorem z_callN {X : Cx} {Γ : Gm} {cc : ByteArray} {own : String} {nL : Nat} {ret : Option FieldType} {d : Nat} {r : Option Value × St} {s : St} {pc : Nat} {lv : List (Nat × Value)} {st : List Value} (hX : Amb X Γ cc own nL ret d) {y : MethodName} {cc2 : ByteArray} {nL2 n d2 idx : Nat} {ret2 : Option FieldType} {As : List Value} {v : Option Value} {s2 : St} (hM : Ct (xl X) Γ y cc2 nL2 ret2 d2 As s (v, s2)) (hlk : LkN own idx y cc2 nL2 ret2) (hy : Ds y n) (hn : As.length = n) (hR : d2 + 1 ≤ d) (hL : nL2 ≤ 81) (hst : (st.map fun v => v.category).sum ≤ 8) (hd : decode cc pc = .ok (.invokestatic idx, 3)) (pc2 : Nat) (hp : pc + 3 = pc2) (kk : Zw X Γ nL r s2 pc2 lv (v.toList ++ st)) : Zw X Γ nL r s pc lv (As.reverse ++ st) := by
  subst hp
  obtain ⟨k1, k2, k4, k5⟩ := hlk
  obtain ⟨hx, hb', hml, hown, hts, hA, -, -, hRR⟩ := hX
  intro H locs ls hP hS hl
  refine z_run hl hS (va_runSN (As := As) (rest := st) ⟨hx, hb', hml, hown, hts⟩ hM ⟨va_cnB n hts (gt_goodIn k5) rfl rfl rfl (hA.2.1 _ k1) (hts _ k4) hy (by rw [hRR]; exact rmd_ok hR hL), hts _ k2, trivial⟩ ⟨Pc_blind, pre_at hA hP hS⟩ rfl hn hl.1 rfl (lv_room hst) hd ⟨Nat.zero_le _, Nat.zero_le _⟩) kk
theorem z_mmin {X : Cx} {Γ : Gm} {cc : ByteArray} {own : String} {nL : Nat} {ret : Option FieldType} {d : Nat} {r : Option Value × St} {s : St} {pc : Nat} {lv : List (Nat × Value)} {st : List Value} (hX : Amb X Γ cc own nL ret d) {idx : Nat} {x y : Int32} (h1 : Cond.methodLink own idx Lib.Math.min.name ∈ gt) (h2 : Cond.static Lib.Math.min.name ∈ gt) (h3 : Cond.initialized "java/lang/Math" ∈ gt) (h4 : Cond.code Lib.Math.min.name Lib.Math.min.code 2 (some .int) ∈ gt) (hR : 1 ≤ d) (hst : (st.map fun v => v.category).sum ≤ 8) (hd : decode cc pc = .ok (.invokestatic idx, 3)) (pc2 : Nat) (hp : pc + 3 = pc2) (kk : Zw X Γ nL r s pc2 lv (.int (if y < x then y else x) :: st)) : Zw X Γ nL r s pc lv (.int y :: .int x :: st) := by
  subst hp
  exact fun H locs ls hP hS hl => va_mmin hX.1 hX.2.1 (hX.2.2.1.trans hl.1.symm) hX.2.2.2.1 (hX.2.2.2.2.1 _ h1) (hX.2.2.2.2.1 _ h2) (hX.2.2.2.2.1 _ h3) (hX.2.2.2.2.1 _ h4) (by rw [hX.2.2.2.2.2.2.2.2]; exact hR) (by rw [hX.2.2.2.2.2.2.2.2]; unfold rmd; dsimp only; omega) (Nat.zero_le _) (Nat.zero_le _) hd (kk H locs ls hP hS hl)
theorem z_mmax {X : Cx} {Γ : Gm} {cc : ByteArray} {own : String} {nL : Nat} {ret : Option FieldType} {d : Nat} {r : Option Value × St} {s : St} {pc : Nat} {lv : List (Nat × Value)} {st : List Value} (hX : Amb X Γ cc own nL ret d) {idx : Nat} {x y : Int32} (h1 : Cond.methodLink own idx Lib.Math.max.name ∈ gt) (h2 : Cond.static Lib.Math.max.name ∈ gt) (h3 : Cond.initialized "java/lang/Math" ∈ gt) (h4 : Cond.code Lib.Math.max.name Lib.Math.max.code 2 (some .int) ∈ gt) (hR : 1 ≤ d) (hst : (st.map fun v => v.category).sum ≤ 8) (hd : decode cc pc = .ok (.invokestatic idx, 3)) (pc2 : Nat) (hp : pc + 3 = pc2) (kk : Zw X Γ nL r s pc2 lv (.int (if x < y then y else x) :: st)) : Zw X Γ nL r s pc lv (.int y :: .int x :: st) := by
  subst hp
  exact fun H locs ls hP hS hl => va_mmax hX.1 hX.2.1 (hX.2.2.1.trans hl.1.symm) hX.2.2.2.1 (hX.2.2.2.2.1 _ h1) (hX.2.2.2.2.1 _ h2) (hX.2.2.2.2.1 _ h3) (hX.2.2.2.2.1 _ h4) (by rw [hX.2.2.2.2.2.2.2.2]; exact hR) (by rw [hX.2.2.2.2.2.2.2.2]; unfold rmd; dsimp only; omega) (Nat.zero_le _) (Nat.zero_le _) hd (kk H locs ls hP hS hl)
theorem z_copy {X : Cx} {Γ : Gm} {cc : ByteArray} {own : String} {nL : Nat} {ret : Option FieldType} {d : Nat} {r : Option Value × St} {s : St} {pc : Nat} {lv : List (Nat × Value)} {st : List Value} (hX : Amb X Γ cc own nL ret d) {idx a0 a1 : Nat} {sp dp n : Int32} {s2 : St} (h1 : Cond.methodLink own idx arraycopyName ∈ gt) (h2 : Cond.native arraycopyName ∈ gt) (h3 : Cond.static arraycopyName ∈ gt) (h4 : Cond.initialized "java/lang/System" ∈ gt) (hR : 1 ≤ d) (hst : (st.map fun v => v.category).sum ≤ 8) (hg : kd a0 = 9 ∧ kd a1 = 9 ∧ ¬ sp < 0 ∧ ¬ dp < 0 ∧ ¬ n < 0 ∧ sp.toNatClampNeg + n.toNatClampNeg ≤ ln a0 ∧ dp.toNatClampNeg + n.toNatClampNeg ≤ ln a1) (hd : decode cc pc = .ok (.invokestatic idx, 3)) (e : s2 = wR s a1 (va_cpy (s.1 a0) (s.1 a1) sp.toNatClampNeg dp.toNatClampNeg n.toNatClampNeg)) (pc2 : Nat) (hp : pc + 3 = pc2) (kk : Zw X Γ nL r s2 pc2 lv (st)) : Zw X Γ nL r s pc lv (.int n :: .int dp :: .ref (gL Γ a1) :: .int sp :: .ref (gL Γ a0) :: st) := by
  subst hp
  subst e
  obtain ⟨g0, g1, g2, g3, g4, g5, g6⟩ := hg
  exact fun H locs ls hP hS hl => va_copyi (D := gD Γ) (cl := cls) (tys := tys Γ) hX.1 hX.2.1 (hX.2.2.1.trans hl.1.symm) hX.2.2.2.1 (hX.2.2.2.2.1 _ h1) (hX.2.2.2.2.1 _ h2) (hX.2.2.2.2.1 _ h3) (hX.2.2.2.2.1 _ h4) hX.2.2.2.2.2.1.1 hP.1 hP.2 hS a0 a1 1 1 (by rw [wl_get (kd_lt g0 (by decide)), ent_9 g0]) (by rw [wl_get (kd_lt g1 (by decide)), ent_9 g1]) rfl rfl rfl g2 g3 g4 g5 g6 (fun _ _ => rfl) (by rw [hX.2.2.2.2.2.2.2.2]; exact hR) (by rw [hX.2.2.2.2.2.2.2.2, show nativeFrameWords "java/lang/System" "arraycopy" 5 = 7 from by decide]; unfold rmd; dsimp only; omega) hd (fun H1 locs1 p1 p2 p3 => kk H1 locs1 ls (by
    rw [wl_set (s' := wR s a1 (va_cpy (s.1 a0) (s.1 a1) sp.toNatClampNeg dp.toNatClampNeg n.toNatClampNeg)) (kd_lt g1 (by decide)) (by rw [ent_9 g1, wR_k]) wR_o] at p1 p2
    exact ⟨p1, p2⟩) p3 hl)
end
section
def Fu : Nat := 1000
def inb (i : Int32) (n : Nat) : Bool := !(decide (i < 0) || decide (n ≤ i.toNatClampNeg))
theorem inb_vp {i : Int32} {n : Nat} (h : inb i n = true) : vp_in i n := by
  unfold inb at h
  intro h2
  rcases h2 with h2 | h2 <;> simp [h2] at h
def bd {α β : Type} (a : α) (f : α → Option β) : Option β := f a
def cl {α β : Type} (o : Option (α × St)) (f : α → St → Option β) : Option β := match o with
  | none => none
  | some q => f q.1 q.2
def ox {α β : Type} (o : Option β) : Option (α ⊕ β) := o.map Sum.inr
def lp {S T : Type} (body : S → Option (S ⊕ T)) : Nat → S → Option T
  | 0, _ => none
  | n + 1, q => match body q with
    | none => none
    | some (Sum.inl q2) => lp body n q2
    | some (Sum.inr t) => some t
theorem gd_elim {c : Prop} [Decidable c] {α : Type} {a : Option α} {t : α} (h : (if c then a else none) = some t) : c ∧ a = some t := by
  by_cases hc : c
  · rw [if_pos hc] at h; exact ⟨hc, h⟩
  · rw [if_neg hc] at h; cases h
theorem br_pos {c : Prop} [Decidable c] {α : Type} {a b : Option α} {t : α} (h : (if c then a else b) = some t) (hc : c) : a = some t := by rwa [if_pos hc] at h
theorem br_neg {c : Prop} [Decidable c] {α : Type} {a b : Option α} {t : α} (h : (if c then a else b) = some t) (hc : ¬ c) : b = some t := by rwa [if_neg hc] at h
theorem bd_elim {α β : Type} {a : α} {f : α → Option β} {t : β} (h : bd a f = some t) : ∃ x, x = a ∧ f x = some t := ⟨a, rfl, h⟩
theorem cl_elim {α β : Type} {o : Option (α × St)} {f : α → St → Option β} {t : β} (h : cl o f = some t) : ∃ v s2, o = some (v, s2) ∧ f v s2 = some t := by
  cases o with
  | none => cases h
  | some q => exact ⟨q.1, q.2, rfl, h⟩
theorem ox_elim {α β : Type} {o : Option β} {t : α ⊕ β} (h : ox o = some t) : ∃ u, t = Sum.inr u ∧ o = some u := by
  cases o with
  | none => cases h
  | some u => cases h; exact ⟨u, rfl, rfl⟩
theorem lp_ok {S T : Type} {body : S → Option (S ⊕ T)} {Z : S → Prop} {K : T → Prop} (hb : ∀ q t, body q = some t → Sum.elim Z K t → Z q) : ∀ (n : Nat) (q : S) (t : T), lp body n q = some t → K t → Z q
  | 0, q, t, h, _ => by cases h
  | n + 1, q, t, h, hk => by
    unfold lp at h
    cases hq : body q with
    | none => rw [hq] at h; cases h
    | some w =>
      rw [hq] at h
      cases w with
      | inl q2 => exact hb q _ hq (lp_ok hb n q2 t h hk)
      | inr t2 => cases h; exact hb q _ hq hk
theorem z_nmR {X : Cx} {Γ : Gm} {nL : Nat} {r : Option Value × St} {s : St} {pc : Nat} {lv : List (Nat × Value)} {st : List Value} {x v : Nat} (e : v = x) (k : Zw X Γ nL r s pc lv (.ref (gL Γ v) :: st)) : Zw X Γ nL r s pc lv (.ref (gL Γ x) :: st) := e ▸ k
theorem z_cV0i {X : Cx} {Γ : Gm} {cc : ByteArray} {own : String} {nL : Nat} {ret : Option FieldType} {d : Nat} {r : Option Value × St} {s : St} {pc : Nat} {lv : List (Nat × Value)} {st st0 : List Value} (hX : Amb X Γ cc own nL ret d) {y : MethodName} {cc2 : ByteArray} {nL2 n d2 idx : Nat} {ret2 : Option FieldType} {As : List Value} {v : Int32} {s2 : St} {b : Nat} (hM : Ct (xl X) Γ y cc2 nL2 ret2 d2 (.ref (gL Γ b) :: As) s ((some (.int v)), s2)) (hlk : LkV own idx y cc2 nL2 ret2) (hyc : y.cls = RX0) (hb : kd b = 0) (hy : Ds y n) (hn : As.length = n) (hR : d2 + 1 ≤ d) (hL : nL2 ≤ 81) (hst : (st.map fun v => v.category).sum ≤ 8) (hd : decode cc pc = .ok (.invokevirtual idx, 3)) (hs : As.reverse ++ .ref (gL Γ b) :: st = st0) (pc2 : Nat) (hp : pc + 3 = pc2) (kk : Zw X Γ nL r s2 pc2 lv (.int v :: st)) : Zw X Γ nL r s pc lv st0 := by
  subst hs
  exact z_callV hX hM hlk hy hn hR hL (kd_lt hb (by decide)) (ent_0 hb) (show cls[0]? = some (y.cls, TX0, 3) by rw [hyc]; rfl) hst hd pc2 hp kk
theorem z_cV1i {X : Cx} {Γ : Gm} {cc : ByteArray} {own : String} {nL : Nat} {ret : Option FieldType} {d : Nat} {r : Option Value × St} {s : St} {pc : Nat} {lv : List (Nat × Value)} {st st0 : List Value} (hX : Amb X Γ cc own nL ret d) {y : MethodName} {cc2 : ByteArray} {nL2 n d2 idx : Nat} {ret2 : Option FieldType} {As : List Value} {v : Int32} {s2 : St} {b : Nat} (hM : Ct (xl X) Γ y cc2 nL2 ret2 d2 (.ref (gL Γ b) :: As) s ((some (.int v)), s2)) (hlk : LkV own idx y cc2 nL2 ret2) (hyc : y.cls = RX1) (hb : kd b = 1) (hy : Ds y n) (hn : As.length = n) (hR : d2 + 1 ≤ d) (hL : nL2 ≤ 81) (hst : (st.map fun v => v.category).sum ≤ 8) (hd : decode cc pc = .ok (.invokevirtual idx, 3)) (hs : As.reverse ++ .ref (gL Γ b) :: st = st0) (pc2 : Nat) (hp : pc + 3 = pc2) (kk : Zw X Γ nL r s2 pc2 lv (.int v :: st)) : Zw X Γ nL r s pc lv st0 := by
  subst hs
  exact z_callV hX hM hlk hy hn hR hL (kd_lt hb (by decide)) (ent_1 hb) (show cls[1]? = some (y.cls, TX1, 7) by rw [hyc]; rfl) hst hd pc2 hp kk
theorem z_cV2i {X : Cx} {Γ : Gm} {cc : ByteArray} {own : String} {nL : Nat} {ret : Option FieldType} {d : Nat} {r : Option Value × St} {s : St} {pc : Nat} {lv : List (Nat × Value)} {st st0 : List Value} (hX : Amb X Γ cc own nL ret d) {y : MethodName} {cc2 : ByteArray} {nL2 n d2 idx : Nat} {ret2 : Option FieldType} {As : List Value} {v : Int32} {s2 : St} {b : Nat} (hM : Ct (xl X) Γ y cc2 nL2 ret2 d2 (.ref (gL Γ b) :: As) s ((some (.int v)), s2)) (hlk : LkV own idx y cc2 nL2 ret2) (hyc : y.cls = RX2) (hb : kd b = 2) (hy : Ds y n) (hn : As.length = n) (hR : d2 + 1 ≤ d) (hL : nL2 ≤ 81) (hst : (st.map fun v => v.category).sum ≤ 8) (hd : decode cc pc = .ok (.invokevirtual idx, 3)) (hs : As.reverse ++ .ref (gL Γ b) :: st = st0) (pc2 : Nat) (hp : pc + 3 = pc2) (kk : Zw X Γ nL r s2 pc2 lv (.int v :: st)) : Zw X Γ nL r s pc lv st0 := by
  subst hs
  exact z_callV hX hM hlk hy hn hR hL (kd_lt hb (by decide)) (ent_2 hb) (show cls[2]? = some (y.cls, TX2, 15) by rw [hyc]; rfl) hst hd pc2 hp kk
theorem z_cV3i {X : Cx} {Γ : Gm} {cc : ByteArray} {own : String} {nL : Nat} {ret : Option FieldType} {d : Nat} {r : Option Value × St} {s : St} {pc : Nat} {lv : List (Nat × Value)} {st st0 : List Value} (hX : Amb X Γ cc own nL ret d) {y : MethodName} {cc2 : ByteArray} {nL2 n d2 idx : Nat} {ret2 : Option FieldType} {As : List Value} {v : Int32} {s2 : St} {b : Nat} (hM : Ct (xl X) Γ y cc2 nL2 ret2 d2 (.ref (gL Γ b) :: As) s ((some (.int v)), s2)) (hlk : LkV own idx y cc2 nL2 ret2) (hyc : y.cls = RX3) (hb : kd b = 3) (hy : Ds y n) (hn : As.length = n) (hR : d2 + 1 ≤ d) (hL : nL2 ≤ 81) (hst : (st.map fun v => v.category).sum ≤ 8) (hd : decode cc pc = .ok (.invokevirtual idx, 3)) (hs : As.reverse ++ .ref (gL Γ b) :: st = st0) (pc2 : Nat) (hp : pc + 3 = pc2) (kk : Zw X Γ nL r s2 pc2 lv (.int v :: st)) : Zw X Γ nL r s pc lv st0 := by
  subst hs
  exact z_callV hX hM hlk hy hn hR hL (kd_lt hb (by decide)) (ent_3 hb) (show cls[3]? = some (y.cls, TX3, 5) by rw [hyc]; rfl) hst hd pc2 hp kk
theorem z_cV4i {X : Cx} {Γ : Gm} {cc : ByteArray} {own : String} {nL : Nat} {ret : Option FieldType} {d : Nat} {r : Option Value × St} {s : St} {pc : Nat} {lv : List (Nat × Value)} {st st0 : List Value} (hX : Amb X Γ cc own nL ret d) {y : MethodName} {cc2 : ByteArray} {nL2 n d2 idx : Nat} {ret2 : Option FieldType} {As : List Value} {v : Int32} {s2 : St} {b : Nat} (hM : Ct (xl X) Γ y cc2 nL2 ret2 d2 (.ref (gL Γ b) :: As) s ((some (.int v)), s2)) (hlk : LkV own idx y cc2 nL2 ret2) (hyc : y.cls = RX4) (hb : kd b = 4) (hy : Ds y n) (hn : As.length = n) (hR : d2 + 1 ≤ d) (hL : nL2 ≤ 81) (hst : (st.map fun v => v.category).sum ≤ 8) (hd : decode cc pc = .ok (.invokevirtual idx, 3)) (hs : As.reverse ++ .ref (gL Γ b) :: st = st0) (pc2 : Nat) (hp : pc + 3 = pc2) (kk : Zw X Γ nL r s2 pc2 lv (.int v :: st)) : Zw X Γ nL r s pc lv st0 := by
  subst hs
  exact z_callV hX hM hlk hy hn hR hL (kd_lt hb (by decide)) (ent_4 hb) (show cls[4]? = some (y.cls, TX4, 3) by rw [hyc]; rfl) hst hd pc2 hp kk
theorem z_cV5i {X : Cx} {Γ : Gm} {cc : ByteArray} {own : String} {nL : Nat} {ret : Option FieldType} {d : Nat} {r : Option Value × St} {s : St} {pc : Nat} {lv : List (Nat × Value)} {st st0 : List Value} (hX : Amb X Γ cc own nL ret d) {y : MethodName} {cc2 : ByteArray} {nL2 n d2 idx : Nat} {ret2 : Option FieldType} {As : List Value} {v : Int32} {s2 : St} {b : Nat} (hM : Ct (xl X) Γ y cc2 nL2 ret2 d2 (.ref (gL Γ b) :: As) s ((some (.int v)), s2)) (hlk : LkV own idx y cc2 nL2 ret2) (hyc : y.cls = RX5) (hb : kd b = 5) (hy : Ds y n) (hn : As.length = n) (hR : d2 + 1 ≤ d) (hL : nL2 ≤ 81) (hst : (st.map fun v => v.category).sum ≤ 8) (hd : decode cc pc = .ok (.invokevirtual idx, 3)) (hs : As.reverse ++ .ref (gL Γ b) :: st = st0) (pc2 : Nat) (hp : pc + 3 = pc2) (kk : Zw X Γ nL r s2 pc2 lv (.int v :: st)) : Zw X Γ nL r s pc lv st0 := by
  subst hs
  exact z_callV hX hM hlk hy hn hR hL (kd_lt hb (by decide)) (ent_5 hb) (show cls[5]? = some (y.cls, TX5, 8) by rw [hyc]; rfl) hst hd pc2 hp kk
theorem z_cV6i {X : Cx} {Γ : Gm} {cc : ByteArray} {own : String} {nL : Nat} {ret : Option FieldType} {d : Nat} {r : Option Value × St} {s : St} {pc : Nat} {lv : List (Nat × Value)} {st st0 : List Value} (hX : Amb X Γ cc own nL ret d) {y : MethodName} {cc2 : ByteArray} {nL2 n d2 idx : Nat} {ret2 : Option FieldType} {As : List Value} {v : Int32} {s2 : St} {b : Nat} (hM : Ct (xl X) Γ y cc2 nL2 ret2 d2 (.ref (gL Γ b) :: As) s ((some (.int v)), s2)) (hlk : LkV own idx y cc2 nL2 ret2) (hyc : y.cls = RX6) (hb : kd b = 6) (hy : Ds y n) (hn : As.length = n) (hR : d2 + 1 ≤ d) (hL : nL2 ≤ 81) (hst : (st.map fun v => v.category).sum ≤ 8) (hd : decode cc pc = .ok (.invokevirtual idx, 3)) (hs : As.reverse ++ .ref (gL Γ b) :: st = st0) (pc2 : Nat) (hp : pc + 3 = pc2) (kk : Zw X Γ nL r s2 pc2 lv (.int v :: st)) : Zw X Γ nL r s pc lv st0 := by
  subst hs
  exact z_callV hX hM hlk hy hn hR hL (kd_lt hb (by decide)) (ent_6 hb) (show cls[6]? = some (y.cls, TX6, 9) by rw [hyc]; rfl) hst hd pc2 hp kk
theorem z_cV7i {X : Cx} {Γ : Gm} {cc : ByteArray} {own : String} {nL : Nat} {ret : Option FieldType} {d : Nat} {r : Option Value × St} {s : St} {pc : Nat} {lv : List (Nat × Value)} {st st0 : List Value} (hX : Amb X Γ cc own nL ret d) {y : MethodName} {cc2 : ByteArray} {nL2 n d2 idx : Nat} {ret2 : Option FieldType} {As : List Value} {v : Int32} {s2 : St} {b : Nat} (hM : Ct (xl X) Γ y cc2 nL2 ret2 d2 (.ref (gL Γ b) :: As) s ((some (.int v)), s2)) (hlk : LkV own idx y cc2 nL2 ret2) (hyc : y.cls = RX7) (hb : kd b = 7) (hy : Ds y n) (hn : As.length = n) (hR : d2 + 1 ≤ d) (hL : nL2 ≤ 81) (hst : (st.map fun v => v.category).sum ≤ 8) (hd : decode cc pc = .ok (.invokevirtual idx, 3)) (hs : As.reverse ++ .ref (gL Γ b) :: st = st0) (pc2 : Nat) (hp : pc + 3 = pc2) (kk : Zw X Γ nL r s2 pc2 lv (.int v :: st)) : Zw X Γ nL r s pc lv st0 := by
  subst hs
  exact z_callV hX hM hlk hy hn hR hL (kd_lt hb (by decide)) (ent_7 hb) (show cls[7]? = some (y.cls, TX7, 28) by rw [hyc]; rfl) hst hd pc2 hp kk
theorem z_cSi {X : Cx} {Γ : Gm} {cc : ByteArray} {own : String} {nL : Nat} {ret : Option FieldType} {d : Nat} {r : Option Value × St} {s : St} {pc : Nat} {lv : List (Nat × Value)} {st st0 : List Value} (hX : Amb X Γ cc own nL ret d) {y : MethodName} {cc2 : ByteArray} {nL2 n d2 idx : Nat} {ret2 : Option FieldType} {As : List Value} {v : Int32} {s2 : St} (hM : Ct (xl X) Γ y cc2 nL2 ret2 d2 As s ((some (.int v)), s2)) (hlk : LkS own idx y cc2 nL2 ret2) (hy : Ds y n) (hn : As.length = n) (hR : d2 + 1 ≤ d) (hL : nL2 ≤ 81) (hst : (st.map fun v => v.category).sum ≤ 8) (hd : decode cc pc = .ok (.invokestatic idx, 3)) (hs : As.reverse ++ st = st0) (pc2 : Nat) (hp : pc + 3 = pc2) (kk : Zw X Γ nL r s2 pc2 lv (.int v :: st)) : Zw X Γ nL r s pc lv st0 := by
  subst hs
  exact z_callS hX hM hlk hy hn hR hL hst hd pc2 hp kk
theorem z_cNi {X : Cx} {Γ : Gm} {cc : ByteArray} {own : String} {nL : Nat} {ret : Option FieldType} {d : Nat} {r : Option Value × St} {s : St} {pc : Nat} {lv : List (Nat × Value)} {st st0 : List Value} (hX : Amb X Γ cc own nL ret d) {y : MethodName} {cc2 : ByteArray} {nL2 n d2 idx : Nat} {ret2 : Option FieldType} {As : List Value} {v : Int32} {s2 : St} (hM : Ct (xl X) Γ y cc2 nL2 ret2 d2 As s ((some (.int v)), s2)) (hlk : LkN own idx y cc2 nL2 ret2) (hy : Ds y n) (hn : As.length = n) (hR : d2 + 1 ≤ d) (hL : nL2 ≤ 81) (hst : (st.map fun v => v.category).sum ≤ 8) (hd : decode cc pc = .ok (.invokestatic idx, 3)) (hs : As.reverse ++ st = st0) (pc2 : Nat) (hp : pc + 3 = pc2) (kk : Zw X Γ nL r s2 pc2 lv (.int v :: st)) : Zw X Γ nL r s pc lv st0 := by
  subst hs
  exact z_callN hX hM hlk hy hn hR hL hst hd pc2 hp kk
theorem z_cV0l {X : Cx} {Γ : Gm} {cc : ByteArray} {own : String} {nL : Nat} {ret : Option FieldType} {d : Nat} {r : Option Value × St} {s : St} {pc : Nat} {lv : List (Nat × Value)} {st st0 : List Value} (hX : Amb X Γ cc own nL ret d) {y : MethodName} {cc2 : ByteArray} {nL2 n d2 idx : Nat} {ret2 : Option FieldType} {As : List Value} {v : Int64} {s2 : St} {b : Nat} (hM : Ct (xl X) Γ y cc2 nL2 ret2 d2 (.ref (gL Γ b) :: As) s ((some (.long v)), s2)) (hlk : LkV own idx y cc2 nL2 ret2) (hyc : y.cls = RX0) (hb : kd b = 0) (hy : Ds y n) (hn : As.length = n) (hR : d2 + 1 ≤ d) (hL : nL2 ≤ 81) (hst : (st.map fun v => v.category).sum ≤ 8) (hd : decode cc pc = .ok (.invokevirtual idx, 3)) (hs : As.reverse ++ .ref (gL Γ b) :: st = st0) (pc2 : Nat) (hp : pc + 3 = pc2) (kk : Zw X Γ nL r s2 pc2 lv (.long v :: st)) : Zw X Γ nL r s pc lv st0 := by
  subst hs
  exact z_callV hX hM hlk hy hn hR hL (kd_lt hb (by decide)) (ent_0 hb) (show cls[0]? = some (y.cls, TX0, 3) by rw [hyc]; rfl) hst hd pc2 hp kk
theorem z_cV1l {X : Cx} {Γ : Gm} {cc : ByteArray} {own : String} {nL : Nat} {ret : Option FieldType} {d : Nat} {r : Option Value × St} {s : St} {pc : Nat} {lv : List (Nat × Value)} {st st0 : List Value} (hX : Amb X Γ cc own nL ret d) {y : MethodName} {cc2 : ByteArray} {nL2 n d2 idx : Nat} {ret2 : Option FieldType} {As : List Value} {v : Int64} {s2 : St} {b : Nat} (hM : Ct (xl X) Γ y cc2 nL2 ret2 d2 (.ref (gL Γ b) :: As) s ((some (.long v)), s2)) (hlk : LkV own idx y cc2 nL2 ret2) (hyc : y.cls = RX1) (hb : kd b = 1) (hy : Ds y n) (hn : As.length = n) (hR : d2 + 1 ≤ d) (hL : nL2 ≤ 81) (hst : (st.map fun v => v.category).sum ≤ 8) (hd : decode cc pc = .ok (.invokevirtual idx, 3)) (hs : As.reverse ++ .ref (gL Γ b) :: st = st0) (pc2 : Nat) (hp : pc + 3 = pc2) (kk : Zw X Γ nL r s2 pc2 lv (.long v :: st)) : Zw X Γ nL r s pc lv st0 := by
  subst hs
  exact z_callV hX hM hlk hy hn hR hL (kd_lt hb (by decide)) (ent_1 hb) (show cls[1]? = some (y.cls, TX1, 7) by rw [hyc]; rfl) hst hd pc2 hp kk
theorem z_cV2l {X : Cx} {Γ : Gm} {cc : ByteArray} {own : String} {nL : Nat} {ret : Option FieldType} {d : Nat} {r : Option Value × St} {s : St} {pc : Nat} {lv : List (Nat × Value)} {st st0 : List Value} (hX : Amb X Γ cc own nL ret d) {y : MethodName} {cc2 : ByteArray} {nL2 n d2 idx : Nat} {ret2 : Option FieldType} {As : List Value} {v : Int64} {s2 : St} {b : Nat} (hM : Ct (xl X) Γ y cc2 nL2 ret2 d2 (.ref (gL Γ b) :: As) s ((some (.long v)), s2)) (hlk : LkV own idx y cc2 nL2 ret2) (hyc : y.cls = RX2) (hb : kd b = 2) (hy : Ds y n) (hn : As.length = n) (hR : d2 + 1 ≤ d) (hL : nL2 ≤ 81) (hst : (st.map fun v => v.category).sum ≤ 8) (hd : decode cc pc = .ok (.invokevirtual idx, 3)) (hs : As.reverse ++ .ref (gL Γ b) :: st = st0) (pc2 : Nat) (hp : pc + 3 = pc2) (kk : Zw X Γ nL r s2 pc2 lv (.long v :: st)) : Zw X Γ nL r s pc lv st0 := by
  subst hs
  exact z_callV hX hM hlk hy hn hR hL (kd_lt hb (by decide)) (ent_2 hb) (show cls[2]? = some (y.cls, TX2, 15) by rw [hyc]; rfl) hst hd pc2 hp kk
theorem z_cV3l {X : Cx} {Γ : Gm} {cc : ByteArray} {own : String} {nL : Nat} {ret : Option FieldType} {d : Nat} {r : Option Value × St} {s : St} {pc : Nat} {lv : List (Nat × Value)} {st st0 : List Value} (hX : Amb X Γ cc own nL ret d) {y : MethodName} {cc2 : ByteArray} {nL2 n d2 idx : Nat} {ret2 : Option FieldType} {As : List Value} {v : Int64} {s2 : St} {b : Nat} (hM : Ct (xl X) Γ y cc2 nL2 ret2 d2 (.ref (gL Γ b) :: As) s ((some (.long v)), s2)) (hlk : LkV own idx y cc2 nL2 ret2) (hyc : y.cls = RX3) (hb : kd b = 3) (hy : Ds y n) (hn : As.length = n) (hR : d2 + 1 ≤ d) (hL : nL2 ≤ 81) (hst : (st.map fun v => v.category).sum ≤ 8) (hd : decode cc pc = .ok (.invokevirtual idx, 3)) (hs : As.reverse ++ .ref (gL Γ b) :: st = st0) (pc2 : Nat) (hp : pc + 3 = pc2) (kk : Zw X Γ nL r s2 pc2 lv (.long v :: st)) : Zw X Γ nL r s pc lv st0 := by
  subst hs
  exact z_callV hX hM hlk hy hn hR hL (kd_lt hb (by decide)) (ent_3 hb) (show cls[3]? = some (y.cls, TX3, 5) by rw [hyc]; rfl) hst hd pc2 hp kk
theorem z_cV4l {X : Cx} {Γ : Gm} {cc : ByteArray} {own : String} {nL : Nat} {ret : Option FieldType} {d : Nat} {r : Option Value × St} {s : St} {pc : Nat} {lv : List (Nat × Value)} {st st0 : List Value} (hX : Amb X Γ cc own nL ret d) {y : MethodName} {cc2 : ByteArray} {nL2 n d2 idx : Nat} {ret2 : Option FieldType} {As : List Value} {v : Int64} {s2 : St} {b : Nat} (hM : Ct (xl X) Γ y cc2 nL2 ret2 d2 (.ref (gL Γ b) :: As) s ((some (.long v)), s2)) (hlk : LkV own idx y cc2 nL2 ret2) (hyc : y.cls = RX4) (hb : kd b = 4) (hy : Ds y n) (hn : As.length = n) (hR : d2 + 1 ≤ d) (hL : nL2 ≤ 81) (hst : (st.map fun v => v.category).sum ≤ 8) (hd : decode cc pc = .ok (.invokevirtual idx, 3)) (hs : As.reverse ++ .ref (gL Γ b) :: st = st0) (pc2 : Nat) (hp : pc + 3 = pc2) (kk : Zw X Γ nL r s2 pc2 lv (.long v :: st)) : Zw X Γ nL r s pc lv st0 := by
  subst hs
  exact z_callV hX hM hlk hy hn hR hL (kd_lt hb (by decide)) (ent_4 hb) (show cls[4]? = some (y.cls, TX4, 3) by rw [hyc]; rfl) hst hd pc2 hp kk
theorem z_cV5l {X : Cx} {Γ : Gm} {cc : ByteArray} {own : String} {nL : Nat} {ret : Option FieldType} {d : Nat} {r : Option Value × St} {s : St} {pc : Nat} {lv : List (Nat × Value)} {st st0 : List Value} (hX : Amb X Γ cc own nL ret d) {y : MethodName} {cc2 : ByteArray} {nL2 n d2 idx : Nat} {ret2 : Option FieldType} {As : List Value} {v : Int64} {s2 : St} {b : Nat} (hM : Ct (xl X) Γ y cc2 nL2 ret2 d2 (.ref (gL Γ b) :: As) s ((some (.long v)), s2)) (hlk : LkV own idx y cc2 nL2 ret2) (hyc : y.cls = RX5) (hb : kd b = 5) (hy : Ds y n) (hn : As.length = n) (hR : d2 + 1 ≤ d) (hL : nL2 ≤ 81) (hst : (st.map fun v => v.category).sum ≤ 8) (hd : decode cc pc = .ok (.invokevirtual idx, 3)) (hs : As.reverse ++ .ref (gL Γ b) :: st = st0) (pc2 : Nat) (hp : pc + 3 = pc2) (kk : Zw X Γ nL r s2 pc2 lv (.long v :: st)) : Zw X Γ nL r s pc lv st0 := by
  subst hs
  exact z_callV hX hM hlk hy hn hR hL (kd_lt hb (by decide)) (ent_5 hb) (show cls[5]? = some (y.cls, TX5, 8) by rw [hyc]; rfl) hst hd pc2 hp kk
theorem z_cV6l {X : Cx} {Γ : Gm} {cc : ByteArray} {own : String} {nL : Nat} {ret : Option FieldType} {d : Nat} {r : Option Value × St} {s : St} {pc : Nat} {lv : List (Nat × Value)} {st st0 : List Value} (hX : Amb X Γ cc own nL ret d) {y : MethodName} {cc2 : ByteArray} {nL2 n d2 idx : Nat} {ret2 : Option FieldType} {As : List Value} {v : Int64} {s2 : St} {b : Nat} (hM : Ct (xl X) Γ y cc2 nL2 ret2 d2 (.ref (gL Γ b) :: As) s ((some (.long v)), s2)) (hlk : LkV own idx y cc2 nL2 ret2) (hyc : y.cls = RX6) (hb : kd b = 6) (hy : Ds y n) (hn : As.length = n) (hR : d2 + 1 ≤ d) (hL : nL2 ≤ 81) (hst : (st.map fun v => v.category).sum ≤ 8) (hd : decode cc pc = .ok (.invokevirtual idx, 3)) (hs : As.reverse ++ .ref (gL Γ b) :: st = st0) (pc2 : Nat) (hp : pc + 3 = pc2) (kk : Zw X Γ nL r s2 pc2 lv (.long v :: st)) : Zw X Γ nL r s pc lv st0 := by
  subst hs
  exact z_callV hX hM hlk hy hn hR hL (kd_lt hb (by decide)) (ent_6 hb) (show cls[6]? = some (y.cls, TX6, 9) by rw [hyc]; rfl) hst hd pc2 hp kk
theorem z_cV7l {X : Cx} {Γ : Gm} {cc : ByteArray} {own : String} {nL : Nat} {ret : Option FieldType} {d : Nat} {r : Option Value × St} {s : St} {pc : Nat} {lv : List (Nat × Value)} {st st0 : List Value} (hX : Amb X Γ cc own nL ret d) {y : MethodName} {cc2 : ByteArray} {nL2 n d2 idx : Nat} {ret2 : Option FieldType} {As : List Value} {v : Int64} {s2 : St} {b : Nat} (hM : Ct (xl X) Γ y cc2 nL2 ret2 d2 (.ref (gL Γ b) :: As) s ((some (.long v)), s2)) (hlk : LkV own idx y cc2 nL2 ret2) (hyc : y.cls = RX7) (hb : kd b = 7) (hy : Ds y n) (hn : As.length = n) (hR : d2 + 1 ≤ d) (hL : nL2 ≤ 81) (hst : (st.map fun v => v.category).sum ≤ 8) (hd : decode cc pc = .ok (.invokevirtual idx, 3)) (hs : As.reverse ++ .ref (gL Γ b) :: st = st0) (pc2 : Nat) (hp : pc + 3 = pc2) (kk : Zw X Γ nL r s2 pc2 lv (.long v :: st)) : Zw X Γ nL r s pc lv st0 := by
  subst hs
  exact z_callV hX hM hlk hy hn hR hL (kd_lt hb (by decide)) (ent_7 hb) (show cls[7]? = some (y.cls, TX7, 28) by rw [hyc]; rfl) hst hd pc2 hp kk
theorem z_cSl {X : Cx} {Γ : Gm} {cc : ByteArray} {own : String} {nL : Nat} {ret : Option FieldType} {d : Nat} {r : Option Value × St} {s : St} {pc : Nat} {lv : List (Nat × Value)} {st st0 : List Value} (hX : Amb X Γ cc own nL ret d) {y : MethodName} {cc2 : ByteArray} {nL2 n d2 idx : Nat} {ret2 : Option FieldType} {As : List Value} {v : Int64} {s2 : St} (hM : Ct (xl X) Γ y cc2 nL2 ret2 d2 As s ((some (.long v)), s2)) (hlk : LkS own idx y cc2 nL2 ret2) (hy : Ds y n) (hn : As.length = n) (hR : d2 + 1 ≤ d) (hL : nL2 ≤ 81) (hst : (st.map fun v => v.category).sum ≤ 8) (hd : decode cc pc = .ok (.invokestatic idx, 3)) (hs : As.reverse ++ st = st0) (pc2 : Nat) (hp : pc + 3 = pc2) (kk : Zw X Γ nL r s2 pc2 lv (.long v :: st)) : Zw X Γ nL r s pc lv st0 := by
  subst hs
  exact z_callS hX hM hlk hy hn hR hL hst hd pc2 hp kk
theorem z_cNl {X : Cx} {Γ : Gm} {cc : ByteArray} {own : String} {nL : Nat} {ret : Option FieldType} {d : Nat} {r : Option Value × St} {s : St} {pc : Nat} {lv : List (Nat × Value)} {st st0 : List Value} (hX : Amb X Γ cc own nL ret d) {y : MethodName} {cc2 : ByteArray} {nL2 n d2 idx : Nat} {ret2 : Option FieldType} {As : List Value} {v : Int64} {s2 : St} (hM : Ct (xl X) Γ y cc2 nL2 ret2 d2 As s ((some (.long v)), s2)) (hlk : LkN own idx y cc2 nL2 ret2) (hy : Ds y n) (hn : As.length = n) (hR : d2 + 1 ≤ d) (hL : nL2 ≤ 81) (hst : (st.map fun v => v.category).sum ≤ 8) (hd : decode cc pc = .ok (.invokestatic idx, 3)) (hs : As.reverse ++ st = st0) (pc2 : Nat) (hp : pc + 3 = pc2) (kk : Zw X Γ nL r s2 pc2 lv (.long v :: st)) : Zw X Γ nL r s pc lv st0 := by
  subst hs
  exact z_callN hX hM hlk hy hn hR hL hst hd pc2 hp kk
theorem z_cV0v {X : Cx} {Γ : Gm} {cc : ByteArray} {own : String} {nL : Nat} {ret : Option FieldType} {d : Nat} {r : Option Value × St} {s : St} {pc : Nat} {lv : List (Nat × Value)} {st st0 : List Value} (hX : Amb X Γ cc own nL ret d) {y : MethodName} {cc2 : ByteArray} {nL2 n d2 idx : Nat} {ret2 : Option FieldType} {As : List Value}  {s2 : St} {b : Nat} (hM : Ct (xl X) Γ y cc2 nL2 ret2 d2 (.ref (gL Γ b) :: As) s (none, s2)) (hlk : LkV own idx y cc2 nL2 ret2) (hyc : y.cls = RX0) (hb : kd b = 0) (hy : Ds y n) (hn : As.length = n) (hR : d2 + 1 ≤ d) (hL : nL2 ≤ 81) (hst : (st.map fun v => v.category).sum ≤ 8) (hd : decode cc pc = .ok (.invokevirtual idx, 3)) (hs : As.reverse ++ .ref (gL Γ b) :: st = st0) (pc2 : Nat) (hp : pc + 3 = pc2) (kk : Zw X Γ nL r s2 pc2 lv (st)) : Zw X Γ nL r s pc lv st0 := by
  subst hs
  exact z_callV hX hM hlk hy hn hR hL (kd_lt hb (by decide)) (ent_0 hb) (show cls[0]? = some (y.cls, TX0, 3) by rw [hyc]; rfl) hst hd pc2 hp kk
theorem z_cV1v {X : Cx} {Γ : Gm} {cc : ByteArray} {own : String} {nL : Nat} {ret : Option FieldType} {d : Nat} {r : Option Value × St} {s : St} {pc : Nat} {lv : List (Nat × Value)} {st st0 : List Value} (hX : Amb X Γ cc own nL ret d) {y : MethodName} {cc2 : ByteArray} {nL2 n d2 idx : Nat} {ret2 : Option FieldType} {As : List Value}  {s2 : St} {b : Nat} (hM : Ct (xl X) Γ y cc2 nL2 ret2 d2 (.ref (gL Γ b) :: As) s (none, s2)) (hlk : LkV own idx y cc2 nL2 ret2) (hyc : y.cls = RX1) (hb : kd b = 1) (hy : Ds y n) (hn : As.length = n) (hR : d2 + 1 ≤ d) (hL : nL2 ≤ 81) (hst : (st.map fun v => v.category).sum ≤ 8) (hd : decode cc pc = .ok (.invokevirtual idx, 3)) (hs : As.reverse ++ .ref (gL Γ b) :: st = st0) (pc2 : Nat) (hp : pc + 3 = pc2) (kk : Zw X Γ nL r s2 pc2 lv (st)) : Zw X Γ nL r s pc lv st0 := by
  subst hs
  exact z_callV hX hM hlk hy hn hR hL (kd_lt hb (by decide)) (ent_1 hb) (show cls[1]? = some (y.cls, TX1, 7) by rw [hyc]; rfl) hst hd pc2 hp kk
theorem z_cV2v {X : Cx} {Γ : Gm} {cc : ByteArray} {own : String} {nL : Nat} {ret : Option FieldType} {d : Nat} {r : Option Value × St} {s : St} {pc : Nat} {lv : List (Nat × Value)} {st st0 : List Value} (hX : Amb X Γ cc own nL ret d) {y : MethodName} {cc2 : ByteArray} {nL2 n d2 idx : Nat} {ret2 : Option FieldType} {As : List Value}  {s2 : St} {b : Nat} (hM : Ct (xl X) Γ y cc2 nL2 ret2 d2 (.ref (gL Γ b) :: As) s (none, s2)) (hlk : LkV own idx y cc2 nL2 ret2) (hyc : y.cls = RX2) (hb : kd b = 2) (hy : Ds y n) (hn : As.length = n) (hR : d2 + 1 ≤ d) (hL : nL2 ≤ 81) (hst : (st.map fun v => v.category).sum ≤ 8) (hd : decode cc pc = .ok (.invokevirtual idx, 3)) (hs : As.reverse ++ .ref (gL Γ b) :: st = st0) (pc2 : Nat) (hp : pc + 3 = pc2) (kk : Zw X Γ nL r s2 pc2 lv (st)) : Zw X Γ nL r s pc lv st0 := by
  subst hs
  exact z_callV hX hM hlk hy hn hR hL (kd_lt hb (by decide)) (ent_2 hb) (show cls[2]? = some (y.cls, TX2, 15) by rw [hyc]; rfl) hst hd pc2 hp kk
theorem z_cV3v {X : Cx} {Γ : Gm} {cc : ByteArray} {own : String} {nL : Nat} {ret : Option FieldType} {d : Nat} {r : Option Value × St} {s : St} {pc : Nat} {lv : List (Nat × Value)} {st st0 : List Value} (hX : Amb X Γ cc own nL ret d) {y : MethodName} {cc2 : ByteArray} {nL2 n d2 idx : Nat} {ret2 : Option FieldType} {As : List Value}  {s2 : St} {b : Nat} (hM : Ct (xl X) Γ y cc2 nL2 ret2 d2 (.ref (gL Γ b) :: As) s (none, s2)) (hlk : LkV own idx y cc2 nL2 ret2) (hyc : y.cls = RX3) (hb : kd b = 3) (hy : Ds y n) (hn : As.length = n) (hR : d2 + 1 ≤ d) (hL : nL2 ≤ 81) (hst : (st.map fun v => v.category).sum ≤ 8) (hd : decode cc pc = .ok (.invokevirtual idx, 3)) (hs : As.reverse ++ .ref (gL Γ b) :: st = st0) (pc2 : Nat) (hp : pc + 3 = pc2) (kk : Zw X Γ nL r s2 pc2 lv (st)) : Zw X Γ nL r s pc lv st0 := by
  subst hs
  exact z_callV hX hM hlk hy hn hR hL (kd_lt hb (by decide)) (ent_3 hb) (show cls[3]? = some (y.cls, TX3, 5) by rw [hyc]; rfl) hst hd pc2 hp kk
theorem z_cV4v {X : Cx} {Γ : Gm} {cc : ByteArray} {own : String} {nL : Nat} {ret : Option FieldType} {d : Nat} {r : Option Value × St} {s : St} {pc : Nat} {lv : List (Nat × Value)} {st st0 : List Value} (hX : Amb X Γ cc own nL ret d) {y : MethodName} {cc2 : ByteArray} {nL2 n d2 idx : Nat} {ret2 : Option FieldType} {As : List Value}  {s2 : St} {b : Nat} (hM : Ct (xl X) Γ y cc2 nL2 ret2 d2 (.ref (gL Γ b) :: As) s (none, s2)) (hlk : LkV own idx y cc2 nL2 ret2) (hyc : y.cls = RX4) (hb : kd b = 4) (hy : Ds y n) (hn : As.length = n) (hR : d2 + 1 ≤ d) (hL : nL2 ≤ 81) (hst : (st.map fun v => v.category).sum ≤ 8) (hd : decode cc pc = .ok (.invokevirtual idx, 3)) (hs : As.reverse ++ .ref (gL Γ b) :: st = st0) (pc2 : Nat) (hp : pc + 3 = pc2) (kk : Zw X Γ nL r s2 pc2 lv (st)) : Zw X Γ nL r s pc lv st0 := by
  subst hs
  exact z_callV hX hM hlk hy hn hR hL (kd_lt hb (by decide)) (ent_4 hb) (show cls[4]? = some (y.cls, TX4, 3) by rw [hyc]; rfl) hst hd pc2 hp kk
theorem z_cV5v {X : Cx} {Γ : Gm} {cc : ByteArray} {own : String} {nL : Nat} {ret : Option FieldType} {d : Nat} {r : Option Value × St} {s : St} {pc : Nat} {lv : List (Nat × Value)} {st st0 : List Value} (hX : Amb X Γ cc own nL ret d) {y : MethodName} {cc2 : ByteArray} {nL2 n d2 idx : Nat} {ret2 : Option FieldType} {As : List Value}  {s2 : St} {b : Nat} (hM : Ct (xl X) Γ y cc2 nL2 ret2 d2 (.ref (gL Γ b) :: As) s (none, s2)) (hlk : LkV own idx y cc2 nL2 ret2) (hyc : y.cls = RX5) (hb : kd b = 5) (hy : Ds y n) (hn : As.length = n) (hR : d2 + 1 ≤ d) (hL : nL2 ≤ 81) (hst : (st.map fun v => v.category).sum ≤ 8) (hd : decode cc pc = .ok (.invokevirtual idx, 3)) (hs : As.reverse ++ .ref (gL Γ b) :: st = st0) (pc2 : Nat) (hp : pc + 3 = pc2) (kk : Zw X Γ nL r s2 pc2 lv (st)) : Zw X Γ nL r s pc lv st0 := by
  subst hs
  exact z_callV hX hM hlk hy hn hR hL (kd_lt hb (by decide)) (ent_5 hb) (show cls[5]? = some (y.cls, TX5, 8) by rw [hyc]; rfl) hst hd pc2 hp kk
theorem z_cV6v {X : Cx} {Γ : Gm} {cc : ByteArray} {own : String} {nL : Nat} {ret : Option FieldType} {d : Nat} {r : Option Value × St} {s : St} {pc : Nat} {lv : List (Nat × Value)} {st st0 : List Value} (hX : Amb X Γ cc own nL ret d) {y : MethodName} {cc2 : ByteArray} {nL2 n d2 idx : Nat} {ret2 : Option FieldType} {As : List Value}  {s2 : St} {b : Nat} (hM : Ct (xl X) Γ y cc2 nL2 ret2 d2 (.ref (gL Γ b) :: As) s (none, s2)) (hlk : LkV own idx y cc2 nL2 ret2) (hyc : y.cls = RX6) (hb : kd b = 6) (hy : Ds y n) (hn : As.length = n) (hR : d2 + 1 ≤ d) (hL : nL2 ≤ 81) (hst : (st.map fun v => v.category).sum ≤ 8) (hd : decode cc pc = .ok (.invokevirtual idx, 3)) (hs : As.reverse ++ .ref (gL Γ b) :: st = st0) (pc2 : Nat) (hp : pc + 3 = pc2) (kk : Zw X Γ nL r s2 pc2 lv (st)) : Zw X Γ nL r s pc lv st0 := by
  subst hs
  exact z_callV hX hM hlk hy hn hR hL (kd_lt hb (by decide)) (ent_6 hb) (show cls[6]? = some (y.cls, TX6, 9) by rw [hyc]; rfl) hst hd pc2 hp kk
theorem z_cV7v {X : Cx} {Γ : Gm} {cc : ByteArray} {own : String} {nL : Nat} {ret : Option FieldType} {d : Nat} {r : Option Value × St} {s : St} {pc : Nat} {lv : List (Nat × Value)} {st st0 : List Value} (hX : Amb X Γ cc own nL ret d) {y : MethodName} {cc2 : ByteArray} {nL2 n d2 idx : Nat} {ret2 : Option FieldType} {As : List Value}  {s2 : St} {b : Nat} (hM : Ct (xl X) Γ y cc2 nL2 ret2 d2 (.ref (gL Γ b) :: As) s (none, s2)) (hlk : LkV own idx y cc2 nL2 ret2) (hyc : y.cls = RX7) (hb : kd b = 7) (hy : Ds y n) (hn : As.length = n) (hR : d2 + 1 ≤ d) (hL : nL2 ≤ 81) (hst : (st.map fun v => v.category).sum ≤ 8) (hd : decode cc pc = .ok (.invokevirtual idx, 3)) (hs : As.reverse ++ .ref (gL Γ b) :: st = st0) (pc2 : Nat) (hp : pc + 3 = pc2) (kk : Zw X Γ nL r s2 pc2 lv (st)) : Zw X Γ nL r s pc lv st0 := by
  subst hs
  exact z_callV hX hM hlk hy hn hR hL (kd_lt hb (by decide)) (ent_7 hb) (show cls[7]? = some (y.cls, TX7, 28) by rw [hyc]; rfl) hst hd pc2 hp kk
theorem z_cSv {X : Cx} {Γ : Gm} {cc : ByteArray} {own : String} {nL : Nat} {ret : Option FieldType} {d : Nat} {r : Option Value × St} {s : St} {pc : Nat} {lv : List (Nat × Value)} {st st0 : List Value} (hX : Amb X Γ cc own nL ret d) {y : MethodName} {cc2 : ByteArray} {nL2 n d2 idx : Nat} {ret2 : Option FieldType} {As : List Value}  {s2 : St} (hM : Ct (xl X) Γ y cc2 nL2 ret2 d2 As s (none, s2)) (hlk : LkS own idx y cc2 nL2 ret2) (hy : Ds y n) (hn : As.length = n) (hR : d2 + 1 ≤ d) (hL : nL2 ≤ 81) (hst : (st.map fun v => v.category).sum ≤ 8) (hd : decode cc pc = .ok (.invokestatic idx, 3)) (hs : As.reverse ++ st = st0) (pc2 : Nat) (hp : pc + 3 = pc2) (kk : Zw X Γ nL r s2 pc2 lv (st)) : Zw X Γ nL r s pc lv st0 := by
  subst hs
  exact z_callS hX hM hlk hy hn hR hL hst hd pc2 hp kk
theorem z_cNv {X : Cx} {Γ : Gm} {cc : ByteArray} {own : String} {nL : Nat} {ret : Option FieldType} {d : Nat} {r : Option Value × St} {s : St} {pc : Nat} {lv : List (Nat × Value)} {st st0 : List Value} (hX : Amb X Γ cc own nL ret d) {y : MethodName} {cc2 : ByteArray} {nL2 n d2 idx : Nat} {ret2 : Option FieldType} {As : List Value}  {s2 : St} (hM : Ct (xl X) Γ y cc2 nL2 ret2 d2 As s (none, s2)) (hlk : LkN own idx y cc2 nL2 ret2) (hy : Ds y n) (hn : As.length = n) (hR : d2 + 1 ≤ d) (hL : nL2 ≤ 81) (hst : (st.map fun v => v.category).sum ≤ 8) (hd : decode cc pc = .ok (.invokestatic idx, 3)) (hs : As.reverse ++ st = st0) (pc2 : Nat) (hp : pc + 3 = pc2) (kk : Zw X Γ nL r s2 pc2 lv (st)) : Zw X Γ nL r s pc lv st0 := by
  subst hs
  exact z_callN hX hM hlk hy hn hR hL hst hd pc2 hp kk
end
section
theorem fl_X2_9 : Cond.fieldLink RX2 9 (TX2 0).1 (TX2 0).2.1 (TX2 0).2.2.1 ∈ gt := gt_mem (tm1 (List.mem_of_getElem? (i := 30) rfl)) rfl
theorem fl_X2_15 : Cond.fieldLink RX2 15 (TX2 1).1 (TX2 1).2.1 (TX2 1).2.2.1 ∈ gt := gt_mem (tm1 (List.mem_of_getElem? (i := 33) rfl)) rfl
theorem fl_X2_49 : Cond.fieldLink RX2 49 (TX2 12).1 (TX2 12).2.1 (TX2 12).2.2.1 ∈ gt := gt_mem (tm1 (List.mem_of_getElem? (i := 63) rfl)) rfl
theorem ds_X2_held : Ds yX2_held 2 := ⟨by decide +kernel, by decide +kernel, by decide +kernel⟩
theorem lk_X2_70 : LkV RX2 70 yX2_held cX2_held 3 (some .int) := ⟨gt_mem (tm2 (List.mem_of_getElem? (i := 188) rfl)) rfl, gt_mem (tm2 (List.mem_of_getElem? (i := 189) rfl)) rfl, gt_mem (tm2 (List.mem_of_getElem? (i := 190) rfl)) rfl, gt_mem (tm1 (List.mem_of_getElem? (i := 2) rfl)) rfl, gt_mem (tm2 (List.mem_of_getElem? (i := 191) rfl)) rfl⟩
theorem ds_X2_heldBy : Ds yX2_heldBy 1 := ⟨by decide +kernel, by decide +kernel, by decide +kernel⟩
theorem lk_X2_74 : LkV RX2 74 yX2_heldBy cX2_heldBy 4 (some .int) := ⟨gt_mem (tm2 (List.mem_of_getElem? (i := 184) rfl)) rfl, gt_mem (tm2 (List.mem_of_getElem? (i := 185) rfl)) rfl, gt_mem (tm2 (List.mem_of_getElem? (i := 186) rfl)) rfl, gt_mem (tm1 (List.mem_of_getElem? (i := 2) rfl)) rfl, gt_mem (tm2 (List.mem_of_getElem? (i := 187) rfl)) rfl⟩
theorem fl_X2_37 : Cond.fieldLink RX2 37 (TX2 8).1 (TX2 8).2.1 (TX2 8).2.2.1 ∈ gt := gt_mem (tm1 (List.mem_of_getElem? (i := 53) rfl)) rfl
theorem ds_X2_sumOfLives : Ds yX2_sumOfLives 1 := ⟨by decide +kernel, by decide +kernel, by decide +kernel⟩
theorem lk_X2_81 : LkV RX2 81 yX2_sumOfLives cX2_sumOfLives 4 (some .int) := ⟨gt_mem (tm3 (List.mem_of_getElem? (i := 32) rfl)) rfl, gt_mem (tm2 (List.mem_of_getElem? (i := 177) rfl)) rfl, gt_mem (tm2 (List.mem_of_getElem? (i := 178) rfl)) rfl, gt_mem (tm1 (List.mem_of_getElem? (i := 2) rfl)) rfl, gt_mem (tm2 (List.mem_of_getElem? (i := 179) rfl)) rfl⟩
theorem fl_X2_31 : Cond.fieldLink RX2 31 (TX2 6).1 (TX2 6).2.1 (TX2 6).2.2.1 ∈ gt := gt_mem (tm1 (List.mem_of_getElem? (i := 48) rfl)) rfl
theorem fl_X2_52 : Cond.fieldLink RX2 52 (TX2 13).1 (TX2 13).2.1 (TX2 13).2.2.1 ∈ gt := gt_mem (tm1 (List.mem_of_getElem? (i := 64) rfl)) rfl
theorem fl_X2_18 : Cond.fieldLink RX2 18 (TX2 2).1 (TX2 2).2.1 (TX2 2).2.2.1 ∈ gt := gt_mem (tm1 (List.mem_of_getElem? (i := 36) rfl)) rfl
theorem fl_X2_28 : Cond.fieldLink RX2 28 (TX2 5).1 (TX2 5).2.1 (TX2 5).2.2.1 ∈ gt := gt_mem (tm1 (List.mem_of_getElem? (i := 45) rfl)) rfl
theorem ml_X2_106 : Cond.methodLink RX2 106 Lib.Math.min.name ∈ gt := gt_mem (tm3 (List.mem_of_getElem? (i := 45) rfl)) rfl
theorem st_min : Cond.static Lib.Math.min.name ∈ gt := gt_mem (tm3 (List.mem_of_getElem? (i := 46) rfl)) rfl
theorem in_Math : Cond.initialized "java/lang/Math" ∈ gt := gt_mem (tm1 (List.mem_of_getElem? (i := 15) rfl)) rfl
theorem co_min : Cond.code Lib.Math.min.name Lib.Math.min.code 2 (some .int) ∈ gt := gt_mem (tm3 (List.mem_of_getElem? (i := 47) rfl)) rfl
theorem fl_X2_40 : Cond.fieldLink RX2 40 (TX2 9).1 (TX2 9).2.1 (TX2 9).2.2.1 ∈ gt := gt_mem (tm1 (List.mem_of_getElem? (i := 55) rfl)) rfl
theorem fl_X2_25 : Cond.fieldLink RX2 25 (TX2 4).1 (TX2 4).2.1 (TX2 4).2.2.1 ∈ gt := gt_mem (tm1 (List.mem_of_getElem? (i := 42) rfl)) rfl
theorem fl_X2_46 : Cond.fieldLink RX2 46 (TX2 11).1 (TX2 11).2.1 (TX2 11).2.2.1 ∈ gt := gt_mem (tm1 (List.mem_of_getElem? (i := 60) rfl)) rfl
theorem fl_X2_43 : Cond.fieldLink RX2 43 (TX2 10).1 (TX2 10).2.1 (TX2 10).2.2.1 ∈ gt := gt_mem (tm1 (List.mem_of_getElem? (i := 57) rfl)) rfl
theorem fl_X2_34 : Cond.fieldLink RX2 34 (TX2 7).1 (TX2 7).2.1 (TX2 7).2.2.1 ∈ gt := gt_mem (tm1 (List.mem_of_getElem? (i := 51) rfl)) rfl
theorem fl_X2_21 : Cond.fieldLink RX2 21 (TX2 3).1 (TX2 3).2.1 (TX2 3).2.2.1 ∈ gt := gt_mem (tm1 (List.mem_of_getElem? (i := 39) rfl)) rfl
theorem ds_X2_moved : Ds yX2_moved 2 := ⟨by decide +kernel, by decide +kernel, by decide +kernel⟩
theorem lk_X2_111 : LkS RX2 111 yX2_moved cX2_moved 3 (some .int) := ⟨gt_mem (tm3 (List.mem_of_getElem? (i := 56) rfl)) rfl, gt_mem (tm3 (List.mem_of_getElem? (i := 57) rfl)) rfl, gt_mem (tm1 (List.mem_of_getElem? (i := 2) rfl)) rfl, gt_mem (tm3 (List.mem_of_getElem? (i := 58) rfl)) rfl⟩
theorem ds_X2_beside : Ds yX2_beside 2 := ⟨by decide +kernel, by decide +kernel, by decide +kernel⟩
theorem lk_X2_114 : LkS RX2 114 yX2_beside cX2_beside 4 (some .int) := ⟨gt_mem (tm3 (List.mem_of_getElem? (i := 59) rfl)) rfl, gt_mem (tm3 (List.mem_of_getElem? (i := 60) rfl)) rfl, gt_mem (tm1 (List.mem_of_getElem? (i := 2) rfl)) rfl, gt_mem (tm3 (List.mem_of_getElem? (i := 61) rfl)) rfl⟩
theorem ds_X2_give : Ds yX2_give 3 := ⟨by decide +kernel, by decide +kernel, by decide +kernel⟩
theorem lk_X2_117 : LkV RX2 117 yX2_give cX2_give 4 none := ⟨gt_mem (tm3 (List.mem_of_getElem? (i := 62) rfl)) rfl, gt_mem (tm3 (List.mem_of_getElem? (i := 63) rfl)) rfl, gt_mem (tm3 (List.mem_of_getElem? (i := 64) rfl)) rfl, gt_mem (tm1 (List.mem_of_getElem? (i := 2) rfl)) rfl, gt_mem (tm3 (List.mem_of_getElem? (i := 65) rfl)) rfl⟩
theorem ds_X2_tellAll : Ds yX2_tellAll 0 := ⟨by decide +kernel, by decide +kernel, by decide +kernel⟩
theorem lk_X2_96 : LkV RX2 96 yX2_tellAll cX2_tellAll 3 none := ⟨gt_mem (tm3 (List.mem_of_getElem? (i := 41) rfl)) rfl, gt_mem (tm3 (List.mem_of_getElem? (i := 42) rfl)) rfl, gt_mem (tm3 (List.mem_of_getElem? (i := 43) rfl)) rfl, gt_mem (tm1 (List.mem_of_getElem? (i := 2) rfl)) rfl, gt_mem (tm3 (List.mem_of_getElem? (i := 44) rfl)) rfl⟩
theorem ds_X2_takeAll : Ds yX2_takeAll 0 := ⟨by decide +kernel, by decide +kernel, by decide +kernel⟩
theorem lk_X2_99 : LkV RX2 99 yX2_takeAll cX2_takeAll 6 (some .int) := ⟨gt_mem (tm3 (List.mem_of_getElem? (i := 48) rfl)) rfl, gt_mem (tm3 (List.mem_of_getElem? (i := 49) rfl)) rfl, gt_mem (tm3 (List.mem_of_getElem? (i := 50) rfl)) rfl, gt_mem (tm1 (List.mem_of_getElem? (i := 2) rfl)) rfl, gt_mem (tm3 (List.mem_of_getElem? (i := 51) rfl)) rfl⟩
theorem ds_X2_carry : Ds yX2_carry 1 := ⟨by decide +kernel, by decide +kernel, by decide +kernel⟩
theorem lk_X2_102 : LkV RX2 102 yX2_carry cX2_carry 9 none := ⟨gt_mem (tm3 (List.mem_of_getElem? (i := 52) rfl)) rfl, gt_mem (tm3 (List.mem_of_getElem? (i := 53) rfl)) rfl, gt_mem (tm3 (List.mem_of_getElem? (i := 54) rfl)) rfl, gt_mem (tm1 (List.mem_of_getElem? (i := 2) rfl)) rfl, gt_mem (tm3 (List.mem_of_getElem? (i := 55) rfl)) rfl⟩
theorem ds_X2_isOver : Ds yX2_isOver 0 := ⟨by decide +kernel, by decide +kernel, by decide +kernel⟩
theorem lk_X2_85 : LkV RX2 85 yX2_isOver cX2_isOver 1 (some .boolean) := ⟨gt_mem (tm3 (List.mem_of_getElem? (i := 28) rfl)) rfl, gt_mem (tm3 (List.mem_of_getElem? (i := 29) rfl)) rfl, gt_mem (tm3 (List.mem_of_getElem? (i := 30) rfl)) rfl, gt_mem (tm1 (List.mem_of_getElem? (i := 2) rfl)) rfl, gt_mem (tm3 (List.mem_of_getElem? (i := 31) rfl)) rfl⟩
theorem ds_X2_wayNow : Ds yX2_wayNow 0 := ⟨by decide +kernel, by decide +kernel, by decide +kernel⟩
theorem lk_X2_89 : LkV RX2 89 yX2_wayNow cX2_wayNow 1 (some .int) := ⟨gt_mem (tm3 (List.mem_of_getElem? (i := 33) rfl)) rfl, gt_mem (tm3 (List.mem_of_getElem? (i := 34) rfl)) rfl, gt_mem (tm3 (List.mem_of_getElem? (i := 35) rfl)) rfl, gt_mem (tm1 (List.mem_of_getElem? (i := 2) rfl)) rfl, gt_mem (tm3 (List.mem_of_getElem? (i := 36) rfl)) rfl⟩
theorem ds_X2_pass : Ds yX2_pass 1 := ⟨by decide +kernel, by decide +kernel, by decide +kernel⟩
theorem lk_X2_93 : LkV RX2 93 yX2_pass cX2_pass 3 (some .int) := ⟨gt_mem (tm3 (List.mem_of_getElem? (i := 37) rfl)) rfl, gt_mem (tm3 (List.mem_of_getElem? (i := 38) rfl)) rfl, gt_mem (tm3 (List.mem_of_getElem? (i := 39) rfl)) rfl, gt_mem (tm1 (List.mem_of_getElem? (i := 2) rfl)) rfl, gt_mem (tm3 (List.mem_of_getElem? (i := 40) rfl)) rfl⟩
theorem pwI_2_2 (Γ : Gm) (k : Nat) (f : Nat → Int32) (g : Nat → Int64) (x : Int32) : (flds Γ 2 k f g).set 2 (.int x) = flds Γ 2 k (upd f 2 x) g := by simp [flds, entK, upd]
theorem dX2_isLife_0 : decode cX2_isLife 0 = .ok (.iload_n 1, 1) := by decide +kernel
theorem dX2_isLife_1 : decode cX2_isLife 1 = .ok (.ifCond .lt 15, 3) := by decide +kernel
theorem dX2_isLife_4 : decode cX2_isLife 4 = .ok (.iload_n 1, 1) := by decide +kernel
theorem dX2_isLife_5 : decode cX2_isLife 5 = .ok (.aload_n 0, 1) := by decide +kernel
theorem dX2_isLife_6 : decode cX2_isLife 6 = .ok (.getfield 9, 3) := by decide +kernel
theorem dX2_isLife_9 : decode cX2_isLife 9 = .ok (.if_icmp .ge 7, 3) := by decide +kernel
theorem dX2_isLife_12 : decode cX2_isLife 12 = .ok (.iconst 1, 1) := by decide +kernel
theorem dX2_isLife_13 : decode cX2_isLife 13 = .ok (.goto 4, 3) := by decide +kernel
theorem dX2_isLife_16 : decode cX2_isLife 16 = .ok (.iconst 0, 1) := by decide +kernel
theorem dX2_isLife_17 : decode cX2_isLife 17 = .ok (.ireturn, 1) := by decide +kernel
def f_X2_isLife (r : Nat) (a1 : Int32) (s : St) : Option (Int32 × St) := if a1 < 0 then (some (((nI 0), s))) else (if kd (r) = 2 then if (s.1 r 0) ≤ a1 then (some (((nI 0), s))) else (some (((nI 1), s))) else none)
set_option maxHeartbeats 4000000 in
set_option maxRecDepth 100000 in
theorem e_X2_isLife {X : Cx} {Γ : Gm} {r0 : Option Value × St} (hX : Amb X Γ cX2_isLife RX2 2 (some .boolean) 0) {r : Nat} {a1 : Int32} {s : St} {t : Int32 × St} (h : f_X2_isLife r a1 s = some t) (hk : (fun t : Int32 × St => (some (Value.int t.1), t.2) = r0) t) : Zw X Γ 2 r0 s 0 [(0, .ref (gL Γ (r))), (1, .int a1)] [] := by
  unfold f_X2_isLife at h
  refine z_iload_n hX dX2_isLife_0 1 rfl 1 rfl ?_
  refine z_if_lt hX 16 dX2_isLife_1 (by decide) 4 rfl (fun c1 => ?_) (fun c1 => ?_)
  · replace h := br_pos h c1
    refine z_iconst hX (v := (nI 0)) dX2_isLife_16 rfl 17 rfl ?_
    cases h
    exact z_zret hX dX2_isLife_17 rfl (by decide) hk
  · replace h := br_neg h c1
    refine z_iload_n hX dX2_isLife_4 1 rfl 5 rfl ?_
    refine z_aload_n hX dX2_isLife_5 0 rfl 6 rfl ?_
    replace h := gd_elim h
    obtain ⟨g2, h⟩ := h
    refine z_get2 hX (k := r) (j := 0) (v := .int ((s.1 r 0))) g2 (by decide) rfl dX2_isLife_6 fl_X2_9 9 rfl ?_
    refine z_icmp_ge hX 16 dX2_isLife_9 (by decide) 12 rfl (fun c3 => ?_) (fun c3 => ?_)
    · replace h := br_pos h c3
      refine z_iconst hX (v := (nI 0)) dX2_isLife_16 rfl 17 rfl ?_
      cases h
      exact z_zret hX dX2_isLife_17 rfl (by decide) hk
    · replace h := br_neg h c3
      refine z_iconst hX (v := (nI 1)) dX2_isLife_12 rfl 13 rfl ?_
      refine z_goto hX 17 dX2_isLife_13 (by decide) ?_
      cases h
      exact z_zret hX dX2_isLife_17 rfl (by decide) hk
theorem c_X2_isLife {lc : Launch} {Γ : Gm} {r : Nat} {a1 : Int32} {s s2 : St} {v : Int32} (h : f_X2_isLife r a1 s = some (v, s2)) : Ct lc Γ yX2_isLife cX2_isLife 2 (some .boolean) 0 [.ref (gL Γ (r)), .int a1] s (some (.int v), s2) := Ct.of (by decide +kernel) (Nat.le_of_ble_eq_true rfl) (fun X hl hX => e_X2_isLife hX h rfl)
theorem dX2_isSitter_0 : decode cX2_isSitter 0 = .ok (.iload_n 1, 1) := by decide +kernel
theorem dX2_isSitter_1 : decode cX2_isSitter 1 = .ok (.ifCond .lt 15, 3) := by decide +kernel
theorem dX2_isSitter_4 : decode cX2_isSitter 4 = .ok (.iload_n 1, 1) := by decide +kernel
theorem dX2_isSitter_5 : decode cX2_isSitter 5 = .ok (.aload_n 0, 1) := by decide +kernel
theorem dX2_isSitter_6 : decode cX2_isSitter 6 = .ok (.getfield 15, 3) := by decide +kernel
theorem dX2_isSitter_9 : decode cX2_isSitter 9 = .ok (.if_icmp .ge 7, 3) := by decide +kernel
theorem dX2_isSitter_12 : decode cX2_isSitter 12 = .ok (.iconst 1, 1) := by decide +kernel
theorem dX2_isSitter_13 : decode cX2_isSitter 13 = .ok (.goto 4, 3) := by decide +kernel
theorem dX2_isSitter_16 : decode cX2_isSitter 16 = .ok (.iconst 0, 1) := by decide +kernel
theorem dX2_isSitter_17 : decode cX2_isSitter 17 = .ok (.ireturn, 1) := by decide +kernel
def f_X2_isSitter (r : Nat) (a1 : Int32) (s : St) : Option (Int32 × St) := if a1 < 0 then (some (((nI 0), s))) else (if kd (r) = 2 then if (s.1 r 1) ≤ a1 then (some (((nI 0), s))) else (some (((nI 1), s))) else none)
set_option maxHeartbeats 4000000 in
set_option maxRecDepth 100000 in
theorem e_X2_isSitter {X : Cx} {Γ : Gm} {r0 : Option Value × St} (hX : Amb X Γ cX2_isSitter RX2 2 (some .boolean) 0) {r : Nat} {a1 : Int32} {s : St} {t : Int32 × St} (h : f_X2_isSitter r a1 s = some t) (hk : (fun t : Int32 × St => (some (Value.int t.1), t.2) = r0) t) : Zw X Γ 2 r0 s 0 [(0, .ref (gL Γ (r))), (1, .int a1)] [] := by
  unfold f_X2_isSitter at h
  refine z_iload_n hX dX2_isSitter_0 1 rfl 1 rfl ?_
  refine z_if_lt hX 16 dX2_isSitter_1 (by decide) 4 rfl (fun c1 => ?_) (fun c1 => ?_)
  · replace h := br_pos h c1
    refine z_iconst hX (v := (nI 0)) dX2_isSitter_16 rfl 17 rfl ?_
    cases h
    exact z_zret hX dX2_isSitter_17 rfl (by decide) hk
  · replace h := br_neg h c1
    refine z_iload_n hX dX2_isSitter_4 1 rfl 5 rfl ?_
    refine z_aload_n hX dX2_isSitter_5 0 rfl 6 rfl ?_
    replace h := gd_elim h
    obtain ⟨g2, h⟩ := h
    refine z_get2 hX (k := r) (j := 1) (v := .int ((s.1 r 1))) g2 (by decide) rfl dX2_isSitter_6 fl_X2_15 9 rfl ?_
    refine z_icmp_ge hX 16 dX2_isSitter_9 (by decide) 12 rfl (fun c3 => ?_) (fun c3 => ?_)
    · replace h := br_pos h c3
      refine z_iconst hX (v := (nI 0)) dX2_isSitter_16 rfl 17 rfl ?_
      cases h
      exact z_zret hX dX2_isSitter_17 rfl (by decide) hk
    · replace h := br_neg h c3
      refine z_iconst hX (v := (nI 1)) dX2_isSitter_12 rfl 13 rfl ?_
      refine z_goto hX 17 dX2_isSitter_13 (by decide) ?_
      cases h
      exact z_zret hX dX2_isSitter_17 rfl (by decide) hk
theorem c_X2_isSitter {lc : Launch} {Γ : Gm} {r : Nat} {a1 : Int32} {s s2 : St} {v : Int32} (h : f_X2_isSitter r a1 s = some (v, s2)) : Ct lc Γ yX2_isSitter cX2_isSitter 2 (some .boolean) 0 [.ref (gL Γ (r)), .int a1] s (some (.int v), s2) := Ct.of (by decide +kernel) (Nat.le_of_ble_eq_true rfl) (fun X hl hX => e_X2_isSitter hX h rfl)
theorem dX2_held_0 : decode cX2_held 0 = .ok (.aload_n 0, 1) := by decide +kernel
theorem dX2_held_1 : decode cX2_held 1 = .ok (.getfield 49, 3) := by decide +kernel
theorem dX2_held_4 : decode cX2_held 4 = .ok (.iload_n 1, 1) := by decide +kernel
theorem dX2_held_5 : decode cX2_held 5 = .ok (.iconst 3, 1) := by decide +kernel
theorem dX2_held_6 : decode cX2_held 6 = .ok (.imul, 1) := by decide +kernel
theorem dX2_held_7 : decode cX2_held 7 = .ok (.iload_n 2, 1) := by decide +kernel
theorem dX2_held_8 : decode cX2_held 8 = .ok (.iadd, 1) := by decide +kernel
theorem dX2_held_9 : decode cX2_held 9 = .ok (.iaload, 1) := by decide +kernel
theorem dX2_held_10 : decode cX2_held 10 = .ok (.ireturn, 1) := by decide +kernel
def f_X2_held (r : Nat) (a1 : Int32) (a2 : Int32) (s : St) : Option (Int32 × St) := if kd (r) = 2 then if inb ((a1 * (nI 3)) + a2) (lnI (r + 10)) = true then some (((s.1 (r + 10) (((a1 * (nI 3)) + a2)).toNatClampNeg), s)) else none else none
set_option maxHeartbeats 4000000 in
set_option maxRecDepth 100000 in
theorem e_X2_held {X : Cx} {Γ : Gm} {r0 : Option Value × St} (hX : Amb X Γ cX2_held RX2 3 (some .int) 0) {r : Nat} {a1 : Int32} {a2 : Int32} {s : St} {t : Int32 × St} (h : f_X2_held r a1 a2 s = some t) (hk : (fun t : Int32 × St => (some (Value.int t.1), t.2) = r0) t) : Zw X Γ 3 r0 s 0 [(0, .ref (gL Γ (r))), (1, .int a1), (2, .int a2)] [] := by
  unfold f_X2_held at h
  refine z_aload_n hX dX2_held_0 0 rfl 1 rfl ?_
  replace h := gd_elim h
  obtain ⟨g1, h⟩ := h
  refine z_get2 hX (k := r) (j := 12) (v := .ref (gL Γ (r + 10))) g1 (by decide) rfl dX2_held_1 fl_X2_49 4 rfl ?_
  refine z_iload_n hX dX2_held_4 1 rfl 5 rfl ?_
  refine z_iconst hX (v := (nI 3)) dX2_held_5 rfl 6 rfl ?_
  refine z_imul hX dX2_held_6 7 rfl ?_
  refine z_iload_n hX dX2_held_7 2 rfl 8 rfl ?_
  refine z_iadd hX dX2_held_8 9 rfl ?_
  replace h := gd_elim h
  obtain ⟨g2, h⟩ := h
  refine z_iald hX (inb_vp g2) dX2_held_9 10 rfl ?_
  cases h
  exact z_iret hX dX2_held_10 rfl hk
theorem c_X2_held {lc : Launch} {Γ : Gm} {r : Nat} {a1 : Int32} {a2 : Int32} {s s2 : St} {v : Int32} (h : f_X2_held r a1 a2 s = some (v, s2)) : Ct lc Γ yX2_held cX2_held 3 (some .int) 0 [.ref (gL Γ (r)), .int a1, .int a2] s (some (.int v), s2) := Ct.of (by decide +kernel) (Nat.le_of_ble_eq_true rfl) (fun X hl hX => e_X2_held hX h rfl)
theorem dX2_heldBy_0 : decode cX2_heldBy 0 = .ok (.iconst 0, 1) := by decide +kernel
theorem dX2_heldBy_1 : decode cX2_heldBy 1 = .ok (.istore_n 2, 1) := by decide +kernel
theorem dX2_heldBy_2 : decode cX2_heldBy 2 = .ok (.iconst 0, 1) := by decide +kernel
theorem dX2_heldBy_3 : decode cX2_heldBy 3 = .ok (.istore_n 3, 1) := by decide +kernel
theorem dX2_heldBy_4 : decode cX2_heldBy 4 = .ok (.iload_n 3, 1) := by decide +kernel
theorem dX2_heldBy_5 : decode cX2_heldBy 5 = .ok (.aload_n 0, 1) := by decide +kernel
theorem dX2_heldBy_6 : decode cX2_heldBy 6 = .ok (.getfield 9, 3) := by decide +kernel
theorem dX2_heldBy_9 : decode cX2_heldBy 9 = .ok (.if_icmp .ge 18, 3) := by decide +kernel
theorem dX2_heldBy_12 : decode cX2_heldBy 12 = .ok (.iload_n 2, 1) := by decide +kernel
theorem dX2_heldBy_13 : decode cX2_heldBy 13 = .ok (.aload_n 0, 1) := by decide +kernel
theorem dX2_heldBy_14 : decode cX2_heldBy 14 = .ok (.iload_n 1, 1) := by decide +kernel
theorem dX2_heldBy_15 : decode cX2_heldBy 15 = .ok (.iload_n 3, 1) := by decide +kernel
theorem dX2_heldBy_16 : decode cX2_heldBy 16 = .ok (.invokevirtual 70, 3) := by decide +kernel
theorem dX2_heldBy_19 : decode cX2_heldBy 19 = .ok (.iadd, 1) := by decide +kernel
theorem dX2_heldBy_20 : decode cX2_heldBy 20 = .ok (.istore_n 2, 1) := by decide +kernel
theorem dX2_heldBy_21 : decode cX2_heldBy 21 = .ok (.iinc 3 1, 3) := by decide +kernel
theorem dX2_heldBy_24 : decode cX2_heldBy 24 = .ok (.goto (-20), 3) := by decide +kernel
theorem dX2_heldBy_27 : decode cX2_heldBy 27 = .ok (.iload_n 2, 1) := by decide +kernel
theorem dX2_heldBy_28 : decode cX2_heldBy 28 = .ok (.ireturn, 1) := by decide +kernel
def f_X2_heldBy_L4 (r : Nat) (v1 : Int32) (v2 : Int32) (v3 : Int32) (s : St) : Option ((Int32 × Int32 × St) ⊕ (Int32 × St)) := if kd (r) = 2 then if (s.1 r 0) ≤ v3 then (some (Sum.inr ((v2, s)))) else (cl (f_X2_held r v1 v3 s) (fun x4 s3 => bd (v2 + x4) (fun x5 => some (Sum.inl (x5, (v3 + (nI 1)), s3))))) else none
def f_X2_heldBy (r : Nat) (a1 : Int32) (s : St) : Option (Int32 × St) := lp (fun q : Int32 × Int32 × St => f_X2_heldBy_L4 r a1 q.1 q.2.1 q.2.2) Fu ((nI 0), (nI 0), s)
set_option maxHeartbeats 4000000 in
set_option maxRecDepth 100000 in
theorem e_X2_heldBy_L4 {X : Cx} {Γ : Gm} {r0 : Option Value × St} (hX : Amb X Γ cX2_heldBy RX2 4 (some .int) 1) {r : Nat} {v1 : Int32} {v2 : Int32} {v3 : Int32} {s : St} {t : (Int32 × Int32 × St) ⊕ (Int32 × St)} (h : f_X2_heldBy_L4 r v1 v2 v3 s = some t) (hk : (Sum.elim (fun q : Int32 × Int32 × St => Zw X Γ 4 r0 q.2.2 4 [(0, .ref (gL Γ (r))), (1, .int v1), (2, .int q.1), (3, .int q.2.1)] []) (fun t : Int32 × St => (some (Value.int t.1), t.2) = r0)) t) : Zw X Γ 4 r0 s 4 [(0, .ref (gL Γ (r))), (1, .int v1), (2, .int v2), (3, .int v3)] [] := by
  unfold f_X2_heldBy_L4 at h
  refine z_iload_n hX dX2_heldBy_4 3 rfl 5 rfl ?_
  refine z_aload_n hX dX2_heldBy_5 0 rfl 6 rfl ?_
  replace h := gd_elim h
  obtain ⟨g1, h⟩ := h
  refine z_get2 hX (k := r) (j := 0) (v := .int ((s.1 r 0))) g1 (by decide) rfl dX2_heldBy_6 fl_X2_9 9 rfl ?_
  refine z_icmp_ge hX 27 dX2_heldBy_9 (by decide) 12 rfl (fun c2 => ?_) (fun c2 => ?_)
  · replace h := br_pos h c2
    refine z_iload_n hX dX2_heldBy_27 2 rfl 28 rfl ?_
    cases h
    exact z_iret hX dX2_heldBy_28 rfl hk
  · replace h := br_neg h c2
    refine z_iload_n hX dX2_heldBy_12 2 rfl 13 rfl ?_
    refine z_aload_n hX dX2_heldBy_13 0 rfl 14 rfl ?_
    refine z_iload_n hX dX2_heldBy_14 1 rfl 15 rfl ?_
    refine z_iload_n hX dX2_heldBy_15 3 rfl 16 rfl ?_
    replace h := cl_elim h
    obtain ⟨x4, s3, hx4, h⟩ := h
    refine z_cV2i hX (b := r) (As := [.int v1, .int v3]) (c_X2_held hx4) lk_X2_70 rfl g1 ds_X2_held rfl (by decide) (by decide) (Nat.le_of_ble_eq_true rfl) dX2_heldBy_16 rfl 19 rfl ?_
    refine z_iadd hX dX2_heldBy_19 20 rfl ?_
    replace h := bd_elim h
    obtain ⟨x5, ex5, h⟩ := h
    refine z_nm ex5 ?_
    refine z_istore_n hX (lv2 := [(2, .int x5), (0, .ref (gL Γ (r))), (1, .int v1), (3, .int v3)]) dX2_heldBy_20 (by decide) rfl 21 rfl ?_
    refine z_iinc hX (v := (v3 + (nI 1))) (lv2 := [(3, .int ((v3 + (nI 1)))), (2, .int x5), (0, .ref (gL Γ (r))), (1, .int v1)]) dX2_heldBy_21 3 rfl rfl (by decide) rfl 24 rfl ?_
    refine z_goto hX 4 dX2_heldBy_24 (by decide) ?_
    cases h
    exact z_sub [2, 3, 1, 0] rfl hk
set_option maxHeartbeats 4000000 in
set_option maxRecDepth 100000 in
theorem e_X2_heldBy {X : Cx} {Γ : Gm} {r0 : Option Value × St} (hX : Amb X Γ cX2_heldBy RX2 4 (some .int) 1) {r : Nat} {a1 : Int32} {s : St} {t : Int32 × St} (h : f_X2_heldBy r a1 s = some t) (hk : (fun t : Int32 × St => (some (Value.int t.1), t.2) = r0) t) : Zw X Γ 4 r0 s 0 [(0, .ref (gL Γ (r))), (1, .int a1)] [] := by
  unfold f_X2_heldBy at h
  refine z_iconst hX (v := (nI 0)) dX2_heldBy_0 rfl 1 rfl ?_
  refine z_istore_n hX (lv2 := [(2, .int ((nI 0))), (0, .ref (gL Γ (r))), (1, .int a1)]) dX2_heldBy_1 (by decide) rfl 2 rfl ?_
  refine z_iconst hX (v := (nI 0)) dX2_heldBy_2 rfl 3 rfl ?_
  refine z_istore_n hX (lv2 := [(3, .int ((nI 0))), (2, .int ((nI 0))), (0, .ref (gL Γ (r))), (1, .int a1)]) dX2_heldBy_3 (by decide) rfl 4 rfl ?_
  exact z_sub [2, 3, 1, 0] rfl (lp_ok (Z := fun q : Int32 × Int32 × St => Zw X Γ 4 r0 q.2.2 4 [(0, .ref (gL Γ (r))), (1, .int a1), (2, .int q.1), (3, .int q.2.1)] []) (fun q t h hk => e_X2_heldBy_L4 hX h hk) Fu _ _ h hk)
theorem c_X2_heldBy {lc : Launch} {Γ : Gm} {r : Nat} {a1 : Int32} {s s2 : St} {v : Int32} (h : f_X2_heldBy r a1 s = some (v, s2)) : Ct lc Γ yX2_heldBy cX2_heldBy 4 (some .int) 1 [.ref (gL Γ (r)), .int a1] s (some (.int v), s2) := Ct.of (by decide +kernel) (Nat.le_of_ble_eq_true rfl) (fun X hl hX => e_X2_heldBy hX h rfl)
theorem dX2_heldOf_0 : decode cX2_heldOf 0 = .ok (.iconst 0, 1) := by decide +kernel
theorem dX2_heldOf_1 : decode cX2_heldOf 1 = .ok (.istore_n 2, 1) := by decide +kernel
theorem dX2_heldOf_2 : decode cX2_heldOf 2 = .ok (.iconst 0, 1) := by decide +kernel
theorem dX2_heldOf_3 : decode cX2_heldOf 3 = .ok (.istore_n 3, 1) := by decide +kernel
theorem dX2_heldOf_4 : decode cX2_heldOf 4 = .ok (.iload_n 3, 1) := by decide +kernel
theorem dX2_heldOf_5 : decode cX2_heldOf 5 = .ok (.aload_n 0, 1) := by decide +kernel
theorem dX2_heldOf_6 : decode cX2_heldOf 6 = .ok (.getfield 15, 3) := by decide +kernel
theorem dX2_heldOf_9 : decode cX2_heldOf 9 = .ok (.if_icmp .ge 18, 3) := by decide +kernel
theorem dX2_heldOf_12 : decode cX2_heldOf 12 = .ok (.iload_n 2, 1) := by decide +kernel
theorem dX2_heldOf_13 : decode cX2_heldOf 13 = .ok (.aload_n 0, 1) := by decide +kernel
theorem dX2_heldOf_14 : decode cX2_heldOf 14 = .ok (.iload_n 3, 1) := by decide +kernel
theorem dX2_heldOf_15 : decode cX2_heldOf 15 = .ok (.iload_n 1, 1) := by decide +kernel
theorem dX2_heldOf_16 : decode cX2_heldOf 16 = .ok (.invokevirtual 70, 3) := by decide +kernel
theorem dX2_heldOf_19 : decode cX2_heldOf 19 = .ok (.iadd, 1) := by decide +kernel
theorem dX2_heldOf_20 : decode cX2_heldOf 20 = .ok (.istore_n 2, 1) := by decide +kernel
theorem dX2_heldOf_21 : decode cX2_heldOf 21 = .ok (.iinc 3 1, 3) := by decide +kernel
theorem dX2_heldOf_24 : decode cX2_heldOf 24 = .ok (.goto (-20), 3) := by decide +kernel
theorem dX2_heldOf_27 : decode cX2_heldOf 27 = .ok (.iload_n 2, 1) := by decide +kernel
theorem dX2_heldOf_28 : decode cX2_heldOf 28 = .ok (.ireturn, 1) := by decide +kernel
def f_X2_heldOf_L4 (r : Nat) (v1 : Int32) (v2 : Int32) (v3 : Int32) (s : St) : Option ((Int32 × Int32 × St) ⊕ (Int32 × St)) := if kd (r) = 2 then if (s.1 r 1) ≤ v3 then (some (Sum.inr ((v2, s)))) else (cl (f_X2_held r v3 v1 s) (fun x4 s3 => bd (v2 + x4) (fun x5 => some (Sum.inl (x5, (v3 + (nI 1)), s3))))) else none
def f_X2_heldOf (r : Nat) (a1 : Int32) (s : St) : Option (Int32 × St) := lp (fun q : Int32 × Int32 × St => f_X2_heldOf_L4 r a1 q.1 q.2.1 q.2.2) Fu ((nI 0), (nI 0), s)
set_option maxHeartbeats 4000000 in
set_option maxRecDepth 100000 in
theorem e_X2_heldOf_L4 {X : Cx} {Γ : Gm} {r0 : Option Value × St} (hX : Amb X Γ cX2_heldOf RX2 4 (some .int) 1) {r : Nat} {v1 : Int32} {v2 : Int32} {v3 : Int32} {s : St} {t : (Int32 × Int32 × St) ⊕ (Int32 × St)} (h : f_X2_heldOf_L4 r v1 v2 v3 s = some t) (hk : (Sum.elim (fun q : Int32 × Int32 × St => Zw X Γ 4 r0 q.2.2 4 [(0, .ref (gL Γ (r))), (1, .int v1), (2, .int q.1), (3, .int q.2.1)] []) (fun t : Int32 × St => (some (Value.int t.1), t.2) = r0)) t) : Zw X Γ 4 r0 s 4 [(0, .ref (gL Γ (r))), (1, .int v1), (2, .int v2), (3, .int v3)] [] := by
  unfold f_X2_heldOf_L4 at h
  refine z_iload_n hX dX2_heldOf_4 3 rfl 5 rfl ?_
  refine z_aload_n hX dX2_heldOf_5 0 rfl 6 rfl ?_
  replace h := gd_elim h
  obtain ⟨g1, h⟩ := h
  refine z_get2 hX (k := r) (j := 1) (v := .int ((s.1 r 1))) g1 (by decide) rfl dX2_heldOf_6 fl_X2_15 9 rfl ?_
  refine z_icmp_ge hX 27 dX2_heldOf_9 (by decide) 12 rfl (fun c2 => ?_) (fun c2 => ?_)
  · replace h := br_pos h c2
    refine z_iload_n hX dX2_heldOf_27 2 rfl 28 rfl ?_
    cases h
    exact z_iret hX dX2_heldOf_28 rfl hk
  · replace h := br_neg h c2
    refine z_iload_n hX dX2_heldOf_12 2 rfl 13 rfl ?_
    refine z_aload_n hX dX2_heldOf_13 0 rfl 14 rfl ?_
    refine z_iload_n hX dX2_heldOf_14 3 rfl 15 rfl ?_
    refine z_iload_n hX dX2_heldOf_15 1 rfl 16 rfl ?_
    replace h := cl_elim h
    obtain ⟨x4, s3, hx4, h⟩ := h
    refine z_cV2i hX (b := r) (As := [.int v3, .int v1]) (c_X2_held hx4) lk_X2_70 rfl g1 ds_X2_held rfl (by decide) (by decide) (Nat.le_of_ble_eq_true rfl) dX2_heldOf_16 rfl 19 rfl ?_
    refine z_iadd hX dX2_heldOf_19 20 rfl ?_
    replace h := bd_elim h
    obtain ⟨x5, ex5, h⟩ := h
    refine z_nm ex5 ?_
    refine z_istore_n hX (lv2 := [(2, .int x5), (0, .ref (gL Γ (r))), (1, .int v1), (3, .int v3)]) dX2_heldOf_20 (by decide) rfl 21 rfl ?_
    refine z_iinc hX (v := (v3 + (nI 1))) (lv2 := [(3, .int ((v3 + (nI 1)))), (2, .int x5), (0, .ref (gL Γ (r))), (1, .int v1)]) dX2_heldOf_21 3 rfl rfl (by decide) rfl 24 rfl ?_
    refine z_goto hX 4 dX2_heldOf_24 (by decide) ?_
    cases h
    exact z_sub [2, 3, 1, 0] rfl hk
set_option maxHeartbeats 4000000 in
set_option maxRecDepth 100000 in
theorem e_X2_heldOf {X : Cx} {Γ : Gm} {r0 : Option Value × St} (hX : Amb X Γ cX2_heldOf RX2 4 (some .int) 1) {r : Nat} {a1 : Int32} {s : St} {t : Int32 × St} (h : f_X2_heldOf r a1 s = some t) (hk : (fun t : Int32 × St => (some (Value.int t.1), t.2) = r0) t) : Zw X Γ 4 r0 s 0 [(0, .ref (gL Γ (r))), (1, .int a1)] [] := by
  unfold f_X2_heldOf at h
  refine z_iconst hX (v := (nI 0)) dX2_heldOf_0 rfl 1 rfl ?_
  refine z_istore_n hX (lv2 := [(2, .int ((nI 0))), (0, .ref (gL Γ (r))), (1, .int a1)]) dX2_heldOf_1 (by decide) rfl 2 rfl ?_
  refine z_iconst hX (v := (nI 0)) dX2_heldOf_2 rfl 3 rfl ?_
  refine z_istore_n hX (lv2 := [(3, .int ((nI 0))), (2, .int ((nI 0))), (0, .ref (gL Γ (r))), (1, .int a1)]) dX2_heldOf_3 (by decide) rfl 4 rfl ?_
  exact z_sub [2, 3, 1, 0] rfl (lp_ok (Z := fun q : Int32 × Int32 × St => Zw X Γ 4 r0 q.2.2 4 [(0, .ref (gL Γ (r))), (1, .int a1), (2, .int q.1), (3, .int q.2.1)] []) (fun q t h hk => e_X2_heldOf_L4 hX h hk) Fu _ _ h hk)
theorem c_X2_heldOf {lc : Launch} {Γ : Gm} {r : Nat} {a1 : Int32} {s s2 : St} {v : Int32} (h : f_X2_heldOf r a1 s = some (v, s2)) : Ct lc Γ yX2_heldOf cX2_heldOf 4 (some .int) 1 [.ref (gL Γ (r)), .int a1] s (some (.int v), s2) := Ct.of (by decide +kernel) (Nat.le_of_ble_eq_true rfl) (fun X hl hX => e_X2_heldOf hX h rfl)
theorem dX2_heldByAll_0 : decode cX2_heldByAll 0 = .ok (.iconst 0, 1) := by decide +kernel
theorem dX2_heldByAll_1 : decode cX2_heldByAll 1 = .ok (.istore_n 1, 1) := by decide +kernel
theorem dX2_heldByAll_2 : decode cX2_heldByAll 2 = .ok (.iconst 0, 1) := by decide +kernel
theorem dX2_heldByAll_3 : decode cX2_heldByAll 3 = .ok (.istore_n 2, 1) := by decide +kernel
theorem dX2_heldByAll_4 : decode cX2_heldByAll 4 = .ok (.iload_n 2, 1) := by decide +kernel
theorem dX2_heldByAll_5 : decode cX2_heldByAll 5 = .ok (.aload_n 0, 1) := by decide +kernel
theorem dX2_heldByAll_6 : decode cX2_heldByAll 6 = .ok (.getfield 15, 3) := by decide +kernel
theorem dX2_heldByAll_9 : decode cX2_heldByAll 9 = .ok (.if_icmp .ge 17, 3) := by decide +kernel
theorem dX2_heldByAll_12 : decode cX2_heldByAll 12 = .ok (.iload_n 1, 1) := by decide +kernel
theorem dX2_heldByAll_13 : decode cX2_heldByAll 13 = .ok (.aload_n 0, 1) := by decide +kernel
theorem dX2_heldByAll_14 : decode cX2_heldByAll 14 = .ok (.iload_n 2, 1) := by decide +kernel
theorem dX2_heldByAll_15 : decode cX2_heldByAll 15 = .ok (.invokevirtual 74, 3) := by decide +kernel
theorem dX2_heldByAll_18 : decode cX2_heldByAll 18 = .ok (.iadd, 1) := by decide +kernel
theorem dX2_heldByAll_19 : decode cX2_heldByAll 19 = .ok (.istore_n 1, 1) := by decide +kernel
theorem dX2_heldByAll_20 : decode cX2_heldByAll 20 = .ok (.iinc 2 1, 3) := by decide +kernel
theorem dX2_heldByAll_23 : decode cX2_heldByAll 23 = .ok (.goto (-19), 3) := by decide +kernel
theorem dX2_heldByAll_26 : decode cX2_heldByAll 26 = .ok (.iload_n 1, 1) := by decide +kernel
theorem dX2_heldByAll_27 : decode cX2_heldByAll 27 = .ok (.ireturn, 1) := by decide +kernel
def f_X2_heldByAll_L4 (r : Nat) (v1 : Int32) (v2 : Int32) (s : St) : Option ((Int32 × Int32 × St) ⊕ (Int32 × St)) := if kd (r) = 2 then if (s.1 r 1) ≤ v2 then (some (Sum.inr ((v1, s)))) else (cl (f_X2_heldBy r v2 s) (fun x4 s3 => bd (v1 + x4) (fun x5 => some (Sum.inl (x5, (v2 + (nI 1)), s3))))) else none
def f_X2_heldByAll (r : Nat) (s : St) : Option (Int32 × St) := lp (fun q : Int32 × Int32 × St => f_X2_heldByAll_L4 r q.1 q.2.1 q.2.2) Fu ((nI 0), (nI 0), s)
set_option maxHeartbeats 4000000 in
set_option maxRecDepth 100000 in
theorem e_X2_heldByAll_L4 {X : Cx} {Γ : Gm} {r0 : Option Value × St} (hX : Amb X Γ cX2_heldByAll RX2 3 (some .int) 2) {r : Nat} {v1 : Int32} {v2 : Int32} {s : St} {t : (Int32 × Int32 × St) ⊕ (Int32 × St)} (h : f_X2_heldByAll_L4 r v1 v2 s = some t) (hk : (Sum.elim (fun q : Int32 × Int32 × St => Zw X Γ 3 r0 q.2.2 4 [(0, .ref (gL Γ (r))), (1, .int q.1), (2, .int q.2.1)] []) (fun t : Int32 × St => (some (Value.int t.1), t.2) = r0)) t) : Zw X Γ 3 r0 s 4 [(0, .ref (gL Γ (r))), (1, .int v1), (2, .int v2)] [] := by
  unfold f_X2_heldByAll_L4 at h
  refine z_iload_n hX dX2_heldByAll_4 2 rfl 5 rfl ?_
  refine z_aload_n hX dX2_heldByAll_5 0 rfl 6 rfl ?_
  replace h := gd_elim h
  obtain ⟨g1, h⟩ := h
  refine z_get2 hX (k := r) (j := 1) (v := .int ((s.1 r 1))) g1 (by decide) rfl dX2_heldByAll_6 fl_X2_15 9 rfl ?_
  refine z_icmp_ge hX 26 dX2_heldByAll_9 (by decide) 12 rfl (fun c2 => ?_) (fun c2 => ?_)
  · replace h := br_pos h c2
    refine z_iload_n hX dX2_heldByAll_26 1 rfl 27 rfl ?_
    cases h
    exact z_iret hX dX2_heldByAll_27 rfl hk
  · replace h := br_neg h c2
    refine z_iload_n hX dX2_heldByAll_12 1 rfl 13 rfl ?_
    refine z_aload_n hX dX2_heldByAll_13 0 rfl 14 rfl ?_
    refine z_iload_n hX dX2_heldByAll_14 2 rfl 15 rfl ?_
    replace h := cl_elim h
    obtain ⟨x4, s3, hx4, h⟩ := h
    refine z_cV2i hX (b := r) (As := [.int v2]) (c_X2_heldBy hx4) lk_X2_74 rfl g1 ds_X2_heldBy rfl (by decide) (by decide) (Nat.le_of_ble_eq_true rfl) dX2_heldByAll_15 rfl 18 rfl ?_
    refine z_iadd hX dX2_heldByAll_18 19 rfl ?_
    replace h := bd_elim h
    obtain ⟨x5, ex5, h⟩ := h
    refine z_nm ex5 ?_
    refine z_istore_n hX (lv2 := [(1, .int x5), (0, .ref (gL Γ (r))), (2, .int v2)]) dX2_heldByAll_19 (by decide) rfl 20 rfl ?_
    refine z_iinc hX (v := (v2 + (nI 1))) (lv2 := [(2, .int ((v2 + (nI 1)))), (1, .int x5), (0, .ref (gL Γ (r)))]) dX2_heldByAll_20 2 rfl rfl (by decide) rfl 23 rfl ?_
    refine z_goto hX 4 dX2_heldByAll_23 (by decide) ?_
    cases h
    exact z_sub [2, 1, 0] rfl hk
set_option maxHeartbeats 4000000 in
set_option maxRecDepth 100000 in
theorem e_X2_heldByAll {X : Cx} {Γ : Gm} {r0 : Option Value × St} (hX : Amb X Γ cX2_heldByAll RX2 3 (some .int) 2) {r : Nat} {s : St} {t : Int32 × St} (h : f_X2_heldByAll r s = some t) (hk : (fun t : Int32 × St => (some (Value.int t.1), t.2) = r0) t) : Zw X Γ 3 r0 s 0 [(0, .ref (gL Γ (r)))] [] := by
  unfold f_X2_heldByAll at h
  refine z_iconst hX (v := (nI 0)) dX2_heldByAll_0 rfl 1 rfl ?_
  refine z_istore_n hX (lv2 := [(1, .int ((nI 0))), (0, .ref (gL Γ (r)))]) dX2_heldByAll_1 (by decide) rfl 2 rfl ?_
  refine z_iconst hX (v := (nI 0)) dX2_heldByAll_2 rfl 3 rfl ?_
  refine z_istore_n hX (lv2 := [(2, .int ((nI 0))), (1, .int ((nI 0))), (0, .ref (gL Γ (r)))]) dX2_heldByAll_3 (by decide) rfl 4 rfl ?_
  exact z_sub [2, 1, 0] rfl (lp_ok (Z := fun q : Int32 × Int32 × St => Zw X Γ 3 r0 q.2.2 4 [(0, .ref (gL Γ (r))), (1, .int q.1), (2, .int q.2.1)] []) (fun q t h hk => e_X2_heldByAll_L4 hX h hk) Fu _ _ h hk)
theorem c_X2_heldByAll {lc : Launch} {Γ : Gm} {r : Nat} {s s2 : St} {v : Int32} (h : f_X2_heldByAll r s = some (v, s2)) : Ct lc Γ yX2_heldByAll cX2_heldByAll 3 (some .int) 2 [.ref (gL Γ (r))] s (some (.int v), s2) := Ct.of (by decide +kernel) (Nat.le_of_ble_eq_true rfl) (fun X hl hX => e_X2_heldByAll hX h rfl)
theorem dX2_sumOfLives_0 : decode cX2_sumOfLives 0 = .ok (.iconst 0, 1) := by decide +kernel
theorem dX2_sumOfLives_1 : decode cX2_sumOfLives 1 = .ok (.istore_n 2, 1) := by decide +kernel
theorem dX2_sumOfLives_2 : decode cX2_sumOfLives 2 = .ok (.iconst 0, 1) := by decide +kernel
theorem dX2_sumOfLives_3 : decode cX2_sumOfLives 3 = .ok (.istore_n 3, 1) := by decide +kernel
theorem dX2_sumOfLives_4 : decode cX2_sumOfLives 4 = .ok (.iload_n 3, 1) := by decide +kernel
theorem dX2_sumOfLives_5 : decode cX2_sumOfLives 5 = .ok (.aload_n 0, 1) := by decide +kernel
theorem dX2_sumOfLives_6 : decode cX2_sumOfLives 6 = .ok (.getfield 9, 3) := by decide +kernel
theorem dX2_sumOfLives_9 : decode cX2_sumOfLives 9 = .ok (.if_icmp .ge 15, 3) := by decide +kernel
theorem dX2_sumOfLives_12 : decode cX2_sumOfLives 12 = .ok (.iload_n 2, 1) := by decide +kernel
theorem dX2_sumOfLives_13 : decode cX2_sumOfLives 13 = .ok (.aload_n 1, 1) := by decide +kernel
theorem dX2_sumOfLives_14 : decode cX2_sumOfLives 14 = .ok (.iload_n 3, 1) := by decide +kernel
theorem dX2_sumOfLives_15 : decode cX2_sumOfLives 15 = .ok (.iaload, 1) := by decide +kernel
theorem dX2_sumOfLives_16 : decode cX2_sumOfLives 16 = .ok (.iadd, 1) := by decide +kernel
theorem dX2_sumOfLives_17 : decode cX2_sumOfLives 17 = .ok (.istore_n 2, 1) := by decide +kernel
theorem dX2_sumOfLives_18 : decode cX2_sumOfLives 18 = .ok (.iinc 3 1, 3) := by decide +kernel
theorem dX2_sumOfLives_21 : decode cX2_sumOfLives 21 = .ok (.goto (-17), 3) := by decide +kernel
theorem dX2_sumOfLives_24 : decode cX2_sumOfLives 24 = .ok (.iload_n 2, 1) := by decide +kernel
theorem dX2_sumOfLives_25 : decode cX2_sumOfLives 25 = .ok (.ireturn, 1) := by decide +kernel
def f_X2_sumOfLives_L4 (r : Nat) (v1 : Nat) (v2 : Int32) (v3 : Int32) (s : St) : Option ((Int32 × Int32 × St) ⊕ (Int32 × St)) := if kd (r) = 2 then if (s.1 r 0) ≤ v3 then (some (Sum.inr ((v2, s)))) else (if inb v3 (lnI v1) = true then bd (v2 + (s.1 v1 (v3).toNatClampNeg)) (fun x4 => some (Sum.inl (x4, (v3 + (nI 1)), s))) else none) else none
def f_X2_sumOfLives (r : Nat) (a1 : Nat) (s : St) : Option (Int32 × St) := lp (fun q : Int32 × Int32 × St => f_X2_sumOfLives_L4 r a1 q.1 q.2.1 q.2.2) Fu ((nI 0), (nI 0), s)
set_option maxHeartbeats 4000000 in
set_option maxRecDepth 100000 in
theorem e_X2_sumOfLives_L4 {X : Cx} {Γ : Gm} {r0 : Option Value × St} (hX : Amb X Γ cX2_sumOfLives RX2 4 (some .int) 0) {r : Nat} {v1 : Nat} {v2 : Int32} {v3 : Int32} {s : St} {t : (Int32 × Int32 × St) ⊕ (Int32 × St)} (h : f_X2_sumOfLives_L4 r v1 v2 v3 s = some t) (hk : (Sum.elim (fun q : Int32 × Int32 × St => Zw X Γ 4 r0 q.2.2 4 [(0, .ref (gL Γ (r))), (1, .ref (gL Γ (v1))), (2, .int q.1), (3, .int q.2.1)] []) (fun t : Int32 × St => (some (Value.int t.1), t.2) = r0)) t) : Zw X Γ 4 r0 s 4 [(0, .ref (gL Γ (r))), (1, .ref (gL Γ (v1))), (2, .int v2), (3, .int v3)] [] := by
  unfold f_X2_sumOfLives_L4 at h
  refine z_iload_n hX dX2_sumOfLives_4 3 rfl 5 rfl ?_
  refine z_aload_n hX dX2_sumOfLives_5 0 rfl 6 rfl ?_
  replace h := gd_elim h
  obtain ⟨g1, h⟩ := h
  refine z_get2 hX (k := r) (j := 0) (v := .int ((s.1 r 0))) g1 (by decide) rfl dX2_sumOfLives_6 fl_X2_9 9 rfl ?_
  refine z_icmp_ge hX 24 dX2_sumOfLives_9 (by decide) 12 rfl (fun c2 => ?_) (fun c2 => ?_)
  · replace h := br_pos h c2
    refine z_iload_n hX dX2_sumOfLives_24 2 rfl 25 rfl ?_
    cases h
    exact z_iret hX dX2_sumOfLives_25 rfl hk
  · replace h := br_neg h c2
    refine z_iload_n hX dX2_sumOfLives_12 2 rfl 13 rfl ?_
    refine z_aload_n hX dX2_sumOfLives_13 1 rfl 14 rfl ?_
    refine z_iload_n hX dX2_sumOfLives_14 3 rfl 15 rfl ?_
    replace h := gd_elim h
    obtain ⟨g3, h⟩ := h
    refine z_iald hX (inb_vp g3) dX2_sumOfLives_15 16 rfl ?_
    refine z_iadd hX dX2_sumOfLives_16 17 rfl ?_
    replace h := bd_elim h
    obtain ⟨x4, ex4, h⟩ := h
    refine z_nm ex4 ?_
    refine z_istore_n hX (lv2 := [(2, .int x4), (0, .ref (gL Γ (r))), (1, .ref (gL Γ (v1))), (3, .int v3)]) dX2_sumOfLives_17 (by decide) rfl 18 rfl ?_
    refine z_iinc hX (v := (v3 + (nI 1))) (lv2 := [(3, .int ((v3 + (nI 1)))), (2, .int x4), (0, .ref (gL Γ (r))), (1, .ref (gL Γ (v1)))]) dX2_sumOfLives_18 3 rfl rfl (by decide) rfl 21 rfl ?_
    refine z_goto hX 4 dX2_sumOfLives_21 (by decide) ?_
    cases h
    exact z_sub [2, 3, 1, 0] rfl hk
set_option maxHeartbeats 4000000 in
set_option maxRecDepth 100000 in
theorem e_X2_sumOfLives {X : Cx} {Γ : Gm} {r0 : Option Value × St} (hX : Amb X Γ cX2_sumOfLives RX2 4 (some .int) 0) {r : Nat} {a1 : Nat} {s : St} {t : Int32 × St} (h : f_X2_sumOfLives r a1 s = some t) (hk : (fun t : Int32 × St => (some (Value.int t.1), t.2) = r0) t) : Zw X Γ 4 r0 s 0 [(0, .ref (gL Γ (r))), (1, .ref (gL Γ (a1)))] [] := by
  unfold f_X2_sumOfLives at h
  refine z_iconst hX (v := (nI 0)) dX2_sumOfLives_0 rfl 1 rfl ?_
  refine z_istore_n hX (lv2 := [(2, .int ((nI 0))), (0, .ref (gL Γ (r))), (1, .ref (gL Γ (a1)))]) dX2_sumOfLives_1 (by decide) rfl 2 rfl ?_
  refine z_iconst hX (v := (nI 0)) dX2_sumOfLives_2 rfl 3 rfl ?_
  refine z_istore_n hX (lv2 := [(3, .int ((nI 0))), (2, .int ((nI 0))), (0, .ref (gL Γ (r))), (1, .ref (gL Γ (a1)))]) dX2_sumOfLives_3 (by decide) rfl 4 rfl ?_
  exact z_sub [2, 3, 1, 0] rfl (lp_ok (Z := fun q : Int32 × Int32 × St => Zw X Γ 4 r0 q.2.2 4 [(0, .ref (gL Γ (r))), (1, .ref (gL Γ (a1))), (2, .int q.1), (3, .int q.2.1)] []) (fun q t h hk => e_X2_sumOfLives_L4 hX h hk) Fu _ _ h hk)
theorem c_X2_sumOfLives {lc : Launch} {Γ : Gm} {r : Nat} {a1 : Nat} {s s2 : St} {v : Int32} (h : f_X2_sumOfLives r a1 s = some (v, s2)) : Ct lc Γ yX2_sumOfLives cX2_sumOfLives 4 (some .int) 0 [.ref (gL Γ (r)), .ref (gL Γ (a1))] s (some (.int v), s2) := Ct.of (by decide +kernel) (Nat.le_of_ble_eq_true rfl) (fun X hl hX => e_X2_sumOfLives hX h rfl)
theorem dX2_isOver_0 : decode cX2_isOver 0 = .ok (.aload_n 0, 1) := by decide +kernel
theorem dX2_isOver_1 : decode cX2_isOver 1 = .ok (.aload_n 0, 1) := by decide +kernel
theorem dX2_isOver_2 : decode cX2_isOver 2 = .ok (.getfield 37, 3) := by decide +kernel
theorem dX2_isOver_5 : decode cX2_isOver 5 = .ok (.invokevirtual 81, 3) := by decide +kernel
theorem dX2_isOver_8 : decode cX2_isOver 8 = .ok (.ifCond .ne 18, 3) := by decide +kernel
theorem dX2_isOver_11 : decode cX2_isOver 11 = .ok (.aload_n 0, 1) := by decide +kernel
theorem dX2_isOver_12 : decode cX2_isOver 12 = .ok (.aload_n 0, 1) := by decide +kernel
theorem dX2_isOver_13 : decode cX2_isOver 13 = .ok (.getfield 31, 3) := by decide +kernel
theorem dX2_isOver_16 : decode cX2_isOver 16 = .ok (.invokevirtual 81, 3) := by decide +kernel
theorem dX2_isOver_19 : decode cX2_isOver 19 = .ok (.ifCond .ne 7, 3) := by decide +kernel
theorem dX2_isOver_22 : decode cX2_isOver 22 = .ok (.iconst 1, 1) := by decide +kernel
theorem dX2_isOver_23 : decode cX2_isOver 23 = .ok (.goto 4, 3) := by decide +kernel
theorem dX2_isOver_26 : decode cX2_isOver 26 = .ok (.iconst 0, 1) := by decide +kernel
theorem dX2_isOver_27 : decode cX2_isOver 27 = .ok (.ireturn, 1) := by decide +kernel
def f_X2_isOver (r : Nat) (s : St) : Option (Int32 × St) := if kd (r) = 2 then cl (f_X2_sumOfLives r (r + 6) s) (fun x3 s2 => if ¬ x3 = 0 then (some (((nI 0), s2))) else (cl (f_X2_sumOfLives r (r + 4) s2) (fun x6 s5 => if ¬ x6 = 0 then (some (((nI 0), s5))) else (some (((nI 1), s5)))))) else none
set_option maxHeartbeats 4000000 in
set_option maxRecDepth 100000 in
theorem e_X2_isOver {X : Cx} {Γ : Gm} {r0 : Option Value × St} (hX : Amb X Γ cX2_isOver RX2 1 (some .boolean) 1) {r : Nat} {s : St} {t : Int32 × St} (h : f_X2_isOver r s = some t) (hk : (fun t : Int32 × St => (some (Value.int t.1), t.2) = r0) t) : Zw X Γ 1 r0 s 0 [(0, .ref (gL Γ (r)))] [] := by
  unfold f_X2_isOver at h
  refine z_aload_n hX dX2_isOver_0 0 rfl 1 rfl ?_
  refine z_aload_n hX dX2_isOver_1 0 rfl 2 rfl ?_
  replace h := gd_elim h
  obtain ⟨g1, h⟩ := h
  refine z_get2 hX (k := r) (j := 8) (v := .ref (gL Γ (r + 6))) g1 (by decide) rfl dX2_isOver_2 fl_X2_37 5 rfl ?_
  replace h := cl_elim h
  obtain ⟨x3, s2, hx3, h⟩ := h
  refine z_cV2i hX (b := r) (As := [.ref (gL Γ (r + 6))]) (c_X2_sumOfLives hx3) lk_X2_81 rfl g1 ds_X2_sumOfLives rfl (by decide) (by decide) (by decide) dX2_isOver_5 rfl 8 rfl ?_
  refine z_if_ne hX 26 dX2_isOver_8 (by decide) 11 rfl (fun c4 => ?_) (fun c4 => ?_)
  · replace h := br_pos h c4
    refine z_iconst hX (v := (nI 0)) dX2_isOver_26 rfl 27 rfl ?_
    cases h
    exact z_zret hX dX2_isOver_27 rfl (by decide) hk
  · replace h := br_neg h c4
    refine z_aload_n hX dX2_isOver_11 0 rfl 12 rfl ?_
    refine z_aload_n hX dX2_isOver_12 0 rfl 13 rfl ?_
    refine z_get2 hX (k := r) (j := 6) (v := .ref (gL Γ (r + 4))) g1 (by decide) rfl dX2_isOver_13 fl_X2_31 16 rfl ?_
    replace h := cl_elim h
    obtain ⟨x6, s5, hx6, h⟩ := h
    refine z_cV2i hX (b := r) (As := [.ref (gL Γ (r + 4))]) (c_X2_sumOfLives hx6) lk_X2_81 rfl g1 ds_X2_sumOfLives rfl (by decide) (by decide) (by decide) dX2_isOver_16 rfl 19 rfl ?_
    refine z_if_ne hX 26 dX2_isOver_19 (by decide) 22 rfl (fun c7 => ?_) (fun c7 => ?_)
    · replace h := br_pos h c7
      refine z_iconst hX (v := (nI 0)) dX2_isOver_26 rfl 27 rfl ?_
      cases h
      exact z_zret hX dX2_isOver_27 rfl (by decide) hk
    · replace h := br_neg h c7
      refine z_iconst hX (v := (nI 1)) dX2_isOver_22 rfl 23 rfl ?_
      refine z_goto hX 27 dX2_isOver_23 (by decide) ?_
      cases h
      exact z_zret hX dX2_isOver_27 rfl (by decide) hk
theorem c_X2_isOver {lc : Launch} {Γ : Gm} {r : Nat} {s s2 : St} {v : Int32} (h : f_X2_isOver r s = some (v, s2)) : Ct lc Γ yX2_isOver cX2_isOver 1 (some .boolean) 1 [.ref (gL Γ (r))] s (some (.int v), s2) := Ct.of (by decide +kernel) (Nat.le_of_ble_eq_true rfl) (fun X hl hX => e_X2_isOver hX h rfl)
theorem dX2_wayNow_0 : decode cX2_wayNow 0 = .ok (.aload_n 0, 1) := by decide +kernel
theorem dX2_wayNow_1 : decode cX2_wayNow 1 = .ok (.getfield 52, 3) := by decide +kernel
theorem dX2_wayNow_4 : decode cX2_wayNow 4 = .ok (.aload_n 0, 1) := by decide +kernel
theorem dX2_wayNow_5 : decode cX2_wayNow 5 = .ok (.getfield 18, 3) := by decide +kernel
theorem dX2_wayNow_8 : decode cX2_wayNow 8 = .ok (.bipush 6, 2) := by decide +kernel
theorem dX2_wayNow_10 : decode cX2_wayNow 10 = .ok (.irem, 1) := by decide +kernel
theorem dX2_wayNow_11 : decode cX2_wayNow 11 = .ok (.iaload, 1) := by decide +kernel
theorem dX2_wayNow_12 : decode cX2_wayNow 12 = .ok (.ireturn, 1) := by decide +kernel
def f_X2_wayNow (r : Nat) (s : St) : Option (Int32 × St) := if kd (r) = 2 then if inb ((s.1 r 2) - (s.1 r 2) / (nI 6) * (nI 6)) (lnI (r + 11)) = true then some (((s.1 (r + 11) (((s.1 r 2) - (s.1 r 2) / (nI 6) * (nI 6))).toNatClampNeg), s)) else none else none
set_option maxHeartbeats 4000000 in
set_option maxRecDepth 100000 in
theorem e_X2_wayNow {X : Cx} {Γ : Gm} {r0 : Option Value × St} (hX : Amb X Γ cX2_wayNow RX2 1 (some .int) 0) {r : Nat} {s : St} {t : Int32 × St} (h : f_X2_wayNow r s = some t) (hk : (fun t : Int32 × St => (some (Value.int t.1), t.2) = r0) t) : Zw X Γ 1 r0 s 0 [(0, .ref (gL Γ (r)))] [] := by
  unfold f_X2_wayNow at h
  refine z_aload_n hX dX2_wayNow_0 0 rfl 1 rfl ?_
  replace h := gd_elim h
  obtain ⟨g1, h⟩ := h
  refine z_get2 hX (k := r) (j := 13) (v := .ref (gL Γ (r + 11))) g1 (by decide) rfl dX2_wayNow_1 fl_X2_52 4 rfl ?_
  refine z_aload_n hX dX2_wayNow_4 0 rfl 5 rfl ?_
  refine z_get2 hX (k := r) (j := 2) (v := .int ((s.1 r 2))) g1 (by decide) rfl dX2_wayNow_5 fl_X2_18 8 rfl ?_
  refine z_bipush hX (v := (nI 6)) dX2_wayNow_8 (by decide) 10 rfl ?_
  refine z_irem hX dX2_wayNow_10 (by decide) 11 rfl ?_
  replace h := gd_elim h
  obtain ⟨g2, h⟩ := h
  refine z_iald hX (inb_vp g2) dX2_wayNow_11 12 rfl ?_
  cases h
  exact z_iret hX dX2_wayNow_12 rfl hk
theorem c_X2_wayNow {lc : Launch} {Γ : Gm} {r : Nat} {s s2 : St} {v : Int32} (h : f_X2_wayNow r s = some (v, s2)) : Ct lc Γ yX2_wayNow cX2_wayNow 1 (some .int) 0 [.ref (gL Γ (r))] s (some (.int v), s2) := Ct.of (by decide +kernel) (Nat.le_of_ble_eq_true rfl) (fun X hl hX => e_X2_wayNow hX h rfl)
theorem dX2_tellAll_0 : decode cX2_tellAll 0 = .ok (.iconst 0, 1) := by decide +kernel
theorem dX2_tellAll_1 : decode cX2_tellAll 1 = .ok (.istore_n 1, 1) := by decide +kernel
theorem dX2_tellAll_2 : decode cX2_tellAll 2 = .ok (.iload_n 1, 1) := by decide +kernel
theorem dX2_tellAll_3 : decode cX2_tellAll 3 = .ok (.aload_n 0, 1) := by decide +kernel
theorem dX2_tellAll_4 : decode cX2_tellAll 4 = .ok (.getfield 9, 3) := by decide +kernel
theorem dX2_tellAll_7 : decode cX2_tellAll 7 = .ok (.if_icmp .ge 65, 3) := by decide +kernel
theorem dX2_tellAll_10 : decode cX2_tellAll 10 = .ok (.aload_n 0, 1) := by decide +kernel
theorem dX2_tellAll_11 : decode cX2_tellAll 11 = .ok (.getfield 28, 3) := by decide +kernel
theorem dX2_tellAll_14 : decode cX2_tellAll 14 = .ok (.iload_n 1, 1) := by decide +kernel
theorem dX2_tellAll_15 : decode cX2_tellAll 15 = .ok (.iaload, 1) := by decide +kernel
theorem dX2_tellAll_16 : decode cX2_tellAll 16 = .ok (.aload_n 0, 1) := by decide +kernel
theorem dX2_tellAll_17 : decode cX2_tellAll 17 = .ok (.getfield 31, 3) := by decide +kernel
theorem dX2_tellAll_20 : decode cX2_tellAll 20 = .ok (.iload_n 1, 1) := by decide +kernel
theorem dX2_tellAll_21 : decode cX2_tellAll 21 = .ok (.iaload, 1) := by decide +kernel
theorem dX2_tellAll_22 : decode cX2_tellAll 22 = .ok (.invokestatic 106, 3) := by decide +kernel
theorem dX2_tellAll_25 : decode cX2_tellAll 25 = .ok (.istore_n 2, 1) := by decide +kernel
theorem dX2_tellAll_26 : decode cX2_tellAll 26 = .ok (.aload_n 0, 1) := by decide +kernel
theorem dX2_tellAll_27 : decode cX2_tellAll 27 = .ok (.getfield 31, 3) := by decide +kernel
theorem dX2_tellAll_30 : decode cX2_tellAll 30 = .ok (.iload_n 1, 1) := by decide +kernel
theorem dX2_tellAll_31 : decode cX2_tellAll 31 = .ok (.dup2, 1) := by decide +kernel
theorem dX2_tellAll_32 : decode cX2_tellAll 32 = .ok (.iaload, 1) := by decide +kernel
theorem dX2_tellAll_33 : decode cX2_tellAll 33 = .ok (.iload_n 2, 1) := by decide +kernel
theorem dX2_tellAll_34 : decode cX2_tellAll 34 = .ok (.isub, 1) := by decide +kernel
theorem dX2_tellAll_35 : decode cX2_tellAll 35 = .ok (.iastore, 1) := by decide +kernel
theorem dX2_tellAll_36 : decode cX2_tellAll 36 = .ok (.aload_n 0, 1) := by decide +kernel
theorem dX2_tellAll_37 : decode cX2_tellAll 37 = .ok (.getfield 37, 3) := by decide +kernel
theorem dX2_tellAll_40 : decode cX2_tellAll 40 = .ok (.iload_n 1, 1) := by decide +kernel
theorem dX2_tellAll_41 : decode cX2_tellAll 41 = .ok (.dup2, 1) := by decide +kernel
theorem dX2_tellAll_42 : decode cX2_tellAll 42 = .ok (.iaload, 1) := by decide +kernel
theorem dX2_tellAll_43 : decode cX2_tellAll 43 = .ok (.iload_n 2, 1) := by decide +kernel
theorem dX2_tellAll_44 : decode cX2_tellAll 44 = .ok (.iadd, 1) := by decide +kernel
theorem dX2_tellAll_45 : decode cX2_tellAll 45 = .ok (.iastore, 1) := by decide +kernel
theorem dX2_tellAll_46 : decode cX2_tellAll 46 = .ok (.aload_n 0, 1) := by decide +kernel
theorem dX2_tellAll_47 : decode cX2_tellAll 47 = .ok (.getfield 40, 3) := by decide +kernel
theorem dX2_tellAll_50 : decode cX2_tellAll 50 = .ok (.iload_n 1, 1) := by decide +kernel
theorem dX2_tellAll_51 : decode cX2_tellAll 51 = .ok (.bipush 20, 2) := by decide +kernel
theorem dX2_tellAll_53 : decode cX2_tellAll 53 = .ok (.imul, 1) := by decide +kernel
theorem dX2_tellAll_54 : decode cX2_tellAll 54 = .ok (.aload_n 0, 1) := by decide +kernel
theorem dX2_tellAll_55 : decode cX2_tellAll 55 = .ok (.getfield 25, 3) := by decide +kernel
theorem dX2_tellAll_58 : decode cX2_tellAll 58 = .ok (.iload_n 1, 1) := by decide +kernel
theorem dX2_tellAll_59 : decode cX2_tellAll 59 = .ok (.iaload, 1) := by decide +kernel
theorem dX2_tellAll_60 : decode cX2_tellAll 60 = .ok (.iadd, 1) := by decide +kernel
theorem dX2_tellAll_61 : decode cX2_tellAll 61 = .ok (.dup2, 1) := by decide +kernel
theorem dX2_tellAll_62 : decode cX2_tellAll 62 = .ok (.iaload, 1) := by decide +kernel
theorem dX2_tellAll_63 : decode cX2_tellAll 63 = .ok (.iload_n 2, 1) := by decide +kernel
theorem dX2_tellAll_64 : decode cX2_tellAll 64 = .ok (.iadd, 1) := by decide +kernel
theorem dX2_tellAll_65 : decode cX2_tellAll 65 = .ok (.iastore, 1) := by decide +kernel
theorem dX2_tellAll_66 : decode cX2_tellAll 66 = .ok (.iinc 1 1, 3) := by decide +kernel
theorem dX2_tellAll_69 : decode cX2_tellAll 69 = .ok (.goto (-67), 3) := by decide +kernel
theorem dX2_tellAll_72 : decode cX2_tellAll 72 = .ok (.return_, 1) := by decide +kernel
def f_X2_tellAll_L2 (r : Nat) (v1 : Int32) (s : St) : Option ((Int32 × St) ⊕ (Unit × St)) := if kd (r) = 2 then if (s.1 r 0) ≤ v1 then (some (Sum.inr (((), s)))) else (if inb v1 (lnI (r + 3)) = true then if inb v1 (lnI (r + 4)) = true then bd (if (s.1 (r + 4) (v1).toNatClampNeg) < (s.1 (r + 3) (v1).toNatClampNeg) then (s.1 (r + 4) (v1).toNatClampNeg) else (s.1 (r + 3) (v1).toNatClampNeg)) (fun x5 => if inb v1 (lnI (r + 4)) = true then if inb v1 (lnI (r + 4)) = true then bd (wI s (r + 4) (v1).toNatClampNeg ((s.1 (r + 4) (v1).toNatClampNeg) - x5)) (fun s8 => if inb v1 (lnI (r + 6)) = true then if inb v1 (lnI (r + 6)) = true then bd (wI s8 (r + 6) (v1).toNatClampNeg ((s8.1 (r + 6) (v1).toNatClampNeg) + x5)) (fun s11 => if inb v1 (lnI (r + 2)) = true then if inb ((v1 * (nI 20)) + (s11.1 (r + 2) (v1).toNatClampNeg)) (lnI (r + 7)) = true then if inb ((v1 * (nI 20)) + (s11.1 (r + 2) (v1).toNatClampNeg)) (lnI (r + 7)) = true then bd (wI s11 (r + 7) (((v1 * (nI 20)) + (s11.1 (r + 2) (v1).toNatClampNeg))).toNatClampNeg ((s11.1 (r + 7) (((v1 * (nI 20)) + (s11.1 (r + 2) (v1).toNatClampNeg))).toNatClampNeg) + x5)) (fun s15 => some (Sum.inl ((v1 + (nI 1)), s15))) else none else none else none) else none else none) else none else none) else none else none) else none
def f_X2_tellAll (r : Nat) (s : St) : Option (Unit × St) := lp (fun q : Int32 × St => f_X2_tellAll_L2 r q.1 q.2) Fu ((nI 0), s)
set_option maxHeartbeats 4000000 in
set_option maxRecDepth 100000 in
theorem e_X2_tellAll_L2 {X : Cx} {Γ : Gm} {r0 : Option Value × St} (hX : Amb X Γ cX2_tellAll RX2 3 none 1) {r : Nat} {v1 : Int32} {s : St} {t : (Int32 × St) ⊕ (Unit × St)} (h : f_X2_tellAll_L2 r v1 s = some t) (hk : (Sum.elim (fun q : Int32 × St => Zw X Γ 3 r0 q.2 2 [(0, .ref (gL Γ (r))), (1, .int q.1)] []) (fun t : Unit × St => ((none : Option Value), t.2) = r0)) t) : Zw X Γ 3 r0 s 2 [(0, .ref (gL Γ (r))), (1, .int v1)] [] := by
  unfold f_X2_tellAll_L2 at h
  refine z_iload_n hX dX2_tellAll_2 1 rfl 3 rfl ?_
  refine z_aload_n hX dX2_tellAll_3 0 rfl 4 rfl ?_
  replace h := gd_elim h
  obtain ⟨g1, h⟩ := h
  refine z_get2 hX (k := r) (j := 0) (v := .int ((s.1 r 0))) g1 (by decide) rfl dX2_tellAll_4 fl_X2_9 7 rfl ?_
  refine z_icmp_ge hX 72 dX2_tellAll_7 (by decide) 10 rfl (fun c2 => ?_) (fun c2 => ?_)
  · replace h := br_pos h c2
    cases h
    exact z_vret hX dX2_tellAll_72 rfl hk
  · replace h := br_neg h c2
    refine z_aload_n hX dX2_tellAll_10 0 rfl 11 rfl ?_
    refine z_get2 hX (k := r) (j := 5) (v := .ref (gL Γ (r + 3))) g1 (by decide) rfl dX2_tellAll_11 fl_X2_28 14 rfl ?_
    refine z_iload_n hX dX2_tellAll_14 1 rfl 15 rfl ?_
    replace h := gd_elim h
    obtain ⟨g3, h⟩ := h
    refine z_iald hX (inb_vp g3) dX2_tellAll_15 16 rfl ?_
    refine z_aload_n hX dX2_tellAll_16 0 rfl 17 rfl ?_
    refine z_get2 hX (k := r) (j := 6) (v := .ref (gL Γ (r + 4))) g1 (by decide) rfl dX2_tellAll_17 fl_X2_31 20 rfl ?_
    refine z_iload_n hX dX2_tellAll_20 1 rfl 21 rfl ?_
    replace h := gd_elim h
    obtain ⟨g4, h⟩ := h
    refine z_iald hX (inb_vp g4) dX2_tellAll_21 22 rfl ?_
    refine z_mmin hX ml_X2_106 st_min in_Math co_min (by decide) (by decide) dX2_tellAll_22 25 rfl ?_
    replace h := bd_elim h
    obtain ⟨x5, ex5, h⟩ := h
    refine z_nm ex5 ?_
    refine z_istore_n hX (lv2 := [(2, .int x5), (0, .ref (gL Γ (r))), (1, .int v1)]) dX2_tellAll_25 (by decide) rfl 26 rfl ?_
    refine z_aload_n hX dX2_tellAll_26 1 rfl 27 rfl ?_
    refine z_get2 hX (k := r) (j := 6) (v := .ref (gL Γ (r + 4))) g1 (by decide) rfl dX2_tellAll_27 fl_X2_31 30 rfl ?_
    refine z_iload_n hX dX2_tellAll_30 2 rfl 31 rfl ?_
    refine z_dup2 hX dX2_tellAll_31 rfl rfl 32 rfl ?_
    replace h := gd_elim h
    obtain ⟨g6, h⟩ := h
    refine z_iald hX (inb_vp g6) dX2_tellAll_32 33 rfl ?_
    refine z_iload_n hX dX2_tellAll_33 0 rfl 34 rfl ?_
    refine z_isub hX dX2_tellAll_34 35 rfl ?_
    replace h := gd_elim h
    obtain ⟨g7, h⟩ := h
    replace h := bd_elim h
    obtain ⟨s8, es8, h⟩ := h
    refine z_iast hX (inb_vp g7) dX2_tellAll_35 es8 36 rfl ?_
    refine z_aload_n hX dX2_tellAll_36 1 rfl 37 rfl ?_
    refine z_get2 hX (k := r) (j := 8) (v := .ref (gL Γ (r + 6))) g1 (by decide) rfl dX2_tellAll_37 fl_X2_37 40 rfl ?_
    refine z_iload_n hX dX2_tellAll_40 2 rfl 41 rfl ?_
    refine z_dup2 hX dX2_tellAll_41 rfl rfl 42 rfl ?_
    replace h := gd_elim h
    obtain ⟨g9, h⟩ := h
    refine z_iald hX (inb_vp g9) dX2_tellAll_42 43 rfl ?_
    refine z_iload_n hX dX2_tellAll_43 0 rfl 44 rfl ?_
    refine z_iadd hX dX2_tellAll_44 45 rfl ?_
    replace h := gd_elim h
    obtain ⟨g10, h⟩ := h
    replace h := bd_elim h
    obtain ⟨s11, es11, h⟩ := h
    refine z_iast hX (inb_vp g10) dX2_tellAll_45 es11 46 rfl ?_
    refine z_aload_n hX dX2_tellAll_46 1 rfl 47 rfl ?_
    refine z_get2 hX (k := r) (j := 9) (v := .ref (gL Γ (r + 7))) g1 (by decide) rfl dX2_tellAll_47 fl_X2_40 50 rfl ?_
    refine z_iload_n hX dX2_tellAll_50 2 rfl 51 rfl ?_
    refine z_bipush hX (v := (nI 20)) dX2_tellAll_51 (by decide) 53 rfl ?_
    refine z_imul hX dX2_tellAll_53 54 rfl ?_
    refine z_aload_n hX dX2_tellAll_54 1 rfl 55 rfl ?_
    refine z_get2 hX (k := r) (j := 4) (v := .ref (gL Γ (r + 2))) g1 (by decide) rfl dX2_tellAll_55 fl_X2_25 58 rfl ?_
    refine z_iload_n hX dX2_tellAll_58 2 rfl 59 rfl ?_
    replace h := gd_elim h
    obtain ⟨g12, h⟩ := h
    refine z_iald hX (inb_vp g12) dX2_tellAll_59 60 rfl ?_
    refine z_iadd hX dX2_tellAll_60 61 rfl ?_
    refine z_dup2 hX dX2_tellAll_61 rfl rfl 62 rfl ?_
    replace h := gd_elim h
    obtain ⟨g13, h⟩ := h
    refine z_iald hX (inb_vp g13) dX2_tellAll_62 63 rfl ?_
    refine z_iload_n hX dX2_tellAll_63 0 rfl 64 rfl ?_
    refine z_iadd hX dX2_tellAll_64 65 rfl ?_
    replace h := gd_elim h
    obtain ⟨g14, h⟩ := h
    replace h := bd_elim h
    obtain ⟨s15, es15, h⟩ := h
    refine z_iast hX (inb_vp g14) dX2_tellAll_65 es15 66 rfl ?_
    refine z_iinc hX (v := (v1 + (nI 1))) (lv2 := [(1, .int ((v1 + (nI 1)))), (2, .int x5), (0, .ref (gL Γ (r)))]) dX2_tellAll_66 2 rfl rfl (by decide) rfl 69 rfl ?_
    refine z_goto hX 2 dX2_tellAll_69 (by decide) ?_
    cases h
    exact z_sub [2, 0] rfl hk
set_option maxHeartbeats 4000000 in
set_option maxRecDepth 100000 in
theorem e_X2_tellAll {X : Cx} {Γ : Gm} {r0 : Option Value × St} (hX : Amb X Γ cX2_tellAll RX2 3 none 1) {r : Nat} {s : St} {t : Unit × St} (h : f_X2_tellAll r s = some t) (hk : (fun t : Unit × St => ((none : Option Value), t.2) = r0) t) : Zw X Γ 3 r0 s 0 [(0, .ref (gL Γ (r)))] [] := by
  unfold f_X2_tellAll at h
  refine z_iconst hX (v := (nI 0)) dX2_tellAll_0 rfl 1 rfl ?_
  refine z_istore_n hX (lv2 := [(1, .int ((nI 0))), (0, .ref (gL Γ (r)))]) dX2_tellAll_1 (by decide) rfl 2 rfl ?_
  exact z_sub [1, 0] rfl (lp_ok (Z := fun q : Int32 × St => Zw X Γ 3 r0 q.2 2 [(0, .ref (gL Γ (r))), (1, .int q.1)] []) (fun q t h hk => e_X2_tellAll_L2 hX h hk) Fu _ _ h hk)
theorem c_X2_tellAll {lc : Launch} {Γ : Gm} {r : Nat} {s s2 : St} {v : Unit} (h : f_X2_tellAll r s = some (v, s2)) : Ct lc Γ yX2_tellAll cX2_tellAll 3 none 1 [.ref (gL Γ (r))] s (none, s2) := Ct.of (by decide +kernel) (Nat.le_of_ble_eq_true rfl) (fun X hl hX => e_X2_tellAll hX h rfl)
theorem dX2_takeAll_0 : decode cX2_takeAll 0 = .ok (.iconst 0, 1) := by decide +kernel
theorem dX2_takeAll_1 : decode cX2_takeAll 1 = .ok (.istore_n 1, 1) := by decide +kernel
theorem dX2_takeAll_2 : decode cX2_takeAll 2 = .ok (.iconst 0, 1) := by decide +kernel
theorem dX2_takeAll_3 : decode cX2_takeAll 3 = .ok (.istore_n 2, 1) := by decide +kernel
theorem dX2_takeAll_4 : decode cX2_takeAll 4 = .ok (.iload_n 2, 1) := by decide +kernel
theorem dX2_takeAll_5 : decode cX2_takeAll 5 = .ok (.aload_n 0, 1) := by decide +kernel
theorem dX2_takeAll_6 : decode cX2_takeAll 6 = .ok (.getfield 15, 3) := by decide +kernel
theorem dX2_takeAll_9 : decode cX2_takeAll 9 = .ok (.if_icmp .ge 127, 3) := by decide +kernel
theorem dX2_takeAll_12 : decode cX2_takeAll 12 = .ok (.aload_n 0, 1) := by decide +kernel
theorem dX2_takeAll_13 : decode cX2_takeAll 13 = .ok (.getfield 46, 3) := by decide +kernel
theorem dX2_takeAll_16 : decode cX2_takeAll 16 = .ok (.iload_n 2, 1) := by decide +kernel
theorem dX2_takeAll_17 : decode cX2_takeAll 17 = .ok (.iaload, 1) := by decide +kernel
theorem dX2_takeAll_18 : decode cX2_takeAll 18 = .ok (.istore_n 3, 1) := by decide +kernel
theorem dX2_takeAll_19 : decode cX2_takeAll 19 = .ok (.iconst 0, 1) := by decide +kernel
theorem dX2_takeAll_20 : decode cX2_takeAll 20 = .ok (.istore 4, 2) := by decide +kernel
theorem dX2_takeAll_22 : decode cX2_takeAll 22 = .ok (.iload 4, 2) := by decide +kernel
theorem dX2_takeAll_24 : decode cX2_takeAll 24 = .ok (.aload_n 0, 1) := by decide +kernel
theorem dX2_takeAll_25 : decode cX2_takeAll 25 = .ok (.getfield 9, 3) := by decide +kernel
theorem dX2_takeAll_28 : decode cX2_takeAll 28 = .ok (.if_icmp .ge 91, 3) := by decide +kernel
theorem dX2_takeAll_31 : decode cX2_takeAll 31 = .ok (.iload_n 3, 1) := by decide +kernel
theorem dX2_takeAll_32 : decode cX2_takeAll 32 = .ok (.ifCond .le 87, 3) := by decide +kernel
theorem dX2_takeAll_35 : decode cX2_takeAll 35 = .ok (.iload_n 3, 1) := by decide +kernel
theorem dX2_takeAll_36 : decode cX2_takeAll 36 = .ok (.aload_n 0, 1) := by decide +kernel
theorem dX2_takeAll_37 : decode cX2_takeAll 37 = .ok (.getfield 40, 3) := by decide +kernel
theorem dX2_takeAll_40 : decode cX2_takeAll 40 = .ok (.iload 4, 2) := by decide +kernel
theorem dX2_takeAll_42 : decode cX2_takeAll 42 = .ok (.bipush 20, 2) := by decide +kernel
theorem dX2_takeAll_44 : decode cX2_takeAll 44 = .ok (.imul, 1) := by decide +kernel
theorem dX2_takeAll_45 : decode cX2_takeAll 45 = .ok (.aload_n 0, 1) := by decide +kernel
theorem dX2_takeAll_46 : decode cX2_takeAll 46 = .ok (.getfield 43, 3) := by decide +kernel
theorem dX2_takeAll_49 : decode cX2_takeAll 49 = .ok (.iload_n 2, 1) := by decide +kernel
theorem dX2_takeAll_50 : decode cX2_takeAll 50 = .ok (.iaload, 1) := by decide +kernel
theorem dX2_takeAll_51 : decode cX2_takeAll 51 = .ok (.iadd, 1) := by decide +kernel
theorem dX2_takeAll_52 : decode cX2_takeAll 52 = .ok (.iaload, 1) := by decide +kernel
theorem dX2_takeAll_53 : decode cX2_takeAll 53 = .ok (.invokestatic 106, 3) := by decide +kernel
theorem dX2_takeAll_56 : decode cX2_takeAll 56 = .ok (.istore 5, 2) := by decide +kernel
theorem dX2_takeAll_58 : decode cX2_takeAll 58 = .ok (.aload_n 0, 1) := by decide +kernel
theorem dX2_takeAll_59 : decode cX2_takeAll 59 = .ok (.getfield 40, 3) := by decide +kernel
theorem dX2_takeAll_62 : decode cX2_takeAll 62 = .ok (.iload 4, 2) := by decide +kernel
theorem dX2_takeAll_64 : decode cX2_takeAll 64 = .ok (.bipush 20, 2) := by decide +kernel
theorem dX2_takeAll_66 : decode cX2_takeAll 66 = .ok (.imul, 1) := by decide +kernel
theorem dX2_takeAll_67 : decode cX2_takeAll 67 = .ok (.aload_n 0, 1) := by decide +kernel
theorem dX2_takeAll_68 : decode cX2_takeAll 68 = .ok (.getfield 43, 3) := by decide +kernel
theorem dX2_takeAll_71 : decode cX2_takeAll 71 = .ok (.iload_n 2, 1) := by decide +kernel
theorem dX2_takeAll_72 : decode cX2_takeAll 72 = .ok (.iaload, 1) := by decide +kernel
theorem dX2_takeAll_73 : decode cX2_takeAll 73 = .ok (.iadd, 1) := by decide +kernel
theorem dX2_takeAll_74 : decode cX2_takeAll 74 = .ok (.dup2, 1) := by decide +kernel
theorem dX2_takeAll_75 : decode cX2_takeAll 75 = .ok (.iaload, 1) := by decide +kernel
theorem dX2_takeAll_76 : decode cX2_takeAll 76 = .ok (.iload 5, 2) := by decide +kernel
theorem dX2_takeAll_78 : decode cX2_takeAll 78 = .ok (.isub, 1) := by decide +kernel
theorem dX2_takeAll_79 : decode cX2_takeAll 79 = .ok (.iastore, 1) := by decide +kernel
theorem dX2_takeAll_80 : decode cX2_takeAll 80 = .ok (.aload_n 0, 1) := by decide +kernel
theorem dX2_takeAll_81 : decode cX2_takeAll 81 = .ok (.getfield 37, 3) := by decide +kernel
theorem dX2_takeAll_84 : decode cX2_takeAll 84 = .ok (.iload 4, 2) := by decide +kernel
theorem dX2_takeAll_86 : decode cX2_takeAll 86 = .ok (.dup2, 1) := by decide +kernel
theorem dX2_takeAll_87 : decode cX2_takeAll 87 = .ok (.iaload, 1) := by decide +kernel
theorem dX2_takeAll_88 : decode cX2_takeAll 88 = .ok (.iload 5, 2) := by decide +kernel
theorem dX2_takeAll_90 : decode cX2_takeAll 90 = .ok (.isub, 1) := by decide +kernel
theorem dX2_takeAll_91 : decode cX2_takeAll 91 = .ok (.iastore, 1) := by decide +kernel
theorem dX2_takeAll_92 : decode cX2_takeAll 92 = .ok (.aload_n 0, 1) := by decide +kernel
theorem dX2_takeAll_93 : decode cX2_takeAll 93 = .ok (.getfield 49, 3) := by decide +kernel
theorem dX2_takeAll_96 : decode cX2_takeAll 96 = .ok (.iload_n 2, 1) := by decide +kernel
theorem dX2_takeAll_97 : decode cX2_takeAll 97 = .ok (.iconst 3, 1) := by decide +kernel
theorem dX2_takeAll_98 : decode cX2_takeAll 98 = .ok (.imul, 1) := by decide +kernel
theorem dX2_takeAll_99 : decode cX2_takeAll 99 = .ok (.iload 4, 2) := by decide +kernel
theorem dX2_takeAll_101 : decode cX2_takeAll 101 = .ok (.iadd, 1) := by decide +kernel
theorem dX2_takeAll_102 : decode cX2_takeAll 102 = .ok (.dup2, 1) := by decide +kernel
theorem dX2_takeAll_103 : decode cX2_takeAll 103 = .ok (.iaload, 1) := by decide +kernel
theorem dX2_takeAll_104 : decode cX2_takeAll 104 = .ok (.iload 5, 2) := by decide +kernel
theorem dX2_takeAll_106 : decode cX2_takeAll 106 = .ok (.iadd, 1) := by decide +kernel
theorem dX2_takeAll_107 : decode cX2_takeAll 107 = .ok (.iastore, 1) := by decide +kernel
theorem dX2_takeAll_108 : decode cX2_takeAll 108 = .ok (.iload_n 3, 1) := by decide +kernel
theorem dX2_takeAll_109 : decode cX2_takeAll 109 = .ok (.iload 5, 2) := by decide +kernel
theorem dX2_takeAll_111 : decode cX2_takeAll 111 = .ok (.isub, 1) := by decide +kernel
theorem dX2_takeAll_112 : decode cX2_takeAll 112 = .ok (.istore_n 3, 1) := by decide +kernel
theorem dX2_takeAll_113 : decode cX2_takeAll 113 = .ok (.iinc 4 1, 3) := by decide +kernel
theorem dX2_takeAll_116 : decode cX2_takeAll 116 = .ok (.goto (-94), 3) := by decide +kernel
theorem dX2_takeAll_119 : decode cX2_takeAll 119 = .ok (.iload_n 1, 1) := by decide +kernel
theorem dX2_takeAll_120 : decode cX2_takeAll 120 = .ok (.aload_n 0, 1) := by decide +kernel
theorem dX2_takeAll_121 : decode cX2_takeAll 121 = .ok (.getfield 46, 3) := by decide +kernel
theorem dX2_takeAll_124 : decode cX2_takeAll 124 = .ok (.iload_n 2, 1) := by decide +kernel
theorem dX2_takeAll_125 : decode cX2_takeAll 125 = .ok (.iaload, 1) := by decide +kernel
theorem dX2_takeAll_126 : decode cX2_takeAll 126 = .ok (.iload_n 3, 1) := by decide +kernel
theorem dX2_takeAll_127 : decode cX2_takeAll 127 = .ok (.isub, 1) := by decide +kernel
theorem dX2_takeAll_128 : decode cX2_takeAll 128 = .ok (.iadd, 1) := by decide +kernel
theorem dX2_takeAll_129 : decode cX2_takeAll 129 = .ok (.istore_n 1, 1) := by decide +kernel
theorem dX2_takeAll_130 : decode cX2_takeAll 130 = .ok (.iinc 2 1, 3) := by decide +kernel
theorem dX2_takeAll_133 : decode cX2_takeAll 133 = .ok (.goto (-129), 3) := by decide +kernel
theorem dX2_takeAll_136 : decode cX2_takeAll 136 = .ok (.iload_n 1, 1) := by decide +kernel
theorem dX2_takeAll_137 : decode cX2_takeAll 137 = .ok (.ireturn, 1) := by decide +kernel
def f_X2_takeAll_J119 (r : Nat) (v1 : Int32) (v2 : Int32) (v3 : Int32) (s : St) : Option ((Int32 × Int32 × St) ⊕ (Int32 × St)) := if kd (r) = 2 then if inb v2 (lnI (r + 9)) = true then bd (v1 + ((s.1 (r + 9) (v2).toNatClampNeg) - v3)) (fun x24 => some (Sum.inl (x24, (v2 + (nI 1)), s))) else none else none
def f_X2_takeAll_L22 (r : Nat) (v1 : Int32) (v2 : Int32) (v3 : Int32) (v4 : Int32) (s : St) : Option ((Int32 × Int32 × St) ⊕ ((Int32 × Int32 × St) ⊕ (Int32 × St))) := if kd (r) = 2 then if (s.1 r 0) ≤ v4 then (ox (f_X2_takeAll_J119 r v1 v2 v3 s)) else (if v3 ≤ 0 then (ox (f_X2_takeAll_J119 r v1 v2 v3 s)) else (if inb v2 (lnI (r + 8)) = true then if inb ((v4 * (nI 20)) + (s.1 (r + 8) (v2).toNatClampNeg)) (lnI (r + 7)) = true then bd (if (s.1 (r + 7) (((v4 * (nI 20)) + (s.1 (r + 8) (v2).toNatClampNeg))).toNatClampNeg) < v3 then (s.1 (r + 7) (((v4 * (nI 20)) + (s.1 (r + 8) (v2).toNatClampNeg))).toNatClampNeg) else v3) (fun x10 => if inb v2 (lnI (r + 8)) = true then if inb ((v4 * (nI 20)) + (s.1 (r + 8) (v2).toNatClampNeg)) (lnI (r + 7)) = true then if inb ((v4 * (nI 20)) + (s.1 (r + 8) (v2).toNatClampNeg)) (lnI (r + 7)) = true then bd (wI s (r + 7) (((v4 * (nI 20)) + (s.1 (r + 8) (v2).toNatClampNeg))).toNatClampNeg ((s.1 (r + 7) (((v4 * (nI 20)) + (s.1 (r + 8) (v2).toNatClampNeg))).toNatClampNeg) - x10)) (fun s14 => if inb v4 (lnI (r + 6)) = true then if inb v4 (lnI (r + 6)) = true then bd (wI s14 (r + 6) (v4).toNatClampNeg ((s14.1 (r + 6) (v4).toNatClampNeg) - x10)) (fun s17 => if inb ((v2 * (nI 3)) + v4) (lnI (r + 10)) = true then if inb ((v2 * (nI 3)) + v4) (lnI (r + 10)) = true then bd (wI s17 (r + 10) (((v2 * (nI 3)) + v4)).toNatClampNeg ((s17.1 (r + 10) (((v2 * (nI 3)) + v4)).toNatClampNeg) + x10)) (fun s20 => bd (v3 - x10) (fun x21 => some (Sum.inl (x21, (v4 + (nI 1)), s20)))) else none else none) else none else none) else none else none else none) else none else none)) else none
def f_X2_takeAll_L4 (r : Nat) (v1 : Int32) (v2 : Int32) (s : St) : Option ((Int32 × Int32 × St) ⊕ (Int32 × St)) := if kd (r) = 2 then if (s.1 r 1) ≤ v2 then (some (Sum.inr ((v1, s)))) else (if inb v2 (lnI (r + 9)) = true then bd (s.1 (r + 9) (v2).toNatClampNeg) (fun x4 => lp (fun q : Int32 × Int32 × St => f_X2_takeAll_L22 r v1 v2 q.1 q.2.1 q.2.2) Fu (x4, (nI 0), s)) else none) else none
def f_X2_takeAll (r : Nat) (s : St) : Option (Int32 × St) := lp (fun q : Int32 × Int32 × St => f_X2_takeAll_L4 r q.1 q.2.1 q.2.2) Fu ((nI 0), (nI 0), s)
set_option maxHeartbeats 4000000 in
set_option maxRecDepth 100000 in
theorem e_X2_takeAll_J119 {X : Cx} {Γ : Gm} {r0 : Option Value × St} (hX : Amb X Γ cX2_takeAll RX2 6 (some .int) 1) {r : Nat} {v1 : Int32} {v2 : Int32} {v3 : Int32} {s : St} {t : (Int32 × Int32 × St) ⊕ (Int32 × St)} (h : f_X2_takeAll_J119 r v1 v2 v3 s = some t) (hk : (Sum.elim (fun q : Int32 × Int32 × St => Zw X Γ 6 r0 q.2.2 4 [(0, .ref (gL Γ (r))), (1, .int q.1), (2, .int q.2.1)] []) (fun t : Int32 × St => (some (Value.int t.1), t.2) = r0)) t) : Zw X Γ 6 r0 s 119 [(0, .ref (gL Γ (r))), (1, .int v1), (2, .int v2), (3, .int v3)] [] := by
  unfold f_X2_takeAll_J119 at h
  refine z_iload_n hX dX2_takeAll_119 1 rfl 120 rfl ?_
  refine z_aload_n hX dX2_takeAll_120 0 rfl 121 rfl ?_
  replace h := gd_elim h
  obtain ⟨g22, h⟩ := h
  refine z_get2 hX (k := r) (j := 11) (v := .ref (gL Γ (r + 9))) g22 (by decide) rfl dX2_takeAll_121 fl_X2_46 124 rfl ?_
  refine z_iload_n hX dX2_takeAll_124 2 rfl 125 rfl ?_
  replace h := gd_elim h
  obtain ⟨g23, h⟩ := h
  refine z_iald hX (inb_vp g23) dX2_takeAll_125 126 rfl ?_
  refine z_iload_n hX dX2_takeAll_126 3 rfl 127 rfl ?_
  refine z_isub hX dX2_takeAll_127 128 rfl ?_
  refine z_iadd hX dX2_takeAll_128 129 rfl ?_
  replace h := bd_elim h
  obtain ⟨x24, ex24, h⟩ := h
  refine z_nm ex24 ?_
  refine z_istore_n hX (lv2 := [(1, .int x24), (0, .ref (gL Γ (r))), (2, .int v2), (3, .int v3)]) dX2_takeAll_129 (by decide) rfl 130 rfl ?_
  refine z_iinc hX (v := (v2 + (nI 1))) (lv2 := [(2, .int ((v2 + (nI 1)))), (1, .int x24), (0, .ref (gL Γ (r))), (3, .int v3)]) dX2_takeAll_130 2 rfl rfl (by decide) rfl 133 rfl ?_
  refine z_goto hX 4 dX2_takeAll_133 (by decide) ?_
  cases h
  exact z_sub [2, 1, 0] rfl hk
set_option maxHeartbeats 4000000 in
set_option maxRecDepth 100000 in
theorem e_X2_takeAll_L22 {X : Cx} {Γ : Gm} {r0 : Option Value × St} (hX : Amb X Γ cX2_takeAll RX2 6 (some .int) 1) {r : Nat} {v1 : Int32} {v2 : Int32} {v3 : Int32} {v4 : Int32} {s : St} {t : (Int32 × Int32 × St) ⊕ ((Int32 × Int32 × St) ⊕ (Int32 × St))} (h : f_X2_takeAll_L22 r v1 v2 v3 v4 s = some t) (hk : (Sum.elim (fun q : Int32 × Int32 × St => Zw X Γ 6 r0 q.2.2 22 [(0, .ref (gL Γ (r))), (1, .int v1), (2, .int v2), (3, .int q.1), (4, .int q.2.1)] []) (Sum.elim (fun q : Int32 × Int32 × St => Zw X Γ 6 r0 q.2.2 4 [(0, .ref (gL Γ (r))), (1, .int q.1), (2, .int q.2.1)] []) (fun t : Int32 × St => (some (Value.int t.1), t.2) = r0))) t) : Zw X Γ 6 r0 s 22 [(0, .ref (gL Γ (r))), (1, .int v1), (2, .int v2), (3, .int v3), (4, .int v4)] [] := by
  unfold f_X2_takeAll_L22 at h
  refine z_iload hX dX2_takeAll_22 4 rfl 24 rfl ?_
  refine z_aload_n hX dX2_takeAll_24 0 rfl 25 rfl ?_
  replace h := gd_elim h
  obtain ⟨g5, h⟩ := h
  refine z_get2 hX (k := r) (j := 0) (v := .int ((s.1 r 0))) g5 (by decide) rfl dX2_takeAll_25 fl_X2_9 28 rfl ?_
  refine z_icmp_ge hX 119 dX2_takeAll_28 (by decide) 31 rfl (fun c6 => ?_) (fun c6 => ?_)
  · replace h := br_pos h c6
    replace h := ox_elim h
    obtain ⟨u, rfl, h⟩ := h
    exact z_sub [0, 1, 2, 3] rfl (e_X2_takeAll_J119 hX h hk)
  · replace h := br_neg h c6
    refine z_iload_n hX dX2_takeAll_31 3 rfl 32 rfl ?_
    refine z_if_le hX 119 dX2_takeAll_32 (by decide) 35 rfl (fun c7 => ?_) (fun c7 => ?_)
    · replace h := br_pos h c7
      replace h := ox_elim h
      obtain ⟨u, rfl, h⟩ := h
      exact z_sub [0, 1, 2, 3] rfl (e_X2_takeAll_J119 hX h hk)
    · replace h := br_neg h c7
      refine z_iload_n hX dX2_takeAll_35 3 rfl 36 rfl ?_
      refine z_aload_n hX dX2_takeAll_36 0 rfl 37 rfl ?_
      refine z_get2 hX (k := r) (j := 9) (v := .ref (gL Γ (r + 7))) g5 (by decide) rfl dX2_takeAll_37 fl_X2_40 40 rfl ?_
      refine z_iload hX dX2_takeAll_40 4 rfl 42 rfl ?_
      refine z_bipush hX (v := (nI 20)) dX2_takeAll_42 (by decide) 44 rfl ?_
      refine z_imul hX dX2_takeAll_44 45 rfl ?_
      refine z_aload_n hX dX2_takeAll_45 0 rfl 46 rfl ?_
      refine z_get2 hX (k := r) (j := 10) (v := .ref (gL Γ (r + 8))) g5 (by decide) rfl dX2_takeAll_46 fl_X2_43 49 rfl ?_
      refine z_iload_n hX dX2_takeAll_49 2 rfl 50 rfl ?_
      replace h := gd_elim h
      obtain ⟨g8, h⟩ := h
      refine z_iald hX (inb_vp g8) dX2_takeAll_50 51 rfl ?_
      refine z_iadd hX dX2_takeAll_51 52 rfl ?_
      replace h := gd_elim h
      obtain ⟨g9, h⟩ := h
      refine z_iald hX (inb_vp g9) dX2_takeAll_52 53 rfl ?_
      refine z_mmin hX ml_X2_106 st_min in_Math co_min (by decide) (by decide) dX2_takeAll_53 56 rfl ?_
      replace h := bd_elim h
      obtain ⟨x10, ex10, h⟩ := h
      refine z_nm ex10 ?_
      refine z_istore hX (lv2 := [(5, .int x10), (0, .ref (gL Γ (r))), (1, .int v1), (2, .int v2), (3, .int v3), (4, .int v4)]) dX2_takeAll_56 (by decide) rfl 58 rfl ?_
      refine z_aload_n hX dX2_takeAll_58 1 rfl 59 rfl ?_
      refine z_get2 hX (k := r) (j := 9) (v := .ref (gL Γ (r + 7))) g5 (by decide) rfl dX2_takeAll_59 fl_X2_40 62 rfl ?_
      refine z_iload hX dX2_takeAll_62 5 rfl 64 rfl ?_
      refine z_bipush hX (v := (nI 20)) dX2_takeAll_64 (by decide) 66 rfl ?_
      refine z_imul hX dX2_takeAll_66 67 rfl ?_
      refine z_aload_n hX dX2_takeAll_67 1 rfl 68 rfl ?_
      refine z_get2 hX (k := r) (j := 10) (v := .ref (gL Γ (r + 8))) g5 (by decide) rfl dX2_takeAll_68 fl_X2_43 71 rfl ?_
      refine z_iload_n hX dX2_takeAll_71 3 rfl 72 rfl ?_
      replace h := gd_elim h
      obtain ⟨g11, h⟩ := h
      refine z_iald hX (inb_vp g11) dX2_takeAll_72 73 rfl ?_
      refine z_iadd hX dX2_takeAll_73 74 rfl ?_
      refine z_dup2 hX dX2_takeAll_74 rfl rfl 75 rfl ?_
      replace h := gd_elim h
      obtain ⟨g12, h⟩ := h
      refine z_iald hX (inb_vp g12) dX2_takeAll_75 76 rfl ?_
      refine z_iload hX dX2_takeAll_76 0 rfl 78 rfl ?_
      refine z_isub hX dX2_takeAll_78 79 rfl ?_
      replace h := gd_elim h
      obtain ⟨g13, h⟩ := h
      replace h := bd_elim h
      obtain ⟨s14, es14, h⟩ := h
      refine z_iast hX (inb_vp g13) dX2_takeAll_79 es14 80 rfl ?_
      refine z_aload_n hX dX2_takeAll_80 1 rfl 81 rfl ?_
      refine z_get2 hX (k := r) (j := 8) (v := .ref (gL Γ (r + 6))) g5 (by decide) rfl dX2_takeAll_81 fl_X2_37 84 rfl ?_
      refine z_iload hX dX2_takeAll_84 5 rfl 86 rfl ?_
      refine z_dup2 hX dX2_takeAll_86 rfl rfl 87 rfl ?_
      replace h := gd_elim h
      obtain ⟨g15, h⟩ := h
      refine z_iald hX (inb_vp g15) dX2_takeAll_87 88 rfl ?_
      refine z_iload hX dX2_takeAll_88 0 rfl 90 rfl ?_
      refine z_isub hX dX2_takeAll_90 91 rfl ?_
      replace h := gd_elim h
      obtain ⟨g16, h⟩ := h
      replace h := bd_elim h
      obtain ⟨s17, es17, h⟩ := h
      refine z_iast hX (inb_vp g16) dX2_takeAll_91 es17 92 rfl ?_
      refine z_aload_n hX dX2_takeAll_92 1 rfl 93 rfl ?_
      refine z_get2 hX (k := r) (j := 12) (v := .ref (gL Γ (r + 10))) g5 (by decide) rfl dX2_takeAll_93 fl_X2_49 96 rfl ?_
      refine z_iload_n hX dX2_takeAll_96 3 rfl 97 rfl ?_
      refine z_iconst hX (v := (nI 3)) dX2_takeAll_97 rfl 98 rfl ?_
      refine z_imul hX dX2_takeAll_98 99 rfl ?_
      refine z_iload hX dX2_takeAll_99 5 rfl 101 rfl ?_
      refine z_iadd hX dX2_takeAll_101 102 rfl ?_
      refine z_dup2 hX dX2_takeAll_102 rfl rfl 103 rfl ?_
      replace h := gd_elim h
      obtain ⟨g18, h⟩ := h
      refine z_iald hX (inb_vp g18) dX2_takeAll_103 104 rfl ?_
      refine z_iload hX dX2_takeAll_104 0 rfl 106 rfl ?_
      refine z_iadd hX dX2_takeAll_106 107 rfl ?_
      replace h := gd_elim h
      obtain ⟨g19, h⟩ := h
      replace h := bd_elim h
      obtain ⟨s20, es20, h⟩ := h
      refine z_iast hX (inb_vp g19) dX2_takeAll_107 es20 108 rfl ?_
      refine z_iload_n hX dX2_takeAll_108 4 rfl 109 rfl ?_
      refine z_iload hX dX2_takeAll_109 0 rfl 111 rfl ?_
      refine z_isub hX dX2_takeAll_111 112 rfl ?_
      replace h := bd_elim h
      obtain ⟨x21, ex21, h⟩ := h
      refine z_nm ex21 ?_
      refine z_istore_n hX (lv2 := [(3, .int x21), (5, .int x10), (0, .ref (gL Γ (r))), (1, .int v1), (2, .int v2), (4, .int v4)]) dX2_takeAll_112 (by decide) rfl 113 rfl ?_
      refine z_iinc hX (v := (v4 + (nI 1))) (lv2 := [(4, .int ((v4 + (nI 1)))), (3, .int x21), (5, .int x10), (0, .ref (gL Γ (r))), (1, .int v1), (2, .int v2)]) dX2_takeAll_113 5 rfl rfl (by decide) rfl 116 rfl ?_
      refine z_goto hX 22 dX2_takeAll_116 (by decide) ?_
      cases h
      exact z_sub [3, 4, 5, 1, 0] rfl hk
set_option maxHeartbeats 4000000 in
set_option maxRecDepth 100000 in
theorem e_X2_takeAll_L4 {X : Cx} {Γ : Gm} {r0 : Option Value × St} (hX : Amb X Γ cX2_takeAll RX2 6 (some .int) 1) {r : Nat} {v1 : Int32} {v2 : Int32} {s : St} {t : (Int32 × Int32 × St) ⊕ (Int32 × St)} (h : f_X2_takeAll_L4 r v1 v2 s = some t) (hk : (Sum.elim (fun q : Int32 × Int32 × St => Zw X Γ 6 r0 q.2.2 4 [(0, .ref (gL Γ (r))), (1, .int q.1), (2, .int q.2.1)] []) (fun t : Int32 × St => (some (Value.int t.1), t.2) = r0)) t) : Zw X Γ 6 r0 s 4 [(0, .ref (gL Γ (r))), (1, .int v1), (2, .int v2)] [] := by
  unfold f_X2_takeAll_L4 at h
  refine z_iload_n hX dX2_takeAll_4 2 rfl 5 rfl ?_
  refine z_aload_n hX dX2_takeAll_5 0 rfl 6 rfl ?_
  replace h := gd_elim h
  obtain ⟨g1, h⟩ := h
  refine z_get2 hX (k := r) (j := 1) (v := .int ((s.1 r 1))) g1 (by decide) rfl dX2_takeAll_6 fl_X2_15 9 rfl ?_
  refine z_icmp_ge hX 136 dX2_takeAll_9 (by decide) 12 rfl (fun c2 => ?_) (fun c2 => ?_)
  · replace h := br_pos h c2
    refine z_iload_n hX dX2_takeAll_136 1 rfl 137 rfl ?_
    cases h
    exact z_iret hX dX2_takeAll_137 rfl hk
  · replace h := br_neg h c2
    refine z_aload_n hX dX2_takeAll_12 0 rfl 13 rfl ?_
    refine z_get2 hX (k := r) (j := 11) (v := .ref (gL Γ (r + 9))) g1 (by decide) rfl dX2_takeAll_13 fl_X2_46 16 rfl ?_
    refine z_iload_n hX dX2_takeAll_16 2 rfl 17 rfl ?_
    replace h := gd_elim h
    obtain ⟨g3, h⟩ := h
    refine z_iald hX (inb_vp g3) dX2_takeAll_17 18 rfl ?_
    replace h := bd_elim h
    obtain ⟨x4, ex4, h⟩ := h
    refine z_nm ex4 ?_
    refine z_istore_n hX (lv2 := [(3, .int x4), (0, .ref (gL Γ (r))), (1, .int v1), (2, .int v2)]) dX2_takeAll_18 (by decide) rfl 19 rfl ?_
    refine z_iconst hX (v := (nI 0)) dX2_takeAll_19 rfl 20 rfl ?_
    refine z_istore hX (lv2 := [(4, .int ((nI 0))), (3, .int x4), (0, .ref (gL Γ (r))), (1, .int v1), (2, .int v2)]) dX2_takeAll_20 (by decide) rfl 22 rfl ?_
    exact z_sub [2, 3, 4, 1, 0] rfl (lp_ok (Z := fun q : Int32 × Int32 × St => Zw X Γ 6 r0 q.2.2 22 [(0, .ref (gL Γ (r))), (1, .int v1), (2, .int v2), (3, .int q.1), (4, .int q.2.1)] []) (fun q t h hk => e_X2_takeAll_L22 hX h hk) Fu _ _ h hk)
set_option maxHeartbeats 4000000 in
set_option maxRecDepth 100000 in
theorem e_X2_takeAll {X : Cx} {Γ : Gm} {r0 : Option Value × St} (hX : Amb X Γ cX2_takeAll RX2 6 (some .int) 1) {r : Nat} {s : St} {t : Int32 × St} (h : f_X2_takeAll r s = some t) (hk : (fun t : Int32 × St => (some (Value.int t.1), t.2) = r0) t) : Zw X Γ 6 r0 s 0 [(0, .ref (gL Γ (r)))] [] := by
  unfold f_X2_takeAll at h
  refine z_iconst hX (v := (nI 0)) dX2_takeAll_0 rfl 1 rfl ?_
  refine z_istore_n hX (lv2 := [(1, .int ((nI 0))), (0, .ref (gL Γ (r)))]) dX2_takeAll_1 (by decide) rfl 2 rfl ?_
  refine z_iconst hX (v := (nI 0)) dX2_takeAll_2 rfl 3 rfl ?_
  refine z_istore_n hX (lv2 := [(2, .int ((nI 0))), (1, .int ((nI 0))), (0, .ref (gL Γ (r)))]) dX2_takeAll_3 (by decide) rfl 4 rfl ?_
  exact z_sub [2, 1, 0] rfl (lp_ok (Z := fun q : Int32 × Int32 × St => Zw X Γ 6 r0 q.2.2 4 [(0, .ref (gL Γ (r))), (1, .int q.1), (2, .int q.2.1)] []) (fun q t h hk => e_X2_takeAll_L4 hX h hk) Fu _ _ h hk)
theorem c_X2_takeAll {lc : Launch} {Γ : Gm} {r : Nat} {s s2 : St} {v : Int32} (h : f_X2_takeAll r s = some (v, s2)) : Ct lc Γ yX2_takeAll cX2_takeAll 6 (some .int) 1 [.ref (gL Γ (r))] s (some (.int v), s2) := Ct.of (by decide +kernel) (Nat.le_of_ble_eq_true rfl) (fun X hl hX => e_X2_takeAll hX h rfl)
theorem dX2_moved_0 : decode cX2_moved 0 = .ok (.iload_n 1, 1) := by decide +kernel
theorem dX2_moved_1 : decode cX2_moved 1 = .ok (.iconst 1, 1) := by decide +kernel
theorem dX2_moved_2 : decode cX2_moved 2 = .ok (.iadd, 1) := by decide +kernel
theorem dX2_moved_3 : decode cX2_moved 3 = .ok (.iconst 2, 1) := by decide +kernel
theorem dX2_moved_4 : decode cX2_moved 4 = .ok (.idiv, 1) := by decide +kernel
theorem dX2_moved_5 : decode cX2_moved 5 = .ok (.istore_n 2, 1) := by decide +kernel
theorem dX2_moved_6 : decode cX2_moved 6 = .ok (.iload_n 0, 1) := by decide +kernel
theorem dX2_moved_7 : decode cX2_moved 7 = .ok (.tableswitch 33 0 2 #[25, 27, 31], 25) := by decide +kernel
theorem dX2_moved_32 : decode cX2_moved 32 = .ok (.iload_n 2, 1) := by decide +kernel
theorem dX2_moved_33 : decode cX2_moved 33 = .ok (.ireturn, 1) := by decide +kernel
theorem dX2_moved_34 : decode cX2_moved 34 = .ok (.iload_n 2, 1) := by decide +kernel
theorem dX2_moved_35 : decode cX2_moved 35 = .ok (.iconst 2, 1) := by decide +kernel
theorem dX2_moved_36 : decode cX2_moved 36 = .ok (.idiv, 1) := by decide +kernel
theorem dX2_moved_37 : decode cX2_moved 37 = .ok (.ireturn, 1) := by decide +kernel
theorem dX2_moved_38 : decode cX2_moved 38 = .ok (.iload_n 1, 1) := by decide +kernel
theorem dX2_moved_39 : decode cX2_moved 39 = .ok (.ireturn, 1) := by decide +kernel
theorem dX2_moved_40 : decode cX2_moved 40 = .ok (.iload_n 1, 1) := by decide +kernel
theorem dX2_moved_41 : decode cX2_moved 41 = .ok (.iload_n 2, 1) := by decide +kernel
theorem dX2_moved_42 : decode cX2_moved 42 = .ok (.iconst 2, 1) := by decide +kernel
theorem dX2_moved_43 : decode cX2_moved 43 = .ok (.idiv, 1) := by decide +kernel
theorem dX2_moved_44 : decode cX2_moved 44 = .ok (.iconst 1, 1) := by decide +kernel
theorem dX2_moved_45 : decode cX2_moved 45 = .ok (.iadd, 1) := by decide +kernel
theorem dX2_moved_46 : decode cX2_moved 46 = .ok (.invokestatic 106, 3) := by decide +kernel
theorem dX2_moved_49 : decode cX2_moved 49 = .ok (.ireturn, 1) := by decide +kernel
def f_X2_moved (a0 : Int32) (a1 : Int32) (s : St) : Option (Int32 × St) := bd ((a1 + (nI 1)) / (nI 2)) (fun x1 => if a0 = (nI 0) then (some ((x1, s))) else (if a0 = (nI 1) then (some (((x1 / (nI 2)), s))) else (if a0 = (nI 2) then (some ((a1, s))) else (if (a0).toInt < 0 ∨ 2 < (a0).toInt then (some (((if ((x1 / (nI 2)) + (nI 1)) < a1 then ((x1 / (nI 2)) + (nI 1)) else a1), s))) else none))))
set_option maxHeartbeats 4000000 in
set_option maxRecDepth 100000 in
theorem e_X2_moved {X : Cx} {Γ : Gm} {r0 : Option Value × St} (hX : Amb X Γ cX2_moved RX2 3 (some .int) 1) {a0 : Int32} {a1 : Int32} {s : St} {t : Int32 × St} (h : f_X2_moved a0 a1 s = some t) (hk : (fun t : Int32 × St => (some (Value.int t.1), t.2) = r0) t) : Zw X Γ 3 r0 s 0 [(0, .int a0), (1, .int a1)] [] := by
  unfold f_X2_moved at h
  refine z_iload_n hX dX2_moved_0 1 rfl 1 rfl ?_
  refine z_iconst hX (v := (nI 1)) dX2_moved_1 rfl 2 rfl ?_
  refine z_iadd hX dX2_moved_2 3 rfl ?_
  refine z_iconst hX (v := (nI 2)) dX2_moved_3 rfl 4 rfl ?_
  refine z_idiv hX dX2_moved_4 (by decide) 5 rfl ?_
  replace h := bd_elim h
  obtain ⟨x1, ex1, h⟩ := h
  refine z_nm ex1 ?_
  refine z_istore_n hX (lv2 := [(2, .int x1), (0, .int a0), (1, .int a1)]) dX2_moved_5 (by decide) rfl 6 rfl ?_
  refine z_iload_n hX dX2_moved_6 1 rfl 7 rfl ?_
  by_cases c2 : a0 = (nI 0)
  · replace h := br_pos h c2
    refine z_tcase hX (off := 25) 32 dX2_moved_7 (nI 0) c2 (by decide) (by decide) ?_
    refine z_iload_n hX dX2_moved_32 0 rfl 33 rfl ?_
    cases h
    exact z_iret hX dX2_moved_33 rfl hk
  replace h := br_neg h c2
  by_cases c3 : a0 = (nI 1)
  · replace h := br_pos h c3
    refine z_tcase hX (off := 27) 34 dX2_moved_7 (nI 1) c3 (by decide) (by decide) ?_
    refine z_iload_n hX dX2_moved_34 0 rfl 35 rfl ?_
    refine z_iconst hX (v := (nI 2)) dX2_moved_35 rfl 36 rfl ?_
    refine z_idiv hX dX2_moved_36 (by decide) 37 rfl ?_
    cases h
    exact z_iret hX dX2_moved_37 rfl hk
  replace h := br_neg h c3
  by_cases c4 : a0 = (nI 2)
  · replace h := br_pos h c4
    refine z_tcase hX (off := 31) 38 dX2_moved_7 (nI 2) c4 (by decide) (by decide) ?_
    refine z_iload_n hX dX2_moved_38 2 rfl 39 rfl ?_
    cases h
    exact z_iret hX dX2_moved_39 rfl hk
  replace h := br_neg h c4
  replace h := gd_elim h
  obtain ⟨g5, h⟩ := h
  refine z_tdef hX 40 dX2_moved_7 g5 (by decide) ?_
  refine z_iload_n hX dX2_moved_40 2 rfl 41 rfl ?_
  refine z_iload_n hX dX2_moved_41 0 rfl 42 rfl ?_
  refine z_iconst hX (v := (nI 2)) dX2_moved_42 rfl 43 rfl ?_
  refine z_idiv hX dX2_moved_43 (by decide) 44 rfl ?_
  refine z_iconst hX (v := (nI 1)) dX2_moved_44 rfl 45 rfl ?_
  refine z_iadd hX dX2_moved_45 46 rfl ?_
  refine z_mmin hX ml_X2_106 st_min in_Math co_min (by decide) (by decide) dX2_moved_46 49 rfl ?_
  cases h
  exact z_iret hX dX2_moved_49 rfl hk
theorem c_X2_moved {lc : Launch} {Γ : Gm} {a0 : Int32} {a1 : Int32} {s s2 : St} {v : Int32} (h : f_X2_moved a0 a1 s = some (v, s2)) : Ct lc Γ yX2_moved cX2_moved 3 (some .int) 1 [.int a0, .int a1] s (some (.int v), s2) := Ct.of (by decide +kernel) (Nat.le_of_ble_eq_true rfl) (fun X hl hX => e_X2_moved hX h rfl)
theorem dX2_beside_0 : decode cX2_beside 0 = .ok (.iload_n 0, 1) := by decide +kernel
theorem dX2_beside_1 : decode cX2_beside 1 = .ok (.iconst 4, 1) := by decide +kernel
theorem dX2_beside_2 : decode cX2_beside 2 = .ok (.idiv, 1) := by decide +kernel
theorem dX2_beside_3 : decode cX2_beside 3 = .ok (.istore_n 2, 1) := by decide +kernel
theorem dX2_beside_4 : decode cX2_beside 4 = .ok (.iload_n 0, 1) := by decide +kernel
theorem dX2_beside_5 : decode cX2_beside 5 = .ok (.iconst 4, 1) := by decide +kernel
theorem dX2_beside_6 : decode cX2_beside 6 = .ok (.irem, 1) := by decide +kernel
theorem dX2_beside_7 : decode cX2_beside 7 = .ok (.istore_n 3, 1) := by decide +kernel
theorem dX2_beside_8 : decode cX2_beside 8 = .ok (.iload_n 1, 1) := by decide +kernel
theorem dX2_beside_9 : decode cX2_beside 9 = .ok (.tableswitch 81 1 4 #[31, 44, 56, 69], 31) := by decide +kernel
theorem dX2_beside_40 : decode cX2_beside 40 = .ok (.iload_n 2, 1) := by decide +kernel
theorem dX2_beside_41 : decode cX2_beside 41 = .ok (.iconst 4, 1) := by decide +kernel
theorem dX2_beside_42 : decode cX2_beside 42 = .ok (.if_icmp .ge 9, 3) := by decide +kernel
theorem dX2_beside_45 : decode cX2_beside 45 = .ok (.iload_n 0, 1) := by decide +kernel
theorem dX2_beside_46 : decode cX2_beside 46 = .ok (.iconst 4, 1) := by decide +kernel
theorem dX2_beside_47 : decode cX2_beside 47 = .ok (.iadd, 1) := by decide +kernel
theorem dX2_beside_48 : decode cX2_beside 48 = .ok (.goto 4, 3) := by decide +kernel
theorem dX2_beside_51 : decode cX2_beside 51 = .ok (.iconst (-1), 1) := by decide +kernel
theorem dX2_beside_52 : decode cX2_beside 52 = .ok (.ireturn, 1) := by decide +kernel
theorem dX2_beside_53 : decode cX2_beside 53 = .ok (.iload_n 2, 1) := by decide +kernel
theorem dX2_beside_54 : decode cX2_beside 54 = .ok (.ifCond .le 9, 3) := by decide +kernel
theorem dX2_beside_57 : decode cX2_beside 57 = .ok (.iload_n 0, 1) := by decide +kernel
theorem dX2_beside_58 : decode cX2_beside 58 = .ok (.iconst 4, 1) := by decide +kernel
theorem dX2_beside_59 : decode cX2_beside 59 = .ok (.isub, 1) := by decide +kernel
theorem dX2_beside_60 : decode cX2_beside 60 = .ok (.goto 4, 3) := by decide +kernel
theorem dX2_beside_63 : decode cX2_beside 63 = .ok (.iconst (-1), 1) := by decide +kernel
theorem dX2_beside_64 : decode cX2_beside 64 = .ok (.ireturn, 1) := by decide +kernel
theorem dX2_beside_65 : decode cX2_beside 65 = .ok (.iload_n 3, 1) := by decide +kernel
theorem dX2_beside_66 : decode cX2_beside 66 = .ok (.iconst 3, 1) := by decide +kernel
theorem dX2_beside_67 : decode cX2_beside 67 = .ok (.if_icmp .ge 9, 3) := by decide +kernel
theorem dX2_beside_70 : decode cX2_beside 70 = .ok (.iload_n 0, 1) := by decide +kernel
theorem dX2_beside_71 : decode cX2_beside 71 = .ok (.iconst 1, 1) := by decide +kernel
theorem dX2_beside_72 : decode cX2_beside 72 = .ok (.iadd, 1) := by decide +kernel
theorem dX2_beside_73 : decode cX2_beside 73 = .ok (.goto 4, 3) := by decide +kernel
theorem dX2_beside_76 : decode cX2_beside 76 = .ok (.iconst (-1), 1) := by decide +kernel
theorem dX2_beside_77 : decode cX2_beside 77 = .ok (.ireturn, 1) := by decide +kernel
theorem dX2_beside_78 : decode cX2_beside 78 = .ok (.iload_n 3, 1) := by decide +kernel
theorem dX2_beside_79 : decode cX2_beside 79 = .ok (.ifCond .le 9, 3) := by decide +kernel
theorem dX2_beside_82 : decode cX2_beside 82 = .ok (.iload_n 0, 1) := by decide +kernel
theorem dX2_beside_83 : decode cX2_beside 83 = .ok (.iconst 1, 1) := by decide +kernel
theorem dX2_beside_84 : decode cX2_beside 84 = .ok (.isub, 1) := by decide +kernel
theorem dX2_beside_85 : decode cX2_beside 85 = .ok (.goto 4, 3) := by decide +kernel
theorem dX2_beside_88 : decode cX2_beside 88 = .ok (.iconst (-1), 1) := by decide +kernel
theorem dX2_beside_89 : decode cX2_beside 89 = .ok (.ireturn, 1) := by decide +kernel
theorem dX2_beside_90 : decode cX2_beside 90 = .ok (.iload_n 0, 1) := by decide +kernel
theorem dX2_beside_91 : decode cX2_beside 91 = .ok (.ireturn, 1) := by decide +kernel
def f_X2_beside (a0 : Int32) (a1 : Int32) (s : St) : Option (Int32 × St) := bd (a0 / (nI 4)) (fun x1 => bd (a0 - a0 / (nI 4) * (nI 4)) (fun x2 => if a1 = (nI 1) then (if (nI 4) ≤ x1 then (some (((-1), s))) else (some (((a0 + (nI 4)), s)))) else (if a1 = (nI 2) then (if x1 ≤ 0 then (some (((-1), s))) else (some (((a0 - (nI 4)), s)))) else (if a1 = (nI 3) then (if (nI 3) ≤ x2 then (some (((-1), s))) else (some (((a0 + (nI 1)), s)))) else (if a1 = (nI 4) then (if x2 ≤ 0 then (some (((-1), s))) else (some (((a0 - (nI 1)), s)))) else (if (a1).toInt < 1 ∨ 4 < (a1).toInt then (some ((a0, s))) else none))))))
set_option maxHeartbeats 4000000 in
set_option maxRecDepth 100000 in
theorem e_X2_beside {X : Cx} {Γ : Gm} {r0 : Option Value × St} (hX : Amb X Γ cX2_beside RX2 4 (some .int) 0) {a0 : Int32} {a1 : Int32} {s : St} {t : Int32 × St} (h : f_X2_beside a0 a1 s = some t) (hk : (fun t : Int32 × St => (some (Value.int t.1), t.2) = r0) t) : Zw X Γ 4 r0 s 0 [(0, .int a0), (1, .int a1)] [] := by
  unfold f_X2_beside at h
  refine z_iload_n hX dX2_beside_0 0 rfl 1 rfl ?_
  refine z_iconst hX (v := (nI 4)) dX2_beside_1 rfl 2 rfl ?_
  refine z_idiv hX dX2_beside_2 (by decide) 3 rfl ?_
  replace h := bd_elim h
  obtain ⟨x1, ex1, h⟩ := h
  refine z_nm ex1 ?_
  refine z_istore_n hX (lv2 := [(2, .int x1), (0, .int a0), (1, .int a1)]) dX2_beside_3 (by decide) rfl 4 rfl ?_
  refine z_iload_n hX dX2_beside_4 1 rfl 5 rfl ?_
  refine z_iconst hX (v := (nI 4)) dX2_beside_5 rfl 6 rfl ?_
  refine z_irem hX dX2_beside_6 (by decide) 7 rfl ?_
  replace h := bd_elim h
  obtain ⟨x2, ex2, h⟩ := h
  refine z_nm ex2 ?_
  refine z_istore_n hX (lv2 := [(3, .int x2), (2, .int x1), (0, .int a0), (1, .int a1)]) dX2_beside_7 (by decide) rfl 8 rfl ?_
  refine z_iload_n hX dX2_beside_8 3 rfl 9 rfl ?_
  by_cases c3 : a1 = (nI 1)
  · replace h := br_pos h c3
    refine z_tcase hX (off := 31) 40 dX2_beside_9 (nI 1) c3 (by decide) (by decide) ?_
    refine z_iload_n hX dX2_beside_40 1 rfl 41 rfl ?_
    refine z_iconst hX (v := (nI 4)) dX2_beside_41 rfl 42 rfl ?_
    refine z_icmp_ge hX 51 dX2_beside_42 (by decide) 45 rfl (fun c4 => ?_) (fun c4 => ?_)
    · replace h := br_pos h c4
      refine z_iconst hX (v := (-1)) dX2_beside_51 rfl 52 rfl ?_
      cases h
      exact z_iret hX dX2_beside_52 rfl hk
    · replace h := br_neg h c4
      refine z_iload_n hX dX2_beside_45 2 rfl 46 rfl ?_
      refine z_iconst hX (v := (nI 4)) dX2_beside_46 rfl 47 rfl ?_
      refine z_iadd hX dX2_beside_47 48 rfl ?_
      refine z_goto hX 52 dX2_beside_48 (by decide) ?_
      cases h
      exact z_iret hX dX2_beside_52 rfl hk
  replace h := br_neg h c3
  by_cases c5 : a1 = (nI 2)
  · replace h := br_pos h c5
    refine z_tcase hX (off := 44) 53 dX2_beside_9 (nI 2) c5 (by decide) (by decide) ?_
    refine z_iload_n hX dX2_beside_53 1 rfl 54 rfl ?_
    refine z_if_le hX 63 dX2_beside_54 (by decide) 57 rfl (fun c6 => ?_) (fun c6 => ?_)
    · replace h := br_pos h c6
      refine z_iconst hX (v := (-1)) dX2_beside_63 rfl 64 rfl ?_
      cases h
      exact z_iret hX dX2_beside_64 rfl hk
    · replace h := br_neg h c6
      refine z_iload_n hX dX2_beside_57 2 rfl 58 rfl ?_
      refine z_iconst hX (v := (nI 4)) dX2_beside_58 rfl 59 rfl ?_
      refine z_isub hX dX2_beside_59 60 rfl ?_
      refine z_goto hX 64 dX2_beside_60 (by decide) ?_
      cases h
      exact z_iret hX dX2_beside_64 rfl hk
  replace h := br_neg h c5
  by_cases c7 : a1 = (nI 3)
  · replace h := br_pos h c7
    refine z_tcase hX (off := 56) 65 dX2_beside_9 (nI 3) c7 (by decide) (by decide) ?_
    refine z_iload_n hX dX2_beside_65 0 rfl 66 rfl ?_
    refine z_iconst hX (v := (nI 3)) dX2_beside_66 rfl 67 rfl ?_
    refine z_icmp_ge hX 76 dX2_beside_67 (by decide) 70 rfl (fun c8 => ?_) (fun c8 => ?_)
    · replace h := br_pos h c8
      refine z_iconst hX (v := (-1)) dX2_beside_76 rfl 77 rfl ?_
      cases h
      exact z_iret hX dX2_beside_77 rfl hk
    · replace h := br_neg h c8
      refine z_iload_n hX dX2_beside_70 2 rfl 71 rfl ?_
      refine z_iconst hX (v := (nI 1)) dX2_beside_71 rfl 72 rfl ?_
      refine z_iadd hX dX2_beside_72 73 rfl ?_
      refine z_goto hX 77 dX2_beside_73 (by decide) ?_
      cases h
      exact z_iret hX dX2_beside_77 rfl hk
  replace h := br_neg h c7
  by_cases c9 : a1 = (nI 4)
  · replace h := br_pos h c9
    refine z_tcase hX (off := 69) 78 dX2_beside_9 (nI 4) c9 (by decide) (by decide) ?_
    refine z_iload_n hX dX2_beside_78 0 rfl 79 rfl ?_
    refine z_if_le hX 88 dX2_beside_79 (by decide) 82 rfl (fun c10 => ?_) (fun c10 => ?_)
    · replace h := br_pos h c10
      refine z_iconst hX (v := (-1)) dX2_beside_88 rfl 89 rfl ?_
      cases h
      exact z_iret hX dX2_beside_89 rfl hk
    · replace h := br_neg h c10
      refine z_iload_n hX dX2_beside_82 2 rfl 83 rfl ?_
      refine z_iconst hX (v := (nI 1)) dX2_beside_83 rfl 84 rfl ?_
      refine z_isub hX dX2_beside_84 85 rfl ?_
      refine z_goto hX 89 dX2_beside_85 (by decide) ?_
      cases h
      exact z_iret hX dX2_beside_89 rfl hk
  replace h := br_neg h c9
  replace h := gd_elim h
  obtain ⟨g11, h⟩ := h
  refine z_tdef hX 90 dX2_beside_9 g11 (by decide) ?_
  refine z_iload_n hX dX2_beside_90 2 rfl 91 rfl ?_
  cases h
  exact z_iret hX dX2_beside_91 rfl hk
theorem c_X2_beside {lc : Launch} {Γ : Gm} {a0 : Int32} {a1 : Int32} {s s2 : St} {v : Int32} (h : f_X2_beside a0 a1 s = some (v, s2)) : Ct lc Γ yX2_beside cX2_beside 4 (some .int) 0 [.int a0, .int a1] s (some (.int v), s2) := Ct.of (by decide +kernel) (Nat.le_of_ble_eq_true rfl) (fun X hl hX => e_X2_beside hX h rfl)
theorem dX2_give_0 : decode cX2_give 0 = .ok (.iload_n 2, 1) := by decide +kernel
theorem dX2_give_1 : decode cX2_give 1 = .ok (.ifCond .ge 26, 3) := by decide +kernel
theorem dX2_give_4 : decode cX2_give 4 = .ok (.aload_n 0, 1) := by decide +kernel
theorem dX2_give_5 : decode cX2_give 5 = .ok (.getfield 34, 3) := by decide +kernel
theorem dX2_give_8 : decode cX2_give 8 = .ok (.iload_n 1, 1) := by decide +kernel
theorem dX2_give_9 : decode cX2_give 9 = .ok (.dup2, 1) := by decide +kernel
theorem dX2_give_10 : decode cX2_give 10 = .ok (.iaload, 1) := by decide +kernel
theorem dX2_give_11 : decode cX2_give 11 = .ok (.iload_n 3, 1) := by decide +kernel
theorem dX2_give_12 : decode cX2_give 12 = .ok (.iadd, 1) := by decide +kernel
theorem dX2_give_13 : decode cX2_give 13 = .ok (.iastore, 1) := by decide +kernel
theorem dX2_give_14 : decode cX2_give 14 = .ok (.aload_n 0, 1) := by decide +kernel
theorem dX2_give_15 : decode cX2_give 15 = .ok (.getfield 37, 3) := by decide +kernel
theorem dX2_give_18 : decode cX2_give 18 = .ok (.iload_n 1, 1) := by decide +kernel
theorem dX2_give_19 : decode cX2_give 19 = .ok (.dup2, 1) := by decide +kernel
theorem dX2_give_20 : decode cX2_give 20 = .ok (.iaload, 1) := by decide +kernel
theorem dX2_give_21 : decode cX2_give 21 = .ok (.iload_n 3, 1) := by decide +kernel
theorem dX2_give_22 : decode cX2_give 22 = .ok (.isub, 1) := by decide +kernel
theorem dX2_give_23 : decode cX2_give 23 = .ok (.iastore, 1) := by decide +kernel
theorem dX2_give_24 : decode cX2_give 24 = .ok (.goto 18, 3) := by decide +kernel
theorem dX2_give_27 : decode cX2_give 27 = .ok (.aload_n 0, 1) := by decide +kernel
theorem dX2_give_28 : decode cX2_give 28 = .ok (.getfield 40, 3) := by decide +kernel
theorem dX2_give_31 : decode cX2_give 31 = .ok (.iload_n 1, 1) := by decide +kernel
theorem dX2_give_32 : decode cX2_give 32 = .ok (.bipush 20, 2) := by decide +kernel
theorem dX2_give_34 : decode cX2_give 34 = .ok (.imul, 1) := by decide +kernel
theorem dX2_give_35 : decode cX2_give 35 = .ok (.iload_n 2, 1) := by decide +kernel
theorem dX2_give_36 : decode cX2_give 36 = .ok (.iadd, 1) := by decide +kernel
theorem dX2_give_37 : decode cX2_give 37 = .ok (.dup2, 1) := by decide +kernel
theorem dX2_give_38 : decode cX2_give 38 = .ok (.iaload, 1) := by decide +kernel
theorem dX2_give_39 : decode cX2_give 39 = .ok (.iload_n 3, 1) := by decide +kernel
theorem dX2_give_40 : decode cX2_give 40 = .ok (.iadd, 1) := by decide +kernel
theorem dX2_give_41 : decode cX2_give 41 = .ok (.iastore, 1) := by decide +kernel
theorem dX2_give_42 : decode cX2_give 42 = .ok (.return_, 1) := by decide +kernel
def f_X2_give (r : Nat) (a1 : Int32) (a2 : Int32) (a3 : Int32) (s : St) : Option (Unit × St) := if 0 ≤ a2 then (if kd (r) = 2 then if inb ((a1 * (nI 20)) + a2) (lnI (r + 7)) = true then if inb ((a1 * (nI 20)) + a2) (lnI (r + 7)) = true then bd (wI s (r + 7) (((a1 * (nI 20)) + a2)).toNatClampNeg ((s.1 (r + 7) (((a1 * (nI 20)) + a2)).toNatClampNeg) + a3)) (fun s5 => some (((), s5))) else none else none else none) else (if kd (r) = 2 then if inb a1 (lnI (r + 5)) = true then if inb a1 (lnI (r + 5)) = true then bd (wI s (r + 5) (a1).toNatClampNeg ((s.1 (r + 5) (a1).toNatClampNeg) + a3)) (fun s9 => if inb a1 (lnI (r + 6)) = true then if inb a1 (lnI (r + 6)) = true then bd (wI s9 (r + 6) (a1).toNatClampNeg ((s9.1 (r + 6) (a1).toNatClampNeg) - a3)) (fun s12 => some (((), s12))) else none else none) else none else none else none)
set_option maxHeartbeats 4000000 in
set_option maxRecDepth 100000 in
theorem e_X2_give {X : Cx} {Γ : Gm} {r0 : Option Value × St} (hX : Amb X Γ cX2_give RX2 4 none 0) {r : Nat} {a1 : Int32} {a2 : Int32} {a3 : Int32} {s : St} {t : Unit × St} (h : f_X2_give r a1 a2 a3 s = some t) (hk : (fun t : Unit × St => ((none : Option Value), t.2) = r0) t) : Zw X Γ 4 r0 s 0 [(0, .ref (gL Γ (r))), (1, .int a1), (2, .int a2), (3, .int a3)] [] := by
  unfold f_X2_give at h
  refine z_iload_n hX dX2_give_0 2 rfl 1 rfl ?_
  refine z_if_ge hX 27 dX2_give_1 (by decide) 4 rfl (fun c1 => ?_) (fun c1 => ?_)
  · replace h := br_pos h c1
    refine z_aload_n hX dX2_give_27 0 rfl 28 rfl ?_
    replace h := gd_elim h
    obtain ⟨g2, h⟩ := h
    refine z_get2 hX (k := r) (j := 9) (v := .ref (gL Γ (r + 7))) g2 (by decide) rfl dX2_give_28 fl_X2_40 31 rfl ?_
    refine z_iload_n hX dX2_give_31 1 rfl 32 rfl ?_
    refine z_bipush hX (v := (nI 20)) dX2_give_32 (by decide) 34 rfl ?_
    refine z_imul hX dX2_give_34 35 rfl ?_
    refine z_iload_n hX dX2_give_35 2 rfl 36 rfl ?_
    refine z_iadd hX dX2_give_36 37 rfl ?_
    refine z_dup2 hX dX2_give_37 rfl rfl 38 rfl ?_
    replace h := gd_elim h
    obtain ⟨g3, h⟩ := h
    refine z_iald hX (inb_vp g3) dX2_give_38 39 rfl ?_
    refine z_iload_n hX dX2_give_39 3 rfl 40 rfl ?_
    refine z_iadd hX dX2_give_40 41 rfl ?_
    replace h := gd_elim h
    obtain ⟨g4, h⟩ := h
    replace h := bd_elim h
    obtain ⟨s5, es5, h⟩ := h
    refine z_iast hX (inb_vp g4) dX2_give_41 es5 42 rfl ?_
    cases h
    exact z_vret hX dX2_give_42 rfl hk
  · replace h := br_neg h c1
    refine z_aload_n hX dX2_give_4 0 rfl 5 rfl ?_
    replace h := gd_elim h
    obtain ⟨g6, h⟩ := h
    refine z_get2 hX (k := r) (j := 7) (v := .ref (gL Γ (r + 5))) g6 (by decide) rfl dX2_give_5 fl_X2_34 8 rfl ?_
    refine z_iload_n hX dX2_give_8 1 rfl 9 rfl ?_
    refine z_dup2 hX dX2_give_9 rfl rfl 10 rfl ?_
    replace h := gd_elim h
    obtain ⟨g7, h⟩ := h
    refine z_iald hX (inb_vp g7) dX2_give_10 11 rfl ?_
    refine z_iload_n hX dX2_give_11 3 rfl 12 rfl ?_
    refine z_iadd hX dX2_give_12 13 rfl ?_
    replace h := gd_elim h
    obtain ⟨g8, h⟩ := h
    replace h := bd_elim h
    obtain ⟨s9, es9, h⟩ := h
    refine z_iast hX (inb_vp g8) dX2_give_13 es9 14 rfl ?_
    refine z_aload_n hX dX2_give_14 0 rfl 15 rfl ?_
    refine z_get2 hX (k := r) (j := 8) (v := .ref (gL Γ (r + 6))) g6 (by decide) rfl dX2_give_15 fl_X2_37 18 rfl ?_
    refine z_iload_n hX dX2_give_18 1 rfl 19 rfl ?_
    refine z_dup2 hX dX2_give_19 rfl rfl 20 rfl ?_
    replace h := gd_elim h
    obtain ⟨g10, h⟩ := h
    refine z_iald hX (inb_vp g10) dX2_give_20 21 rfl ?_
    refine z_iload_n hX dX2_give_21 3 rfl 22 rfl ?_
    refine z_isub hX dX2_give_22 23 rfl ?_
    replace h := gd_elim h
    obtain ⟨g11, h⟩ := h
    replace h := bd_elim h
    obtain ⟨s12, es12, h⟩ := h
    refine z_iast hX (inb_vp g11) dX2_give_23 es12 24 rfl ?_
    refine z_goto hX 42 dX2_give_24 (by decide) ?_
    cases h
    exact z_vret hX dX2_give_42 rfl hk
theorem c_X2_give {lc : Launch} {Γ : Gm} {r : Nat} {a1 : Int32} {a2 : Int32} {a3 : Int32} {s s2 : St} {v : Unit} (h : f_X2_give r a1 a2 a3 s = some (v, s2)) : Ct lc Γ yX2_give cX2_give 4 none 0 [.ref (gL Γ (r)), .int a1, .int a2, .int a3] s (none, s2) := Ct.of (by decide +kernel) (Nat.le_of_ble_eq_true rfl) (fun X hl hX => e_X2_give hX h rfl)
theorem dX2_carry_0 : decode cX2_carry 0 = .ok (.iload_n 1, 1) := by decide +kernel
theorem dX2_carry_1 : decode cX2_carry 1 = .ok (.ifCond .ne 4, 3) := by decide +kernel
theorem dX2_carry_4 : decode cX2_carry 4 = .ok (.return_, 1) := by decide +kernel
theorem dX2_carry_5 : decode cX2_carry 5 = .ok (.iload_n 1, 1) := by decide +kernel
theorem dX2_carry_6 : decode cX2_carry 6 = .ok (.iconst 1, 1) := by decide +kernel
theorem dX2_carry_7 : decode cX2_carry 7 = .ok (.if_icmp .eq 8, 3) := by decide +kernel
theorem dX2_carry_10 : decode cX2_carry 10 = .ok (.iload_n 1, 1) := by decide +kernel
theorem dX2_carry_11 : decode cX2_carry 11 = .ok (.iconst 3, 1) := by decide +kernel
theorem dX2_carry_12 : decode cX2_carry 12 = .ok (.if_icmp .ne 7, 3) := by decide +kernel
theorem dX2_carry_15 : decode cX2_carry 15 = .ok (.iconst 1, 1) := by decide +kernel
theorem dX2_carry_16 : decode cX2_carry 16 = .ok (.goto 4, 3) := by decide +kernel
theorem dX2_carry_19 : decode cX2_carry 19 = .ok (.iconst 0, 1) := by decide +kernel
theorem dX2_carry_20 : decode cX2_carry 20 = .ok (.istore_n 2, 1) := by decide +kernel
theorem dX2_carry_21 : decode cX2_carry 21 = .ok (.iconst 0, 1) := by decide +kernel
theorem dX2_carry_22 : decode cX2_carry 22 = .ok (.istore_n 3, 1) := by decide +kernel
theorem dX2_carry_23 : decode cX2_carry 23 = .ok (.iload_n 3, 1) := by decide +kernel
theorem dX2_carry_24 : decode cX2_carry 24 = .ok (.aload_n 0, 1) := by decide +kernel
theorem dX2_carry_25 : decode cX2_carry 25 = .ok (.getfield 9, 3) := by decide +kernel
theorem dX2_carry_28 : decode cX2_carry 28 = .ok (.if_icmp .ge 132, 3) := by decide +kernel
theorem dX2_carry_31 : decode cX2_carry 31 = .ok (.aload_n 0, 1) := by decide +kernel
theorem dX2_carry_32 : decode cX2_carry 32 = .ok (.getfield 37, 3) := by decide +kernel
theorem dX2_carry_35 : decode cX2_carry 35 = .ok (.iload_n 3, 1) := by decide +kernel
theorem dX2_carry_36 : decode cX2_carry 36 = .ok (.iaload, 1) := by decide +kernel
theorem dX2_carry_37 : decode cX2_carry 37 = .ok (.istore 4, 2) := by decide +kernel
theorem dX2_carry_39 : decode cX2_carry 39 = .ok (.iconst 0, 1) := by decide +kernel
theorem dX2_carry_40 : decode cX2_carry 40 = .ok (.istore 5, 2) := by decide +kernel
theorem dX2_carry_42 : decode cX2_carry 42 = .ok (.iload 5, 2) := by decide +kernel
theorem dX2_carry_44 : decode cX2_carry 44 = .ok (.bipush 20, 2) := by decide +kernel
theorem dX2_carry_46 : decode cX2_carry 46 = .ok (.if_icmp .ge 108, 3) := by decide +kernel
theorem dX2_carry_49 : decode cX2_carry 49 = .ok (.iload 4, 2) := by decide +kernel
theorem dX2_carry_51 : decode cX2_carry 51 = .ok (.ifCond .le 103, 3) := by decide +kernel
theorem dX2_carry_54 : decode cX2_carry 54 = .ok (.iload_n 2, 1) := by decide +kernel
theorem dX2_carry_55 : decode cX2_carry 55 = .ok (.ifCond .eq 11, 3) := by decide +kernel
theorem dX2_carry_58 : decode cX2_carry 58 = .ok (.bipush 19, 2) := by decide +kernel
theorem dX2_carry_60 : decode cX2_carry 60 = .ok (.iload 5, 2) := by decide +kernel
theorem dX2_carry_62 : decode cX2_carry 62 = .ok (.isub, 1) := by decide +kernel
theorem dX2_carry_63 : decode cX2_carry 63 = .ok (.goto 5, 3) := by decide +kernel
theorem dX2_carry_66 : decode cX2_carry 66 = .ok (.iload 5, 2) := by decide +kernel
theorem dX2_carry_68 : decode cX2_carry 68 = .ok (.istore 6, 2) := by decide +kernel
theorem dX2_carry_70 : decode cX2_carry 70 = .ok (.aload_n 0, 1) := by decide +kernel
theorem dX2_carry_71 : decode cX2_carry 71 = .ok (.getfield 40, 3) := by decide +kernel
theorem dX2_carry_74 : decode cX2_carry 74 = .ok (.iload_n 3, 1) := by decide +kernel
theorem dX2_carry_75 : decode cX2_carry 75 = .ok (.bipush 20, 2) := by decide +kernel
theorem dX2_carry_77 : decode cX2_carry 77 = .ok (.imul, 1) := by decide +kernel
theorem dX2_carry_78 : decode cX2_carry 78 = .ok (.iload 6, 2) := by decide +kernel
theorem dX2_carry_80 : decode cX2_carry 80 = .ok (.iadd, 1) := by decide +kernel
theorem dX2_carry_81 : decode cX2_carry 81 = .ok (.iaload, 1) := by decide +kernel
theorem dX2_carry_82 : decode cX2_carry 82 = .ok (.istore 7, 2) := by decide +kernel
theorem dX2_carry_84 : decode cX2_carry 84 = .ok (.iload 7, 2) := by decide +kernel
theorem dX2_carry_86 : decode cX2_carry 86 = .ok (.ifCond .le 17, 3) := by decide +kernel
theorem dX2_carry_89 : decode cX2_carry 89 = .ok (.aload_n 0, 1) := by decide +kernel
theorem dX2_carry_90 : decode cX2_carry 90 = .ok (.getfield 21, 3) := by decide +kernel
theorem dX2_carry_93 : decode cX2_carry 93 = .ok (.iload_n 3, 1) := by decide +kernel
theorem dX2_carry_94 : decode cX2_carry 94 = .ok (.iaload, 1) := by decide +kernel
theorem dX2_carry_95 : decode cX2_carry 95 = .ok (.iload 7, 2) := by decide +kernel
theorem dX2_carry_97 : decode cX2_carry 97 = .ok (.invokestatic 111, 3) := by decide +kernel
theorem dX2_carry_100 : decode cX2_carry 100 = .ok (.goto 4, 3) := by decide +kernel
theorem dX2_carry_103 : decode cX2_carry 103 = .ok (.iconst 0, 1) := by decide +kernel
theorem dX2_carry_104 : decode cX2_carry 104 = .ok (.istore 8, 2) := by decide +kernel
theorem dX2_carry_106 : decode cX2_carry 106 = .ok (.iload 4, 2) := by decide +kernel
theorem dX2_carry_108 : decode cX2_carry 108 = .ok (.iload 7, 2) := by decide +kernel
theorem dX2_carry_110 : decode cX2_carry 110 = .ok (.isub, 1) := by decide +kernel
theorem dX2_carry_111 : decode cX2_carry 111 = .ok (.istore 4, 2) := by decide +kernel
theorem dX2_carry_113 : decode cX2_carry 113 = .ok (.iload 8, 2) := by decide +kernel
theorem dX2_carry_115 : decode cX2_carry 115 = .ok (.ifCond .le 33, 3) := by decide +kernel
theorem dX2_carry_118 : decode cX2_carry 118 = .ok (.aload_n 0, 1) := by decide +kernel
theorem dX2_carry_119 : decode cX2_carry 119 = .ok (.getfield 40, 3) := by decide +kernel
theorem dX2_carry_122 : decode cX2_carry 122 = .ok (.iload_n 3, 1) := by decide +kernel
theorem dX2_carry_123 : decode cX2_carry 123 = .ok (.bipush 20, 2) := by decide +kernel
theorem dX2_carry_125 : decode cX2_carry 125 = .ok (.imul, 1) := by decide +kernel
theorem dX2_carry_126 : decode cX2_carry 126 = .ok (.iload 6, 2) := by decide +kernel
theorem dX2_carry_128 : decode cX2_carry 128 = .ok (.iadd, 1) := by decide +kernel
theorem dX2_carry_129 : decode cX2_carry 129 = .ok (.dup2, 1) := by decide +kernel
theorem dX2_carry_130 : decode cX2_carry 130 = .ok (.iaload, 1) := by decide +kernel
theorem dX2_carry_131 : decode cX2_carry 131 = .ok (.iload 8, 2) := by decide +kernel
theorem dX2_carry_133 : decode cX2_carry 133 = .ok (.isub, 1) := by decide +kernel
theorem dX2_carry_134 : decode cX2_carry 134 = .ok (.iastore, 1) := by decide +kernel
theorem dX2_carry_135 : decode cX2_carry 135 = .ok (.aload_n 0, 1) := by decide +kernel
theorem dX2_carry_136 : decode cX2_carry 136 = .ok (.iload_n 3, 1) := by decide +kernel
theorem dX2_carry_137 : decode cX2_carry 137 = .ok (.iload 6, 2) := by decide +kernel
theorem dX2_carry_139 : decode cX2_carry 139 = .ok (.iload_n 1, 1) := by decide +kernel
theorem dX2_carry_140 : decode cX2_carry 140 = .ok (.invokestatic 114, 3) := by decide +kernel
theorem dX2_carry_143 : decode cX2_carry 143 = .ok (.iload 8, 2) := by decide +kernel
theorem dX2_carry_145 : decode cX2_carry 145 = .ok (.invokevirtual 117, 3) := by decide +kernel
theorem dX2_carry_148 : decode cX2_carry 148 = .ok (.iinc 5 1, 3) := by decide +kernel
theorem dX2_carry_151 : decode cX2_carry 151 = .ok (.goto (-109), 3) := by decide +kernel
theorem dX2_carry_154 : decode cX2_carry 154 = .ok (.iinc 3 1, 3) := by decide +kernel
theorem dX2_carry_157 : decode cX2_carry 157 = .ok (.goto (-134), 3) := by decide +kernel
theorem dX2_carry_160 : decode cX2_carry 160 = .ok (.return_, 1) := by decide +kernel
def f_X2_carry_J104 (r : Nat) (v1 : Int32) (v2 : Int32) (v3 : Int32) (v4 : Int32) (v5 : Int32) (v6 : Int32) (v7 : Int32) (k0 : Int32) (s : St) : Option ((Int32 × Int32 × St) ⊕ ((Int32 × St) ⊕ (Unit × St))) := bd (v4 - v7) (fun x18 => if k0 ≤ 0 then (some (Sum.inl (x18, (v5 + (nI 1)), s))) else (if kd (r) = 2 then if inb ((v3 * (nI 20)) + v6) (lnI (r + 7)) = true then if inb ((v3 * (nI 20)) + v6) (lnI (r + 7)) = true then bd (wI s (r + 7) (((v3 * (nI 20)) + v6)).toNatClampNeg ((s.1 (r + 7) (((v3 * (nI 20)) + v6)).toNatClampNeg) - k0)) (fun s23 => cl (f_X2_beside v6 v1 s23) (fun x25 s24 => cl (f_X2_give r v3 x25 k0 s24) (fun x27 s26 => some (Sum.inl (x18, (v5 + (nI 1)), s26))))) else none else none else none))
def f_X2_carry_J68 (r : Nat) (v1 : Int32) (v2 : Int32) (v3 : Int32) (v4 : Int32) (v5 : Int32) (k0 : Int32) (s : St) : Option ((Int32 × Int32 × St) ⊕ ((Int32 × St) ⊕ (Unit × St))) := if kd (r) = 2 then if inb ((v3 * (nI 20)) + k0) (lnI (r + 7)) = true then bd (s.1 (r + 7) (((v3 * (nI 20)) + k0)).toNatClampNeg) (fun x13 => if x13 ≤ 0 then (f_X2_carry_J104 r v1 v2 v3 v4 v5 k0 x13 (nI 0) s) else (if inb v3 (lnI (r + 1)) = true then cl (f_X2_moved (s.1 (r + 1) (v3).toNatClampNeg) x13 s) (fun x17 s16 => f_X2_carry_J104 r v1 v2 v3 v4 v5 k0 x13 x17 s16) else none)) else none else none
def f_X2_carry_L42 (r : Nat) (v1 : Int32) (v2 : Int32) (v3 : Int32) (v4 : Int32) (v5 : Int32) (s : St) : Option ((Int32 × Int32 × St) ⊕ ((Int32 × St) ⊕ (Unit × St))) := if (nI 20) ≤ v5 then (some (Sum.inr (Sum.inl ((v3 + (nI 1)), s)))) else (if v4 ≤ 0 then (some (Sum.inr (Sum.inl ((v3 + (nI 1)), s)))) else (if v2 = 0 then (f_X2_carry_J68 r v1 v2 v3 v4 v5 v5 s) else (f_X2_carry_J68 r v1 v2 v3 v4 v5 ((nI 19) - v5) s)))
def f_X2_carry_L23 (r : Nat) (v1 : Int32) (v2 : Int32) (v3 : Int32) (s : St) : Option ((Int32 × St) ⊕ (Unit × St)) := if kd (r) = 2 then if (s.1 r 0) ≤ v3 then (some (Sum.inr (((), s)))) else (if inb v3 (lnI (r + 6)) = true then bd (s.1 (r + 6) (v3).toNatClampNeg) (fun x7 => lp (fun q : Int32 × Int32 × St => f_X2_carry_L42 r v1 v2 v3 q.1 q.2.1 q.2.2) Fu (x7, (nI 0), s)) else none) else none
def f_X2_carry_J15 (r : Nat) (v1 : Int32) (s : St) : Option (Unit × St) := lp (fun q : Int32 × St => f_X2_carry_L23 r v1 (nI 1) q.1 q.2) Fu ((nI 0), s)
def f_X2_carry (r : Nat) (a1 : Int32) (s : St) : Option (Unit × St) := if ¬ a1 = 0 then (if a1 = (nI 1) then (f_X2_carry_J15 r a1 s) else (if ¬ a1 = (nI 3) then (lp (fun q : Int32 × St => f_X2_carry_L23 r a1 (nI 0) q.1 q.2) Fu ((nI 0), s)) else (f_X2_carry_J15 r a1 s))) else (some (((), s)))
set_option maxHeartbeats 4000000 in
set_option maxRecDepth 100000 in
theorem e_X2_carry_J104 {X : Cx} {Γ : Gm} {r0 : Option Value × St} (hX : Amb X Γ cX2_carry RX2 9 none 2) {r : Nat} {v1 : Int32} {v2 : Int32} {v3 : Int32} {v4 : Int32} {v5 : Int32} {v6 : Int32} {v7 : Int32} {k0 : Int32} {s : St} {t : (Int32 × Int32 × St) ⊕ ((Int32 × St) ⊕ (Unit × St))} (h : f_X2_carry_J104 r v1 v2 v3 v4 v5 v6 v7 k0 s = some t) (hk : (Sum.elim (fun q : Int32 × Int32 × St => Zw X Γ 9 r0 q.2.2 42 [(0, .ref (gL Γ (r))), (1, .int v1), (2, .int v2), (3, .int v3), (4, .int q.1), (5, .int q.2.1)] []) (Sum.elim (fun q : Int32 × St => Zw X Γ 9 r0 q.2 23 [(0, .ref (gL Γ (r))), (1, .int v1), (2, .int v2), (3, .int q.1)] []) (fun t : Unit × St => ((none : Option Value), t.2) = r0))) t) : Zw X Γ 9 r0 s 104 [(0, .ref (gL Γ (r))), (1, .int v1), (2, .int v2), (3, .int v3), (4, .int v4), (5, .int v5), (6, .int v6), (7, .int v7)] [.int k0] := by
  unfold f_X2_carry_J104 at h
  refine z_istore hX (lv2 := [(8, .int k0), (0, .ref (gL Γ (r))), (1, .int v1), (2, .int v2), (3, .int v3), (4, .int v4), (5, .int v5), (6, .int v6), (7, .int v7)]) dX2_carry_104 (by decide) rfl 106 rfl ?_
  refine z_iload hX dX2_carry_106 5 rfl 108 rfl ?_
  refine z_iload hX dX2_carry_108 8 rfl 110 rfl ?_
  refine z_isub hX dX2_carry_110 111 rfl ?_
  replace h := bd_elim h
  obtain ⟨x18, ex18, h⟩ := h
  refine z_nm ex18 ?_
  refine z_istore hX (lv2 := [(4, .int x18), (8, .int k0), (0, .ref (gL Γ (r))), (1, .int v1), (2, .int v2), (3, .int v3), (5, .int v5), (6, .int v6), (7, .int v7)]) dX2_carry_111 (by decide) rfl 113 rfl ?_
  refine z_iload hX dX2_carry_113 1 rfl 115 rfl ?_
  refine z_if_le hX 148 dX2_carry_115 (by decide) 118 rfl (fun c19 => ?_) (fun c19 => ?_)
  · replace h := br_pos h c19
    refine z_iinc hX (v := (v5 + (nI 1))) (lv2 := [(5, .int ((v5 + (nI 1)))), (4, .int x18), (8, .int k0), (0, .ref (gL Γ (r))), (1, .int v1), (2, .int v2), (3, .int v3), (6, .int v6), (7, .int v7)]) dX2_carry_148 6 rfl rfl (by decide) rfl 151 rfl ?_
    refine z_goto hX 42 dX2_carry_151 (by decide) ?_
    cases h
    exact z_sub [3, 4, 5, 6, 1, 0] rfl hk
  · replace h := br_neg h c19
    refine z_aload_n hX dX2_carry_118 2 rfl 119 rfl ?_
    replace h := gd_elim h
    obtain ⟨g20, h⟩ := h
    refine z_get2 hX (k := r) (j := 9) (v := .ref (gL Γ (r + 7))) g20 (by decide) rfl dX2_carry_119 fl_X2_40 122 rfl ?_
    refine z_iload_n hX dX2_carry_122 5 rfl 123 rfl ?_
    refine z_bipush hX (v := (nI 20)) dX2_carry_123 (by decide) 125 rfl ?_
    refine z_imul hX dX2_carry_125 126 rfl ?_
    refine z_iload hX dX2_carry_126 7 rfl 128 rfl ?_
    refine z_iadd hX dX2_carry_128 129 rfl ?_
    refine z_dup2 hX dX2_carry_129 rfl rfl 130 rfl ?_
    replace h := gd_elim h
    obtain ⟨g21, h⟩ := h
    refine z_iald hX (inb_vp g21) dX2_carry_130 131 rfl ?_
    refine z_iload hX dX2_carry_131 1 rfl 133 rfl ?_
    refine z_isub hX dX2_carry_133 134 rfl ?_
    replace h := gd_elim h
    obtain ⟨g22, h⟩ := h
    replace h := bd_elim h
    obtain ⟨s23, es23, h⟩ := h
    refine z_iast hX (inb_vp g22) dX2_carry_134 es23 135 rfl ?_
    refine z_aload_n hX dX2_carry_135 2 rfl 136 rfl ?_
    refine z_iload_n hX dX2_carry_136 5 rfl 137 rfl ?_
    refine z_iload hX dX2_carry_137 7 rfl 139 rfl ?_
    refine z_iload_n hX dX2_carry_139 3 rfl 140 rfl ?_
    replace h := cl_elim h
    obtain ⟨x25, s24, hx25, h⟩ := h
    refine z_cSi hX (As := [.int v6, .int v1]) (c_X2_beside hx25) lk_X2_114 ds_X2_beside rfl (by decide) (by decide) (Nat.le_of_ble_eq_true rfl) dX2_carry_140 rfl 143 rfl ?_
    refine z_iload hX dX2_carry_143 1 rfl 145 rfl ?_
    replace h := cl_elim h
    obtain ⟨x27, s26, hx27, h⟩ := h
    refine z_cV2v hX (b := r) (As := [.int v3, .int x25, .int k0]) (c_X2_give hx27) lk_X2_117 rfl g20 ds_X2_give rfl (by decide) (by decide) (by decide) dX2_carry_145 rfl 148 rfl ?_
    refine z_iinc hX (v := (v5 + (nI 1))) (lv2 := [(5, .int ((v5 + (nI 1)))), (4, .int x18), (8, .int k0), (0, .ref (gL Γ (r))), (1, .int v1), (2, .int v2), (3, .int v3), (6, .int v6), (7, .int v7)]) dX2_carry_148 6 rfl rfl (by decide) rfl 151 rfl ?_
    refine z_goto hX 42 dX2_carry_151 (by decide) ?_
    cases h
    exact z_sub [3, 4, 5, 6, 1, 0] rfl hk
set_option maxHeartbeats 4000000 in
set_option maxRecDepth 100000 in
theorem e_X2_carry_J68 {X : Cx} {Γ : Gm} {r0 : Option Value × St} (hX : Amb X Γ cX2_carry RX2 9 none 2) {r : Nat} {v1 : Int32} {v2 : Int32} {v3 : Int32} {v4 : Int32} {v5 : Int32} {k0 : Int32} {s : St} {t : (Int32 × Int32 × St) ⊕ ((Int32 × St) ⊕ (Unit × St))} (h : f_X2_carry_J68 r v1 v2 v3 v4 v5 k0 s = some t) (hk : (Sum.elim (fun q : Int32 × Int32 × St => Zw X Γ 9 r0 q.2.2 42 [(0, .ref (gL Γ (r))), (1, .int v1), (2, .int v2), (3, .int v3), (4, .int q.1), (5, .int q.2.1)] []) (Sum.elim (fun q : Int32 × St => Zw X Γ 9 r0 q.2 23 [(0, .ref (gL Γ (r))), (1, .int v1), (2, .int v2), (3, .int q.1)] []) (fun t : Unit × St => ((none : Option Value), t.2) = r0))) t) : Zw X Γ 9 r0 s 68 [(0, .ref (gL Γ (r))), (1, .int v1), (2, .int v2), (3, .int v3), (4, .int v4), (5, .int v5)] [.int k0] := by
  unfold f_X2_carry_J68 at h
  refine z_istore hX (lv2 := [(6, .int k0), (0, .ref (gL Γ (r))), (1, .int v1), (2, .int v2), (3, .int v3), (4, .int v4), (5, .int v5)]) dX2_carry_68 (by decide) rfl 70 rfl ?_
  refine z_aload_n hX dX2_carry_70 1 rfl 71 rfl ?_
  replace h := gd_elim h
  obtain ⟨g11, h⟩ := h
  refine z_get2 hX (k := r) (j := 9) (v := .ref (gL Γ (r + 7))) g11 (by decide) rfl dX2_carry_71 fl_X2_40 74 rfl ?_
  refine z_iload_n hX dX2_carry_74 4 rfl 75 rfl ?_
  refine z_bipush hX (v := (nI 20)) dX2_carry_75 (by decide) 77 rfl ?_
  refine z_imul hX dX2_carry_77 78 rfl ?_
  refine z_iload hX dX2_carry_78 0 rfl 80 rfl ?_
  refine z_iadd hX dX2_carry_80 81 rfl ?_
  replace h := gd_elim h
  obtain ⟨g12, h⟩ := h
  refine z_iald hX (inb_vp g12) dX2_carry_81 82 rfl ?_
  replace h := bd_elim h
  obtain ⟨x13, ex13, h⟩ := h
  refine z_nm ex13 ?_
  refine z_istore hX (lv2 := [(7, .int x13), (6, .int k0), (0, .ref (gL Γ (r))), (1, .int v1), (2, .int v2), (3, .int v3), (4, .int v4), (5, .int v5)]) dX2_carry_82 (by decide) rfl 84 rfl ?_
  refine z_iload hX dX2_carry_84 0 rfl 86 rfl ?_
  refine z_if_le hX 103 dX2_carry_86 (by decide) 89 rfl (fun c14 => ?_) (fun c14 => ?_)
  · replace h := br_pos h c14
    refine z_iconst hX (v := (nI 0)) dX2_carry_103 rfl 104 rfl ?_
    exact z_sub [2, 3, 4, 5, 6, 7, 1, 0] rfl (e_X2_carry_J104 hX h hk)
  · replace h := br_neg h c14
    refine z_aload_n hX dX2_carry_89 2 rfl 90 rfl ?_
    refine z_get2 hX (k := r) (j := 3) (v := .ref (gL Γ (r + 1))) g11 (by decide) rfl dX2_carry_90 fl_X2_21 93 rfl ?_
    refine z_iload_n hX dX2_carry_93 5 rfl 94 rfl ?_
    replace h := gd_elim h
    obtain ⟨g15, h⟩ := h
    refine z_iald hX (inb_vp g15) dX2_carry_94 95 rfl ?_
    refine z_iload hX dX2_carry_95 0 rfl 97 rfl ?_
    replace h := cl_elim h
    obtain ⟨x17, s16, hx17, h⟩ := h
    refine z_cSi hX (As := [.int ((s.1 (r + 1) (v3).toNatClampNeg)), .int x13]) (c_X2_moved hx17) lk_X2_111 ds_X2_moved rfl (by decide) (by decide) (by decide) dX2_carry_97 rfl 100 rfl ?_
    refine z_goto hX 104 dX2_carry_100 (by decide) ?_
    exact z_sub [2, 3, 4, 5, 6, 7, 1, 0] rfl (e_X2_carry_J104 hX h hk)
set_option maxHeartbeats 4000000 in
set_option maxRecDepth 100000 in
theorem e_X2_carry_L42 {X : Cx} {Γ : Gm} {r0 : Option Value × St} (hX : Amb X Γ cX2_carry RX2 9 none 2) {r : Nat} {v1 : Int32} {v2 : Int32} {v3 : Int32} {v4 : Int32} {v5 : Int32} {s : St} {t : (Int32 × Int32 × St) ⊕ ((Int32 × St) ⊕ (Unit × St))} (h : f_X2_carry_L42 r v1 v2 v3 v4 v5 s = some t) (hk : (Sum.elim (fun q : Int32 × Int32 × St => Zw X Γ 9 r0 q.2.2 42 [(0, .ref (gL Γ (r))), (1, .int v1), (2, .int v2), (3, .int v3), (4, .int q.1), (5, .int q.2.1)] []) (Sum.elim (fun q : Int32 × St => Zw X Γ 9 r0 q.2 23 [(0, .ref (gL Γ (r))), (1, .int v1), (2, .int v2), (3, .int q.1)] []) (fun t : Unit × St => ((none : Option Value), t.2) = r0))) t) : Zw X Γ 9 r0 s 42 [(0, .ref (gL Γ (r))), (1, .int v1), (2, .int v2), (3, .int v3), (4, .int v4), (5, .int v5)] [] := by
  unfold f_X2_carry_L42 at h
  refine z_iload hX dX2_carry_42 5 rfl 44 rfl ?_
  refine z_bipush hX (v := (nI 20)) dX2_carry_44 (by decide) 46 rfl ?_
  refine z_icmp_ge hX 154 dX2_carry_46 (by decide) 49 rfl (fun c8 => ?_) (fun c8 => ?_)
  · replace h := br_pos h c8
    refine z_iinc hX (v := (v3 + (nI 1))) (lv2 := [(3, .int ((v3 + (nI 1)))), (0, .ref (gL Γ (r))), (1, .int v1), (2, .int v2), (4, .int v4), (5, .int v5)]) dX2_carry_154 3 rfl rfl (by decide) rfl 157 rfl ?_
    refine z_goto hX 23 dX2_carry_157 (by decide) ?_
    cases h
    exact z_sub [1, 2, 3, 0] rfl hk
  · replace h := br_neg h c8
    refine z_iload hX dX2_carry_49 4 rfl 51 rfl ?_
    refine z_if_le hX 154 dX2_carry_51 (by decide) 54 rfl (fun c9 => ?_) (fun c9 => ?_)
    · replace h := br_pos h c9
      refine z_iinc hX (v := (v3 + (nI 1))) (lv2 := [(3, .int ((v3 + (nI 1)))), (0, .ref (gL Γ (r))), (1, .int v1), (2, .int v2), (4, .int v4), (5, .int v5)]) dX2_carry_154 3 rfl rfl (by decide) rfl 157 rfl ?_
      refine z_goto hX 23 dX2_carry_157 (by decide) ?_
      cases h
      exact z_sub [1, 2, 3, 0] rfl hk
    · replace h := br_neg h c9
      refine z_iload_n hX dX2_carry_54 2 rfl 55 rfl ?_
      refine z_if_eq hX 66 dX2_carry_55 (by decide) 58 rfl (fun c10 => ?_) (fun c10 => ?_)
      · replace h := br_pos h c10
        refine z_iload hX dX2_carry_66 5 rfl 68 rfl ?_
        exact z_sub [0, 1, 2, 3, 4, 5] rfl (e_X2_carry_J68 hX h hk)
      · replace h := br_neg h c10
        refine z_bipush hX (v := (nI 19)) dX2_carry_58 (by decide) 60 rfl ?_
        refine z_iload hX dX2_carry_60 5 rfl 62 rfl ?_
        refine z_isub hX dX2_carry_62 63 rfl ?_
        refine z_goto hX 68 dX2_carry_63 (by decide) ?_
        exact z_sub [0, 1, 2, 3, 4, 5] rfl (e_X2_carry_J68 hX h hk)
set_option maxHeartbeats 4000000 in
set_option maxRecDepth 100000 in
theorem e_X2_carry_L23 {X : Cx} {Γ : Gm} {r0 : Option Value × St} (hX : Amb X Γ cX2_carry RX2 9 none 2) {r : Nat} {v1 : Int32} {v2 : Int32} {v3 : Int32} {s : St} {t : (Int32 × St) ⊕ (Unit × St)} (h : f_X2_carry_L23 r v1 v2 v3 s = some t) (hk : (Sum.elim (fun q : Int32 × St => Zw X Γ 9 r0 q.2 23 [(0, .ref (gL Γ (r))), (1, .int v1), (2, .int v2), (3, .int q.1)] []) (fun t : Unit × St => ((none : Option Value), t.2) = r0)) t) : Zw X Γ 9 r0 s 23 [(0, .ref (gL Γ (r))), (1, .int v1), (2, .int v2), (3, .int v3)] [] := by
  unfold f_X2_carry_L23 at h
  refine z_iload_n hX dX2_carry_23 3 rfl 24 rfl ?_
  refine z_aload_n hX dX2_carry_24 0 rfl 25 rfl ?_
  replace h := gd_elim h
  obtain ⟨g4, h⟩ := h
  refine z_get2 hX (k := r) (j := 0) (v := .int ((s.1 r 0))) g4 (by decide) rfl dX2_carry_25 fl_X2_9 28 rfl ?_
  refine z_icmp_ge hX 160 dX2_carry_28 (by decide) 31 rfl (fun c5 => ?_) (fun c5 => ?_)
  · replace h := br_pos h c5
    cases h
    exact z_vret hX dX2_carry_160 rfl hk
  · replace h := br_neg h c5
    refine z_aload_n hX dX2_carry_31 0 rfl 32 rfl ?_
    refine z_get2 hX (k := r) (j := 8) (v := .ref (gL Γ (r + 6))) g4 (by decide) rfl dX2_carry_32 fl_X2_37 35 rfl ?_
    refine z_iload_n hX dX2_carry_35 3 rfl 36 rfl ?_
    replace h := gd_elim h
    obtain ⟨g6, h⟩ := h
    refine z_iald hX (inb_vp g6) dX2_carry_36 37 rfl ?_
    replace h := bd_elim h
    obtain ⟨x7, ex7, h⟩ := h
    refine z_nm ex7 ?_
    refine z_istore hX (lv2 := [(4, .int x7), (0, .ref (gL Γ (r))), (1, .int v1), (2, .int v2), (3, .int v3)]) dX2_carry_37 (by decide) rfl 39 rfl ?_
    refine z_iconst hX (v := (nI 0)) dX2_carry_39 rfl 40 rfl ?_
    refine z_istore hX (lv2 := [(5, .int ((nI 0))), (4, .int x7), (0, .ref (gL Γ (r))), (1, .int v1), (2, .int v2), (3, .int v3)]) dX2_carry_40 (by decide) rfl 42 rfl ?_
    exact z_sub [2, 3, 4, 5, 1, 0] rfl (lp_ok (Z := fun q : Int32 × Int32 × St => Zw X Γ 9 r0 q.2.2 42 [(0, .ref (gL Γ (r))), (1, .int v1), (2, .int v2), (3, .int v3), (4, .int q.1), (5, .int q.2.1)] []) (fun q t h hk => e_X2_carry_L42 hX h hk) Fu _ _ h hk)
set_option maxHeartbeats 4000000 in
set_option maxRecDepth 100000 in
theorem e_X2_carry_J15 {X : Cx} {Γ : Gm} {r0 : Option Value × St} (hX : Amb X Γ cX2_carry RX2 9 none 2) {r : Nat} {v1 : Int32} {s : St} {t : Unit × St} (h : f_X2_carry_J15 r v1 s = some t) (hk : (fun t : Unit × St => ((none : Option Value), t.2) = r0) t) : Zw X Γ 9 r0 s 15 [(0, .ref (gL Γ (r))), (1, .int v1)] [] := by
  unfold f_X2_carry_J15 at h
  refine z_iconst hX (v := (nI 1)) dX2_carry_15 rfl 16 rfl ?_
  refine z_goto hX 20 dX2_carry_16 (by decide) ?_
  refine z_istore_n hX (lv2 := [(2, .int ((nI 1))), (0, .ref (gL Γ (r))), (1, .int v1)]) dX2_carry_20 (by decide) rfl 21 rfl ?_
  refine z_iconst hX (v := (nI 0)) dX2_carry_21 rfl 22 rfl ?_
  refine z_istore_n hX (lv2 := [(3, .int ((nI 0))), (2, .int ((nI 1))), (0, .ref (gL Γ (r))), (1, .int v1)]) dX2_carry_22 (by decide) rfl 23 rfl ?_
  exact z_sub [2, 3, 1, 0] rfl (lp_ok (Z := fun q : Int32 × St => Zw X Γ 9 r0 q.2 23 [(0, .ref (gL Γ (r))), (1, .int v1), (2, .int ((nI 1))), (3, .int q.1)] []) (fun q t h hk => e_X2_carry_L23 hX h hk) Fu _ _ h hk)
set_option maxHeartbeats 4000000 in
set_option maxRecDepth 100000 in
theorem e_X2_carry {X : Cx} {Γ : Gm} {r0 : Option Value × St} (hX : Amb X Γ cX2_carry RX2 9 none 2) {r : Nat} {a1 : Int32} {s : St} {t : Unit × St} (h : f_X2_carry r a1 s = some t) (hk : (fun t : Unit × St => ((none : Option Value), t.2) = r0) t) : Zw X Γ 9 r0 s 0 [(0, .ref (gL Γ (r))), (1, .int a1)] [] := by
  unfold f_X2_carry at h
  refine z_iload_n hX dX2_carry_0 1 rfl 1 rfl ?_
  refine z_if_ne hX 5 dX2_carry_1 (by decide) 4 rfl (fun c1 => ?_) (fun c1 => ?_)
  · replace h := br_pos h c1
    refine z_iload_n hX dX2_carry_5 1 rfl 6 rfl ?_
    refine z_iconst hX (v := (nI 1)) dX2_carry_6 rfl 7 rfl ?_
    refine z_icmp_eq hX 15 dX2_carry_7 (by decide) 10 rfl (fun c2 => ?_) (fun c2 => ?_)
    · replace h := br_pos h c2
      exact z_sub [0, 1] rfl (e_X2_carry_J15 hX h hk)
    · replace h := br_neg h c2
      refine z_iload_n hX dX2_carry_10 1 rfl 11 rfl ?_
      refine z_iconst hX (v := (nI 3)) dX2_carry_11 rfl 12 rfl ?_
      refine z_icmp_ne hX 19 dX2_carry_12 (by decide) 15 rfl (fun c3 => ?_) (fun c3 => ?_)
      · replace h := br_pos h c3
        refine z_iconst hX (v := (nI 0)) dX2_carry_19 rfl 20 rfl ?_
        refine z_istore_n hX (lv2 := [(2, .int ((nI 0))), (0, .ref (gL Γ (r))), (1, .int a1)]) dX2_carry_20 (by decide) rfl 21 rfl ?_
        refine z_iconst hX (v := (nI 0)) dX2_carry_21 rfl 22 rfl ?_
        refine z_istore_n hX (lv2 := [(3, .int ((nI 0))), (2, .int ((nI 0))), (0, .ref (gL Γ (r))), (1, .int a1)]) dX2_carry_22 (by decide) rfl 23 rfl ?_
        exact z_sub [2, 3, 1, 0] rfl (lp_ok (Z := fun q : Int32 × St => Zw X Γ 9 r0 q.2 23 [(0, .ref (gL Γ (r))), (1, .int a1), (2, .int ((nI 0))), (3, .int q.1)] []) (fun q t h hk => e_X2_carry_L23 hX h hk) Fu _ _ h hk)
      · replace h := br_neg h c3
        exact z_sub [0, 1] rfl (e_X2_carry_J15 hX h hk)
  · replace h := br_neg h c1
    cases h
    exact z_vret hX dX2_carry_4 rfl hk
theorem c_X2_carry {lc : Launch} {Γ : Gm} {r : Nat} {a1 : Int32} {s s2 : St} {v : Unit} (h : f_X2_carry r a1 s = some (v, s2)) : Ct lc Γ yX2_carry cX2_carry 9 none 2 [.ref (gL Γ (r)), .int a1] s (none, s2) := Ct.of (by decide +kernel) (Nat.le_of_ble_eq_true rfl) (fun X hl hX => e_X2_carry hX h rfl)
theorem dX2_pass_0 : decode cX2_pass 0 = .ok (.aload_n 0, 1) := by decide +kernel
theorem dX2_pass_1 : decode cX2_pass 1 = .ok (.invokevirtual 96, 3) := by decide +kernel
theorem dX2_pass_4 : decode cX2_pass 4 = .ok (.aload_n 0, 1) := by decide +kernel
theorem dX2_pass_5 : decode cX2_pass 5 = .ok (.invokevirtual 99, 3) := by decide +kernel
theorem dX2_pass_8 : decode cX2_pass 8 = .ok (.istore_n 2, 1) := by decide +kernel
theorem dX2_pass_9 : decode cX2_pass 9 = .ok (.aload_n 0, 1) := by decide +kernel
theorem dX2_pass_10 : decode cX2_pass 10 = .ok (.iload_n 1, 1) := by decide +kernel
theorem dX2_pass_11 : decode cX2_pass 11 = .ok (.invokevirtual 102, 3) := by decide +kernel
theorem dX2_pass_14 : decode cX2_pass 14 = .ok (.aload_n 0, 1) := by decide +kernel
theorem dX2_pass_15 : decode cX2_pass 15 = .ok (.dup, 1) := by decide +kernel
theorem dX2_pass_16 : decode cX2_pass 16 = .ok (.getfield 18, 3) := by decide +kernel
theorem dX2_pass_19 : decode cX2_pass 19 = .ok (.iconst 1, 1) := by decide +kernel
theorem dX2_pass_20 : decode cX2_pass 20 = .ok (.iadd, 1) := by decide +kernel
theorem dX2_pass_21 : decode cX2_pass 21 = .ok (.putfield 18, 3) := by decide +kernel
theorem dX2_pass_24 : decode cX2_pass 24 = .ok (.iload_n 2, 1) := by decide +kernel
theorem dX2_pass_25 : decode cX2_pass 25 = .ok (.ireturn, 1) := by decide +kernel
def f_X2_pass (r : Nat) (a1 : Int32) (s : St) : Option (Int32 × St) := if kd (r) = 2 then cl (f_X2_tellAll r s) (fun x2 s1 => cl (f_X2_takeAll r s1) (fun x5 s4 => cl (f_X2_carry r a1 s4) (fun x7 s6 => bd (wI s6 r 2 ((s6.1 r 2) + (nI 1))) (fun s8 => some ((x5, s8)))))) else none
set_option maxHeartbeats 4000000 in
set_option maxRecDepth 100000 in
theorem e_X2_pass {X : Cx} {Γ : Gm} {r0 : Option Value × St} (hX : Amb X Γ cX2_pass RX2 3 (some .int) 3) {r : Nat} {a1 : Int32} {s : St} {t : Int32 × St} (h : f_X2_pass r a1 s = some t) (hk : (fun t : Int32 × St => (some (Value.int t.1), t.2) = r0) t) : Zw X Γ 3 r0 s 0 [(0, .ref (gL Γ (r))), (1, .int a1)] [] := by
  unfold f_X2_pass at h
  refine z_aload_n hX dX2_pass_0 0 rfl 1 rfl ?_
  replace h := gd_elim h
  obtain ⟨g3, h⟩ := h
  replace h := cl_elim h
  obtain ⟨x2, s1, hx2, h⟩ := h
  refine z_cV2v hX (b := r) (As := []) (c_X2_tellAll hx2) lk_X2_96 rfl g3 ds_X2_tellAll rfl (by decide) (by decide) (by decide) dX2_pass_1 rfl 4 rfl ?_
  refine z_aload_n hX dX2_pass_4 0 rfl 5 rfl ?_
  replace h := cl_elim h
  obtain ⟨x5, s4, hx5, h⟩ := h
  refine z_cV2i hX (b := r) (As := []) (c_X2_takeAll hx5) lk_X2_99 rfl g3 ds_X2_takeAll rfl (by decide) (by decide) (by decide) dX2_pass_5 rfl 8 rfl ?_
  refine z_istore_n hX (lv2 := [(2, .int x5), (0, .ref (gL Γ (r))), (1, .int a1)]) dX2_pass_8 (by decide) rfl 9 rfl ?_
  refine z_aload_n hX dX2_pass_9 1 rfl 10 rfl ?_
  refine z_iload_n hX dX2_pass_10 2 rfl 11 rfl ?_
  replace h := cl_elim h
  obtain ⟨x7, s6, hx7, h⟩ := h
  refine z_cV2v hX (b := r) (As := [.int a1]) (c_X2_carry hx7) lk_X2_102 rfl g3 ds_X2_carry rfl (by decide) (by decide) (by decide) dX2_pass_11 rfl 14 rfl ?_
  refine z_aload_n hX dX2_pass_14 1 rfl 15 rfl ?_
  refine z_dup hX dX2_pass_15 rfl 16 rfl ?_
  refine z_get2 hX (k := r) (j := 2) (v := .int ((s6.1 r 2))) g3 (by decide) rfl dX2_pass_16 fl_X2_18 19 rfl ?_
  refine z_iconst hX (v := (nI 1)) dX2_pass_19 rfl 20 rfl ?_
  refine z_iadd hX dX2_pass_20 21 rfl ?_
  replace h := bd_elim h
  obtain ⟨s8, es8, h⟩ := h
  refine z_putI2 hX (k := r) (j := 2) g3 (by decide) rfl (by decide +kernel) (pwI_2_2 ..) dX2_pass_21 fl_X2_18 es8 24 rfl ?_
  refine z_iload_n hX dX2_pass_24 0 rfl 25 rfl ?_
  cases h
  exact z_iret hX dX2_pass_25 rfl hk
theorem c_X2_pass {lc : Launch} {Γ : Gm} {r : Nat} {a1 : Int32} {s s2 : St} {v : Int32} (h : f_X2_pass r a1 s = some (v, s2)) : Ct lc Γ yX2_pass cX2_pass 3 (some .int) 3 [.ref (gL Γ (r)), .int a1] s (some (.int v), s2) := Ct.of (by decide +kernel) (Nat.le_of_ble_eq_true rfl) (fun X hl hX => e_X2_pass hX h rfl)
theorem dX2_goOn_0 : decode cX2_goOn 0 = .ok (.iconst 0, 1) := by decide +kernel
theorem dX2_goOn_1 : decode cX2_goOn 1 = .ok (.istore_n 2, 1) := by decide +kernel
theorem dX2_goOn_2 : decode cX2_goOn 2 = .ok (.iconst 0, 1) := by decide +kernel
theorem dX2_goOn_3 : decode cX2_goOn 3 = .ok (.istore_n 3, 1) := by decide +kernel
theorem dX2_goOn_4 : decode cX2_goOn 4 = .ok (.iload_n 3, 1) := by decide +kernel
theorem dX2_goOn_5 : decode cX2_goOn 5 = .ok (.iload_n 1, 1) := by decide +kernel
theorem dX2_goOn_6 : decode cX2_goOn 6 = .ok (.if_icmp .ge 27, 3) := by decide +kernel
theorem dX2_goOn_9 : decode cX2_goOn 9 = .ok (.aload_n 0, 1) := by decide +kernel
theorem dX2_goOn_10 : decode cX2_goOn 10 = .ok (.invokevirtual 85, 3) := by decide +kernel
theorem dX2_goOn_13 : decode cX2_goOn 13 = .ok (.ifCond .ne 20, 3) := by decide +kernel
theorem dX2_goOn_16 : decode cX2_goOn 16 = .ok (.iload_n 2, 1) := by decide +kernel
theorem dX2_goOn_17 : decode cX2_goOn 17 = .ok (.aload_n 0, 1) := by decide +kernel
theorem dX2_goOn_18 : decode cX2_goOn 18 = .ok (.aload_n 0, 1) := by decide +kernel
theorem dX2_goOn_19 : decode cX2_goOn 19 = .ok (.invokevirtual 89, 3) := by decide +kernel
theorem dX2_goOn_22 : decode cX2_goOn 22 = .ok (.invokevirtual 93, 3) := by decide +kernel
theorem dX2_goOn_25 : decode cX2_goOn 25 = .ok (.iadd, 1) := by decide +kernel
theorem dX2_goOn_26 : decode cX2_goOn 26 = .ok (.istore_n 2, 1) := by decide +kernel
theorem dX2_goOn_27 : decode cX2_goOn 27 = .ok (.iinc 3 1, 3) := by decide +kernel
theorem dX2_goOn_30 : decode cX2_goOn 30 = .ok (.goto (-26), 3) := by decide +kernel
theorem dX2_goOn_33 : decode cX2_goOn 33 = .ok (.aload_n 0, 1) := by decide +kernel
theorem dX2_goOn_34 : decode cX2_goOn 34 = .ok (.dup, 1) := by decide +kernel
theorem dX2_goOn_35 : decode cX2_goOn 35 = .ok (.getfield 18, 3) := by decide +kernel
theorem dX2_goOn_38 : decode cX2_goOn 38 = .ok (.iload_n 1, 1) := by decide +kernel
theorem dX2_goOn_39 : decode cX2_goOn 39 = .ok (.iload_n 3, 1) := by decide +kernel
theorem dX2_goOn_40 : decode cX2_goOn 40 = .ok (.isub, 1) := by decide +kernel
theorem dX2_goOn_41 : decode cX2_goOn 41 = .ok (.iadd, 1) := by decide +kernel
theorem dX2_goOn_42 : decode cX2_goOn 42 = .ok (.putfield 18, 3) := by decide +kernel
theorem dX2_goOn_45 : decode cX2_goOn 45 = .ok (.iload_n 2, 1) := by decide +kernel
theorem dX2_goOn_46 : decode cX2_goOn 46 = .ok (.ireturn, 1) := by decide +kernel
def f_X2_goOn_J33 (r : Nat) (v1 : Int32) (v2 : Int32) (v3 : Int32) (s : St) : Option (Int32 × St) := if kd (r) = 2 then bd (wI s r 2 ((s.1 r 2) + (v1 - v3))) (fun s12 => some ((v2, s12))) else none
def f_X2_goOn_L4 (r : Nat) (v1 : Int32) (v2 : Int32) (v3 : Int32) (s : St) : Option ((Int32 × Int32 × St) ⊕ (Int32 × St)) := if v1 ≤ v3 then (ox (f_X2_goOn_J33 r v1 v2 v3 s)) else (if kd (r) = 2 then cl (f_X2_isOver r s) (fun x3 s2 => if ¬ x3 = 0 then (ox (f_X2_goOn_J33 r v1 v2 v3 s2)) else (cl (f_X2_wayNow r s2) (fun x7 s6 => cl (f_X2_pass r x7 s6) (fun x9 s8 => bd (v2 + x9) (fun x10 => some (Sum.inl (x10, (v3 + (nI 1)), s8))))))) else none)
def f_X2_goOn (r : Nat) (a1 : Int32) (s : St) : Option (Int32 × St) := lp (fun q : Int32 × Int32 × St => f_X2_goOn_L4 r a1 q.1 q.2.1 q.2.2) Fu ((nI 0), (nI 0), s)
set_option maxHeartbeats 4000000 in
set_option maxRecDepth 100000 in
theorem e_X2_goOn_J33 {X : Cx} {Γ : Gm} {r0 : Option Value × St} (hX : Amb X Γ cX2_goOn RX2 4 (some .int) 4) {r : Nat} {v1 : Int32} {v2 : Int32} {v3 : Int32} {s : St} {t : Int32 × St} (h : f_X2_goOn_J33 r v1 v2 v3 s = some t) (hk : (fun t : Int32 × St => (some (Value.int t.1), t.2) = r0) t) : Zw X Γ 4 r0 s 33 [(0, .ref (gL Γ (r))), (1, .int v1), (2, .int v2), (3, .int v3)] [] := by
  unfold f_X2_goOn_J33 at h
  refine z_aload_n hX dX2_goOn_33 0 rfl 34 rfl ?_
  refine z_dup hX dX2_goOn_34 rfl 35 rfl ?_
  replace h := gd_elim h
  obtain ⟨g11, h⟩ := h
  refine z_get2 hX (k := r) (j := 2) (v := .int ((s.1 r 2))) g11 (by decide) rfl dX2_goOn_35 fl_X2_18 38 rfl ?_
  refine z_iload_n hX dX2_goOn_38 1 rfl 39 rfl ?_
  refine z_iload_n hX dX2_goOn_39 3 rfl 40 rfl ?_
  refine z_isub hX dX2_goOn_40 41 rfl ?_
  refine z_iadd hX dX2_goOn_41 42 rfl ?_
  replace h := bd_elim h
  obtain ⟨s12, es12, h⟩ := h
  refine z_putI2 hX (k := r) (j := 2) g11 (by decide) rfl (by decide +kernel) (pwI_2_2 ..) dX2_goOn_42 fl_X2_18 es12 45 rfl ?_
  refine z_iload_n hX dX2_goOn_45 2 rfl 46 rfl ?_
  cases h
  exact z_iret hX dX2_goOn_46 rfl hk
set_option maxHeartbeats 4000000 in
set_option maxRecDepth 100000 in
theorem e_X2_goOn_L4 {X : Cx} {Γ : Gm} {r0 : Option Value × St} (hX : Amb X Γ cX2_goOn RX2 4 (some .int) 4) {r : Nat} {v1 : Int32} {v2 : Int32} {v3 : Int32} {s : St} {t : (Int32 × Int32 × St) ⊕ (Int32 × St)} (h : f_X2_goOn_L4 r v1 v2 v3 s = some t) (hk : (Sum.elim (fun q : Int32 × Int32 × St => Zw X Γ 4 r0 q.2.2 4 [(0, .ref (gL Γ (r))), (1, .int v1), (2, .int q.1), (3, .int q.2.1)] []) (fun t : Int32 × St => (some (Value.int t.1), t.2) = r0)) t) : Zw X Γ 4 r0 s 4 [(0, .ref (gL Γ (r))), (1, .int v1), (2, .int v2), (3, .int v3)] [] := by
  unfold f_X2_goOn_L4 at h
  refine z_iload_n hX dX2_goOn_4 3 rfl 5 rfl ?_
  refine z_iload_n hX dX2_goOn_5 1 rfl 6 rfl ?_
  refine z_icmp_ge hX 33 dX2_goOn_6 (by decide) 9 rfl (fun c1 => ?_) (fun c1 => ?_)
  · replace h := br_pos h c1
    replace h := ox_elim h
    obtain ⟨u, rfl, h⟩ := h
    exact z_sub [0, 1, 2, 3] rfl (e_X2_goOn_J33 hX h hk)
  · replace h := br_neg h c1
    refine z_aload_n hX dX2_goOn_9 0 rfl 10 rfl ?_
    replace h := gd_elim h
    obtain ⟨g4, h⟩ := h
    replace h := cl_elim h
    obtain ⟨x3, s2, hx3, h⟩ := h
    refine z_cV2i hX (b := r) (As := []) (c_X2_isOver hx3) lk_X2_85 rfl g4 ds_X2_isOver rfl (by decide) (by decide) (by decide) dX2_goOn_10 rfl 13 rfl ?_
    refine z_if_ne hX 33 dX2_goOn_13 (by decide) 16 rfl (fun c5 => ?_) (fun c5 => ?_)
    · replace h := br_pos h c5
      replace h := ox_elim h
      obtain ⟨u, rfl, h⟩ := h
      exact z_sub [0, 1, 2, 3] rfl (e_X2_goOn_J33 hX h hk)
    · replace h := br_neg h c5
      refine z_iload_n hX dX2_goOn_16 2 rfl 17 rfl ?_
      refine z_aload_n hX dX2_goOn_17 0 rfl 18 rfl ?_
      refine z_aload_n hX dX2_goOn_18 0 rfl 19 rfl ?_
      replace h := cl_elim h
      obtain ⟨x7, s6, hx7, h⟩ := h
      refine z_cV2i hX (b := r) (As := []) (c_X2_wayNow hx7) lk_X2_89 rfl g4 ds_X2_wayNow rfl (by decide) (by decide) (Nat.le_of_ble_eq_true rfl) dX2_goOn_19 rfl 22 rfl ?_
      replace h := cl_elim h
      obtain ⟨x9, s8, hx9, h⟩ := h
      refine z_cV2i hX (b := r) (As := [.int x7]) (c_X2_pass hx9) lk_X2_93 rfl g4 ds_X2_pass rfl (by decide) (by decide) (Nat.le_of_ble_eq_true rfl) dX2_goOn_22 rfl 25 rfl ?_
      refine z_iadd hX dX2_goOn_25 26 rfl ?_
      replace h := bd_elim h
      obtain ⟨x10, ex10, h⟩ := h
      refine z_nm ex10 ?_
      refine z_istore_n hX (lv2 := [(2, .int x10), (0, .ref (gL Γ (r))), (1, .int v1), (3, .int v3)]) dX2_goOn_26 (by decide) rfl 27 rfl ?_
      refine z_iinc hX (v := (v3 + (nI 1))) (lv2 := [(3, .int ((v3 + (nI 1)))), (2, .int x10), (0, .ref (gL Γ (r))), (1, .int v1)]) dX2_goOn_27 3 rfl rfl (by decide) rfl 30 rfl ?_
      refine z_goto hX 4 dX2_goOn_30 (by decide) ?_
      cases h
      exact z_sub [2, 3, 1, 0] rfl hk
set_option maxHeartbeats 4000000 in
set_option maxRecDepth 100000 in
theorem e_X2_goOn {X : Cx} {Γ : Gm} {r0 : Option Value × St} (hX : Amb X Γ cX2_goOn RX2 4 (some .int) 4) {r : Nat} {a1 : Int32} {s : St} {t : Int32 × St} (h : f_X2_goOn r a1 s = some t) (hk : (fun t : Int32 × St => (some (Value.int t.1), t.2) = r0) t) : Zw X Γ 4 r0 s 0 [(0, .ref (gL Γ (r))), (1, .int a1)] [] := by
  unfold f_X2_goOn at h
  refine z_iconst hX (v := (nI 0)) dX2_goOn_0 rfl 1 rfl ?_
  refine z_istore_n hX (lv2 := [(2, .int ((nI 0))), (0, .ref (gL Γ (r))), (1, .int a1)]) dX2_goOn_1 (by decide) rfl 2 rfl ?_
  refine z_iconst hX (v := (nI 0)) dX2_goOn_2 rfl 3 rfl ?_
  refine z_istore_n hX (lv2 := [(3, .int ((nI 0))), (2, .int ((nI 0))), (0, .ref (gL Γ (r))), (1, .int a1)]) dX2_goOn_3 (by decide) rfl 4 rfl ?_
  exact z_sub [2, 3, 1, 0] rfl (lp_ok (Z := fun q : Int32 × Int32 × St => Zw X Γ 4 r0 q.2.2 4 [(0, .ref (gL Γ (r))), (1, .int a1), (2, .int q.1), (3, .int q.2.1)] []) (fun q t h hk => e_X2_goOn_L4 hX h hk) Fu _ _ h hk)
theorem c_X2_goOn {lc : Launch} {Γ : Gm} {r : Nat} {a1 : Int32} {s s2 : St} {v : Int32} (h : f_X2_goOn r a1 s = some (v, s2)) : Ct lc Γ yX2_goOn cX2_goOn 4 (some .int) 4 [.ref (gL Γ (r)), .int a1] s (some (.int v), s2) := Ct.of (by decide +kernel) (Nat.le_of_ble_eq_true rfl) (fun X hl hX => e_X2_goOn hX h rfl)
end
