-- ===== PART A: goes FIRST, ahead of the names: the tables' words, and 'selects' of the private methods out of them =====
/-- a private method of a class that the tables say can be made, by its rows of tables_1 -/
def lw_okq (q : MethodName × Nat) : Prop := (q.1.cls ≠ "java/lang/invoke/MethodHandle" ∧ q.1.cls ≠ "java/lang/invoke/VarHandle") ∧ Cond.instantiable q.1.cls q.2 ∈ tables_1 ∧ Cond.privateMethod q.1 ∈ tables_1 ∧ Cond.instanceMethod q.1 ∈ tables_1
theorem lw_p0 : lw_okq (⟨"ClockZones", "forgetFindings", "()V"⟩, 6) := ⟨⟨by decide +kernel, by decide +kernel⟩, List.mem_of_getElem? (i := 17) (by decide +kernel), List.mem_of_getElem? (i := 226) (by decide +kernel), List.mem_of_getElem? (i := 227) (by decide +kernel)⟩
theorem lw_p1 : lw_okq (⟨"ClockZones$Net", "insert", "(LClockZones$Move;)V"⟩, 5) := ⟨⟨by decide +kernel, by decide +kernel⟩, List.mem_of_getElem? (i := 25) (by decide +kernel), List.mem_of_getElem? (i := 302) (by decide +kernel), List.mem_of_getElem? (i := 303) (by decide +kernel)⟩
theorem lw_p2 : lw_okq (⟨"ClockZones", "addTest", "(LClockZones$TestList;III)I"⟩, 6) := ⟨⟨by decide +kernel, by decide +kernel⟩, List.mem_of_getElem? (i := 17) (by decide +kernel), List.mem_of_getElem? (i := 331) (by decide +kernel), List.mem_of_getElem? (i := 332) (by decide +kernel)⟩
theorem lw_p3 : lw_okq (⟨"ClockZones$Search", "prepare", "(LClockZones$Net;)V"⟩, 6) := ⟨⟨by decide +kernel, by decide +kernel⟩, List.mem_of_getElem? (i := 77) (by decide +kernel), List.mem_of_getElem? (i := 385) (by decide +kernel), List.mem_of_getElem? (i := 386) (by decide +kernel)⟩
theorem lw_p4 : lw_okq (⟨"ClockZones$Search", "standAtStart", "()V"⟩, 6) := ⟨⟨by decide +kernel, by decide +kernel⟩, List.mem_of_getElem? (i := 77) (by decide +kernel), List.mem_of_getElem? (i := 401) (by decide +kernel), List.mem_of_getElem? (i := 402) (by decide +kernel)⟩
theorem lw_p5 : lw_okq (⟨"ClockZones$Search", "settles", "(LClockZones$Net;)Z"⟩, 6) := ⟨⟨by decide +kernel, by decide +kernel⟩, List.mem_of_getElem? (i := 77) (by decide +kernel), List.mem_of_getElem? (i := 413) (by decide +kernel), List.mem_of_getElem? (i := 414) (by decide +kernel)⟩
theorem lw_p6 : lw_okq (⟨"ClockZones$Zone", "close", "()V"⟩, 1) := ⟨⟨by decide +kernel, by decide +kernel⟩, List.mem_of_getElem? (i := 102) (by decide +kernel), List.mem_of_getElem? (i := 458) (by decide +kernel), List.mem_of_getElem? (i := 459) (by decide +kernel)⟩
theorem lw_p7 : lw_okq (⟨"ClockZones$Search", "goesBy", "(ILClockZones$Move;)Z"⟩, 6) := ⟨⟨by decide +kernel, by decide +kernel⟩, List.mem_of_getElem? (i := 77) (by decide +kernel), List.mem_of_getElem? (i := 469) (by decide +kernel), List.mem_of_getElem? (i := 470) (by decide +kernel)⟩
theorem lw_p8 : lw_okq (⟨"ClockZones$States", "isAt", "(I[I)Z"⟩, 3) := ⟨⟨by decide +kernel, by decide +kernel⟩, List.mem_of_getElem? (i := 83) (by decide +kernel), List.mem_of_getElem? (i := 506) (by decide +kernel), List.mem_of_getElem? (i := 507) (by decide +kernel)⟩
theorem lw_p9 : lw_okq (⟨"ClockZones$States", "takesIn", "(ILClockZones$Zone;)Z"⟩, 3) := ⟨⟨by decide +kernel, by decide +kernel⟩, List.mem_of_getElem? (i := 83) (by decide +kernel), List.mem_of_getElem? (i := 514) (by decide +kernel), List.mem_of_getElem? (i := 515) (by decide +kernel)⟩
theorem lw_p10 : lw_okq (⟨"ClockZones$Timetable", "visit", "(LClockZones$States;II)V"⟩, 7) := ⟨⟨by decide +kernel, by decide +kernel⟩, List.mem_of_getElem? (i := 168) (by decide +kernel), List.mem_of_getElem? (i := 587) (by decide +kernel), List.mem_of_getElem? (i := 588) (by decide +kernel)⟩
theorem lw_p11 : lw_okq (⟨"ClockZones$Timetable", "addGap", "(III)V"⟩, 7) := ⟨⟨by decide +kernel, by decide +kernel⟩, List.mem_of_getElem? (i := 168) (by decide +kernel), List.mem_of_getElem? (i := 592) (by decide +kernel), List.mem_of_getElem? (i := 593) (by decide +kernel)⟩
theorem lw_p12 : lw_okq (⟨"ClockZones$Timetable", "addLimits", "(LClockZones$Net;LClockZones$States;II)V"⟩, 7) := ⟨⟨by decide +kernel, by decide +kernel⟩, List.mem_of_getElem? (i := 168) (by decide +kernel), List.mem_of_getElem? (i := 596) (by decide +kernel), List.mem_of_getElem? (i := 597) (by decide +kernel)⟩
theorem lw_p13 : lw_okq (⟨"ClockZones$Timetable", "addTests", "(LClockZones$TestList;I)V"⟩, 7) := ⟨⟨by decide +kernel, by decide +kernel⟩, List.mem_of_getElem? (i := 168) (by decide +kernel), List.mem_of_getElem? (i := 601) (by decide +kernel), List.mem_of_getElem? (i := 602) (by decide +kernel)⟩
theorem lw_p14 : lw_okq (⟨"ClockZones$Timetable", "addStep", "(LClockZones$Move;I)V"⟩, 7) := ⟨⟨by decide +kernel, by decide +kernel⟩, List.mem_of_getElem? (i := 168) (by decide +kernel), List.mem_of_getElem? (i := 619) (by decide +kernel), List.mem_of_getElem? (i := 620) (by decide +kernel)⟩
theorem lw_p15 : lw_okq (⟨"ClockZones$Timetable", "settle", "()V"⟩, 7) := ⟨⟨by decide +kernel, by decide +kernel⟩, List.mem_of_getElem? (i := 168) (by decide +kernel), List.mem_of_getElem? (i := 624) (by decide +kernel), List.mem_of_getElem? (i := 625) (by decide +kernel)⟩
def lw_privs_1 : List (MethodName × Nat) := [(⟨"ClockZones", "forgetFindings", "()V"⟩, 6), (⟨"ClockZones$Net", "insert", "(LClockZones$Move;)V"⟩, 5), (⟨"ClockZones", "addTest", "(LClockZones$TestList;III)I"⟩, 6), (⟨"ClockZones$Search", "prepare", "(LClockZones$Net;)V"⟩, 6), (⟨"ClockZones$Search", "standAtStart", "()V"⟩, 6), (⟨"ClockZones$Search", "settles", "(LClockZones$Net;)Z"⟩, 6), (⟨"ClockZones$Zone", "close", "()V"⟩, 1), (⟨"ClockZones$Search", "goesBy", "(ILClockZones$Move;)Z"⟩, 6), (⟨"ClockZones$States", "isAt", "(I[I)Z"⟩, 3), (⟨"ClockZones$States", "takesIn", "(ILClockZones$Zone;)Z"⟩, 3), (⟨"ClockZones$Timetable", "visit", "(LClockZones$States;II)V"⟩, 7), (⟨"ClockZones$Timetable", "addGap", "(III)V"⟩, 7), (⟨"ClockZones$Timetable", "addLimits", "(LClockZones$Net;LClockZones$States;II)V"⟩, 7), (⟨"ClockZones$Timetable", "addTests", "(LClockZones$TestList;I)V"⟩, 7), (⟨"ClockZones$Timetable", "addStep", "(LClockZones$Move;I)V"⟩, 7), (⟨"ClockZones$Timetable", "settle", "()V"⟩, 7)]
theorem lw_r1 : ∀ q ∈ lw_privs_1, lw_okq q := List.forall_mem_cons.mpr ⟨lw_p0, List.forall_mem_cons.mpr ⟨lw_p1, List.forall_mem_cons.mpr ⟨lw_p2, List.forall_mem_cons.mpr ⟨lw_p3, List.forall_mem_cons.mpr ⟨lw_p4, List.forall_mem_cons.mpr ⟨lw_p5, List.forall_mem_cons.mpr ⟨lw_p6, List.forall_mem_cons.mpr ⟨lw_p7, List.forall_mem_cons.mpr ⟨lw_p8, List.forall_mem_cons.mpr ⟨lw_p9, List.forall_mem_cons.mpr ⟨lw_p10, List.forall_mem_cons.mpr ⟨lw_p11, List.forall_mem_cons.mpr ⟨lw_p12, List.forall_mem_cons.mpr ⟨lw_p13, List.forall_mem_cons.mpr ⟨lw_p14, List.forall_mem_cons.mpr ⟨lw_p15, fun _ h => absurd h List.not_mem_nil⟩⟩⟩⟩⟩⟩⟩⟩⟩⟩⟩⟩⟩⟩⟩⟩
theorem lw_p16 : lw_okq (⟨"ClockZones", "mixEdges", "(J)J"⟩, 6) := ⟨⟨by decide +kernel, by decide +kernel⟩, List.mem_of_getElem? (i := 17) (by decide +kernel), List.mem_of_getElem? (i := 724) (by decide +kernel), List.mem_of_getElem? (i := 725) (by decide +kernel)⟩
theorem lw_p17 : lw_okq (⟨"ClockZones", "mixLimits", "(J)J"⟩, 6) := ⟨⟨by decide +kernel, by decide +kernel⟩, List.mem_of_getElem? (i := 17) (by decide +kernel), List.mem_of_getElem? (i := 736) (by decide +kernel), List.mem_of_getElem? (i := 737) (by decide +kernel)⟩
theorem lw_p18 : lw_okq (⟨"ClockZones", "mixStates", "(J)J"⟩, 6) := ⟨⟨by decide +kernel, by decide +kernel⟩, List.mem_of_getElem? (i := 17) (by decide +kernel), List.mem_of_getElem? (i := 740) (by decide +kernel), List.mem_of_getElem? (i := 741) (by decide +kernel)⟩
theorem lw_p19 : lw_okq (⟨"ClockZones", "mixWalk", "(J)J"⟩, 6) := ⟨⟨by decide +kernel, by decide +kernel⟩, List.mem_of_getElem? (i := 17) (by decide +kernel), List.mem_of_getElem? (i := 746) (by decide +kernel), List.mem_of_getElem? (i := 747) (by decide +kernel)⟩
theorem lw_p20 : lw_okq (⟨"ClockZonesModel", "changed", "()V"⟩, 32) := ⟨⟨by decide +kernel, by decide +kernel⟩, List.mem_of_getElem? (i := 751) (by decide +kernel), List.mem_of_getElem? (i := 867) (by decide +kernel), List.mem_of_getElem? (i := 868) (by decide +kernel)⟩
theorem lw_p21 : lw_okq (⟨"ClockZonesModel", "isEdge", "(I)Z"⟩, 32) := ⟨⟨by decide +kernel, by decide +kernel⟩, List.mem_of_getElem? (i := 751) (by decide +kernel), List.mem_of_getElem? (i := 875) (by decide +kernel), List.mem_of_getElem? (i := 876) (by decide +kernel)⟩
theorem lw_p22 : lw_okq (⟨"ClockZonesModel", "keepLimits", "()Z"⟩, 32) := ⟨⟨by decide +kernel, by decide +kernel⟩, List.mem_of_getElem? (i := 751) (by decide +kernel), List.mem_of_getElem? (i := 894) (by decide +kernel), List.mem_of_getElem? (i := 895) (by decide +kernel)⟩
theorem lw_p23 : lw_okq (⟨"ClockZonesModel", "test", "(III)V"⟩, 32) := ⟨⟨by decide +kernel, by decide +kernel⟩, List.mem_of_getElem? (i := 751) (by decide +kernel), List.mem_of_getElem? (i := 898) (by decide +kernel), List.mem_of_getElem? (i := 899) (by decide +kernel)⟩
theorem lw_p24 : lw_okq (⟨"ClockZonesModel", "bind", "(III)V"⟩, 32) := ⟨⟨by decide +kernel, by decide +kernel⟩, List.mem_of_getElem? (i := 751) (by decide +kernel), List.mem_of_getElem? (i := 902) (by decide +kernel), List.mem_of_getElem? (i := 903) (by decide +kernel)⟩
theorem lw_p25 : lw_okq (⟨"ClockZonesModel", "close", "()Z"⟩, 32) := ⟨⟨by decide +kernel, by decide +kernel⟩, List.mem_of_getElem? (i := 751) (by decide +kernel), List.mem_of_getElem? (i := 906) (by decide +kernel), List.mem_of_getElem? (i := 907) (by decide +kernel)⟩
theorem lw_p26 : lw_okq (⟨"ClockZonesModel", "later", "()Z"⟩, 32) := ⟨⟨by decide +kernel, by decide +kernel⟩, List.mem_of_getElem? (i := 751) (by decide +kernel), List.mem_of_getElem? (i := 914) (by decide +kernel), List.mem_of_getElem? (i := 915) (by decide +kernel)⟩
theorem lw_p27 : lw_okq (⟨"ClockZonesModel", "widen", "()Z"⟩, 32) := ⟨⟨by decide +kernel, by decide +kernel⟩, List.mem_of_getElem? (i := 751) (by decide +kernel), List.mem_of_getElem? (i := 918) (by decide +kernel), List.mem_of_getElem? (i := 919) (by decide +kernel)⟩
theorem lw_p28 : lw_okq (⟨"ClockZonesModel", "greatestOf", "(I)I"⟩, 32) := ⟨⟨by decide +kernel, by decide +kernel⟩, List.mem_of_getElem? (i := 751) (by decide +kernel), List.mem_of_getElem? (i := 922) (by decide +kernel), List.mem_of_getElem? (i := 923) (by decide +kernel)⟩
theorem lw_p29 : lw_okq (⟨"ClockZonesModel", "meet", "(III)V"⟩, 32) := ⟨⟨by decide +kernel, by decide +kernel⟩, List.mem_of_getElem? (i := 751) (by decide +kernel), List.mem_of_getElem? (i := 926) (by decide +kernel), List.mem_of_getElem? (i := 927) (by decide +kernel)⟩
theorem lw_p30 : lw_okq (⟨"ClockZonesModel", "isMove", "(II)Z"⟩, 32) := ⟨⟨by decide +kernel, by decide +kernel⟩, List.mem_of_getElem? (i := 751) (by decide +kernel), List.mem_of_getElem? (i := 930) (by decide +kernel), List.mem_of_getElem? (i := 931) (by decide +kernel)⟩
theorem lw_p31 : lw_okq (⟨"ClockZonesModel", "follows", "(III)Z"⟩, 32) := ⟨⟨by decide +kernel, by decide +kernel⟩, List.mem_of_getElem? (i := 751) (by decide +kernel), List.mem_of_getElem? (i := 934) (by decide +kernel), List.mem_of_getElem? (i := 935) (by decide +kernel)⟩
def lw_privs_2 : List (MethodName × Nat) := [(⟨"ClockZones", "mixEdges", "(J)J"⟩, 6), (⟨"ClockZones", "mixLimits", "(J)J"⟩, 6), (⟨"ClockZones", "mixStates", "(J)J"⟩, 6), (⟨"ClockZones", "mixWalk", "(J)J"⟩, 6), (⟨"ClockZonesModel", "changed", "()V"⟩, 32), (⟨"ClockZonesModel", "isEdge", "(I)Z"⟩, 32), (⟨"ClockZonesModel", "keepLimits", "()Z"⟩, 32), (⟨"ClockZonesModel", "test", "(III)V"⟩, 32), (⟨"ClockZonesModel", "bind", "(III)V"⟩, 32), (⟨"ClockZonesModel", "close", "()Z"⟩, 32), (⟨"ClockZonesModel", "later", "()Z"⟩, 32), (⟨"ClockZonesModel", "widen", "()Z"⟩, 32), (⟨"ClockZonesModel", "greatestOf", "(I)I"⟩, 32), (⟨"ClockZonesModel", "meet", "(III)V"⟩, 32), (⟨"ClockZonesModel", "isMove", "(II)Z"⟩, 32), (⟨"ClockZonesModel", "follows", "(III)Z"⟩, 32)]
theorem lw_r2 : ∀ q ∈ lw_privs_2, lw_okq q := List.forall_mem_cons.mpr ⟨lw_p16, List.forall_mem_cons.mpr ⟨lw_p17, List.forall_mem_cons.mpr ⟨lw_p18, List.forall_mem_cons.mpr ⟨lw_p19, List.forall_mem_cons.mpr ⟨lw_p20, List.forall_mem_cons.mpr ⟨lw_p21, List.forall_mem_cons.mpr ⟨lw_p22, List.forall_mem_cons.mpr ⟨lw_p23, List.forall_mem_cons.mpr ⟨lw_p24, List.forall_mem_cons.mpr ⟨lw_p25, List.forall_mem_cons.mpr ⟨lw_p26, List.forall_mem_cons.mpr ⟨lw_p27, List.forall_mem_cons.mpr ⟨lw_p28, List.forall_mem_cons.mpr ⟨lw_p29, List.forall_mem_cons.mpr ⟨lw_p30, List.forall_mem_cons.mpr ⟨lw_p31, fun _ h => absurd h List.not_mem_nil⟩⟩⟩⟩⟩⟩⟩⟩⟩⟩⟩⟩⟩⟩⟩⟩
theorem lw_p32 : lw_okq (⟨"ClockZonesModel", "keepGuards", "(I)Z"⟩, 32) := ⟨⟨by decide +kernel, by decide +kernel⟩, List.mem_of_getElem? (i := 751) (by decide +kernel), List.mem_of_getElem? (i := 938) (by decide +kernel), List.mem_of_getElem? (i := 939) (by decide +kernel)⟩
theorem lw_p33 : lw_okq (⟨"ClockZonesModel", "set", "(I)V"⟩, 32) := ⟨⟨by decide +kernel, by decide +kernel⟩, List.mem_of_getElem? (i := 751) (by decide +kernel), List.mem_of_getElem? (i := 942) (by decide +kernel), List.mem_of_getElem? (i := 943) (by decide +kernel)⟩
theorem lw_p34 : lw_okq (⟨"ClockZonesModel", "isMet", "()Z"⟩, 32) := ⟨⟨by decide +kernel, by decide +kernel⟩, List.mem_of_getElem? (i := 751) (by decide +kernel), List.mem_of_getElem? (i := 946) (by decide +kernel), List.mem_of_getElem? (i := 947) (by decide +kernel)⟩
theorem lw_p35 : lw_okq (⟨"ClockZonesModel", "isState", "(I)Z"⟩, 32) := ⟨⟨by decide +kernel, by decide +kernel⟩, List.mem_of_getElem? (i := 751) (by decide +kernel), List.mem_of_getElem? (i := 954) (by decide +kernel), List.mem_of_getElem? (i := 955) (by decide +kernel)⟩
theorem lw_p36 : lw_okq (⟨"ClockZonesModel", "tells", "(II)I"⟩, 32) := ⟨⟨by decide +kernel, by decide +kernel⟩, List.mem_of_getElem? (i := 751) (by decide +kernel), List.mem_of_getElem? (i := 958) (by decide +kernel), List.mem_of_getElem? (i := 959) (by decide +kernel)⟩
theorem lw_p37 : lw_okq (⟨"ClockZonesModel", "holds", "(I)Z"⟩, 32) := ⟨⟨by decide +kernel, by decide +kernel⟩, List.mem_of_getElem? (i := 751) (by decide +kernel), List.mem_of_getElem? (i := 977) (by decide +kernel), List.mem_of_getElem? (i := 978) (by decide +kernel)⟩
theorem lw_p38 : lw_okq (⟨"ClockZonesModel", "layOut", "(I)I"⟩, 32) := ⟨⟨by decide +kernel, by decide +kernel⟩, List.mem_of_getElem? (i := 751) (by decide +kernel), List.mem_of_getElem? (i := 985) (by decide +kernel), List.mem_of_getElem? (i := 986) (by decide +kernel)⟩
theorem lw_p39 : lw_okq (⟨"ClockZonesModel", "timeAll", "(I)V"⟩, 32) := ⟨⟨by decide +kernel, by decide +kernel⟩, List.mem_of_getElem? (i := 751) (by decide +kernel), List.mem_of_getElem? (i := 993) (by decide +kernel), List.mem_of_getElem? (i := 994) (by decide +kernel)⟩
theorem lw_p40 : lw_okq (⟨"ClockZonesModel", "behind", "(III)V"⟩, 32) := ⟨⟨by decide +kernel, by decide +kernel⟩, List.mem_of_getElem? (i := 751) (by decide +kernel), List.mem_of_getElem? (i := 997) (by decide +kernel), List.mem_of_getElem? (i := 998) (by decide +kernel)⟩
theorem lw_p41 : lw_okq (⟨"ClockZonesModel", "askGuards", "(II)V"⟩, 32) := ⟨⟨by decide +kernel, by decide +kernel⟩, List.mem_of_getElem? (i := 751) (by decide +kernel), List.mem_of_getElem? (i := 1001) (by decide +kernel), List.mem_of_getElem? (i := 1002) (by decide +kernel)⟩
theorem lw_p42 : lw_okq (⟨"ClockZonesModel", "setAt", "(II)I"⟩, 32) := ⟨⟨by decide +kernel, by decide +kernel⟩, List.mem_of_getElem? (i := 751) (by decide +kernel), List.mem_of_getElem? (i := 1005) (by decide +kernel), List.mem_of_getElem? (i := 1006) (by decide +kernel)⟩
theorem lw_p43 : lw_okq (⟨"ClockZonesModel", "ask", "(IIII)V"⟩, 32) := ⟨⟨by decide +kernel, by decide +kernel⟩, List.mem_of_getElem? (i := 751) (by decide +kernel), List.mem_of_getElem? (i := 1009) (by decide +kernel), List.mem_of_getElem? (i := 1010) (by decide +kernel)⟩
theorem lw_p44 : lw_okq (⟨"ClockZonesModel", "askLimits", "(III)V"⟩, 32) := ⟨⟨by decide +kernel, by decide +kernel⟩, List.mem_of_getElem? (i := 751) (by decide +kernel), List.mem_of_getElem? (i := 1013) (by decide +kernel), List.mem_of_getElem? (i := 1014) (by decide +kernel)⟩
theorem lw_p45 : lw_okq (⟨"ClockZonesModel", "areKept", "()Z"⟩, 32) := ⟨⟨by decide +kernel, by decide +kernel⟩, List.mem_of_getElem? (i := 751) (by decide +kernel), List.mem_of_getElem? (i := 1025) (by decide +kernel), List.mem_of_getElem? (i := 1026) (by decide +kernel)⟩
theorem lw_p46 : lw_okq (⟨"ClockZonesModel", "become", "()V"⟩, 32) := ⟨⟨by decide +kernel, by decide +kernel⟩, List.mem_of_getElem? (i := 751) (by decide +kernel), List.mem_of_getElem? (i := 1032) (by decide +kernel), List.mem_of_getElem? (i := 1033) (by decide +kernel)⟩
theorem lw_p47 : lw_okq (⟨"ClockZonesModel", "look", "()V"⟩, 32) := ⟨⟨by decide +kernel, by decide +kernel⟩, List.mem_of_getElem? (i := 751) (by decide +kernel), List.mem_of_getElem? (i := 1041) (by decide +kernel), List.mem_of_getElem? (i := 1042) (by decide +kernel)⟩
def lw_privs_3 : List (MethodName × Nat) := [(⟨"ClockZonesModel", "keepGuards", "(I)Z"⟩, 32), (⟨"ClockZonesModel", "set", "(I)V"⟩, 32), (⟨"ClockZonesModel", "isMet", "()Z"⟩, 32), (⟨"ClockZonesModel", "isState", "(I)Z"⟩, 32), (⟨"ClockZonesModel", "tells", "(II)I"⟩, 32), (⟨"ClockZonesModel", "holds", "(I)Z"⟩, 32), (⟨"ClockZonesModel", "layOut", "(I)I"⟩, 32), (⟨"ClockZonesModel", "timeAll", "(I)V"⟩, 32), (⟨"ClockZonesModel", "behind", "(III)V"⟩, 32), (⟨"ClockZonesModel", "askGuards", "(II)V"⟩, 32), (⟨"ClockZonesModel", "setAt", "(II)I"⟩, 32), (⟨"ClockZonesModel", "ask", "(IIII)V"⟩, 32), (⟨"ClockZonesModel", "askLimits", "(III)V"⟩, 32), (⟨"ClockZonesModel", "areKept", "()Z"⟩, 32), (⟨"ClockZonesModel", "become", "()V"⟩, 32), (⟨"ClockZonesModel", "look", "()V"⟩, 32)]
theorem lw_r3 : ∀ q ∈ lw_privs_3, lw_okq q := List.forall_mem_cons.mpr ⟨lw_p32, List.forall_mem_cons.mpr ⟨lw_p33, List.forall_mem_cons.mpr ⟨lw_p34, List.forall_mem_cons.mpr ⟨lw_p35, List.forall_mem_cons.mpr ⟨lw_p36, List.forall_mem_cons.mpr ⟨lw_p37, List.forall_mem_cons.mpr ⟨lw_p38, List.forall_mem_cons.mpr ⟨lw_p39, List.forall_mem_cons.mpr ⟨lw_p40, List.forall_mem_cons.mpr ⟨lw_p41, List.forall_mem_cons.mpr ⟨lw_p42, List.forall_mem_cons.mpr ⟨lw_p43, List.forall_mem_cons.mpr ⟨lw_p44, List.forall_mem_cons.mpr ⟨lw_p45, List.forall_mem_cons.mpr ⟨lw_p46, List.forall_mem_cons.mpr ⟨lw_p47, fun _ h => absurd h List.not_mem_nil⟩⟩⟩⟩⟩⟩⟩⟩⟩⟩⟩⟩⟩⟩⟩⟩
theorem lw_p48 : lw_okq (⟨"ClockZonesModel", "isOpen", "(I)Z"⟩, 32) := ⟨⟨by decide +kernel, by decide +kernel⟩, List.mem_of_getElem? (i := 751) (by decide +kernel), List.mem_of_getElem? (i := 1049) (by decide +kernel), List.mem_of_getElem? (i := 1050) (by decide +kernel)⟩
theorem lw_p49 : lw_okq (⟨"ClockZonesModel", "go", "(I)V"⟩, 32) := ⟨⟨by decide +kernel, by decide +kernel⟩, List.mem_of_getElem? (i := 751) (by decide +kernel), List.mem_of_getElem? (i := 1053) (by decide +kernel), List.mem_of_getElem? (i := 1054) (by decide +kernel)⟩
theorem lw_p50 : lw_okq (⟨"ClockZonesModel", "moveCount", "()I"⟩, 32) := ⟨⟨by decide +kernel, by decide +kernel⟩, List.mem_of_getElem? (i := 751) (by decide +kernel), List.mem_of_getElem? (i := 1073) (by decide +kernel), List.mem_of_getElem? (i := 1074) (by decide +kernel)⟩
theorem lw_p51 : lw_okq (⟨"ClockZonesModel", "mix", "(J)V"⟩, 32) := ⟨⟨by decide +kernel, by decide +kernel⟩, List.mem_of_getElem? (i := 751) (by decide +kernel), List.mem_of_getElem? (i := 1083) (by decide +kernel), List.mem_of_getElem? (i := 1084) (by decide +kernel)⟩
def lw_privs_4 : List (MethodName × Nat) := [(⟨"ClockZonesModel", "isOpen", "(I)Z"⟩, 32), (⟨"ClockZonesModel", "go", "(I)V"⟩, 32), (⟨"ClockZonesModel", "moveCount", "()I"⟩, 32), (⟨"ClockZonesModel", "mix", "(J)V"⟩, 32)]
theorem lw_r4 : ∀ q ∈ lw_privs_4, lw_okq q := List.forall_mem_cons.mpr ⟨lw_p48, List.forall_mem_cons.mpr ⟨lw_p49, List.forall_mem_cons.mpr ⟨lw_p50, List.forall_mem_cons.mpr ⟨lw_p51, fun _ h => absurd h List.not_mem_nil⟩⟩⟩⟩
def lw_privs : List (MethodName × Nat) := lw_privs_1 ++ (lw_privs_2 ++ (lw_privs_3 ++ (lw_privs_4)))
def lw_tbl : List Cond := k2_sels lw_privs ++ tables_1
theorem lw_privs_ok : ∀ q ∈ lw_privs, lw_okq q := by
  show ∀ q ∈ lw_privs_1 ++ (lw_privs_2 ++ (lw_privs_3 ++ (lw_privs_4))), lw_okq q
  exact List.forall_mem_append.mpr ⟨lw_r1, List.forall_mem_append.mpr ⟨lw_r2, List.forall_mem_append.mpr ⟨lw_r3, lw_r4⟩⟩⟩
def RX0 : String := "ClockZones$Edge"
def TX0 : u_T := fun k => match k with
  | 0 => ("ClockZones$Edge", "machine", "I", true)
  | 1 => ("ClockZones$Edge", "from", "I", true)
  | 2 => ("ClockZones$Edge", "to", "I", true)
  | 3 => ("ClockZones$Edge", "channel", "I", true)
  | 4 => ("ClockZones$Edge", "resets", "I", true)
  | _ => ("ClockZones$Edge", "guards", "LClockZones$TestList;", true)
def tyX0 : Nat → FieldType := fun k => match k with
  | 0 => .int
  | 1 => .int
  | 2 => .int
  | 3 => .int
  | 4 => .int
  | _ => .object "ClockZones$TestList"
abbrev wsX00 : List Cond := u_ws RX0 TX0 6
theorem nmX0 : ∀ a, a < 6 → ∀ b, b < 6 → a ≠ b → (TX0 a).2.1 ≠ (TX0 b).2.1 := by decide +kernel
theorem tyX0_ok : ∀ k, k < 6 → parseFieldDescriptor (TX0 k).2.2.1 = some (tyX0 k) := by decide +kernel
abbrev cX0_init : ByteArray := prog_2_method_1_code
def yX0_init : MethodName := ⟨RX0, "<init>", "(IIIII)V"⟩
abbrev cX0_isAnsweredBy : ByteArray := prog_2_method_2_code
def yX0_isAnsweredBy : MethodName := ⟨RX0, "isAnsweredBy", "(LClockZones$Edge;)Z"⟩
def RX1 : String := "ClockZones$Move"
def TX1 : u_T := fun k => match k with
  | 0 => ("ClockZones$Move", "first", "I", true)
  | 1 => ("ClockZones$Move", "second", "I", true)
  | 2 => ("ClockZones$Move", "call", "LClockZones$Edge;", true)
  | 3 => ("ClockZones$Move", "answer", "LClockZones$Edge;", true)
  | _ => ("ClockZones$Move", "resets", "I", true)
def tyX1 : Nat → FieldType := fun k => match k with
  | 0 => .int
  | 1 => .int
  | 2 => .object "ClockZones$Edge"
  | 3 => .object "ClockZones$Edge"
  | _ => .int
abbrev wsX10 : List Cond := u_ws RX1 TX1 5
theorem nmX1 : ∀ a, a < 5 → ∀ b, b < 5 → a ≠ b → (TX1 a).2.1 ≠ (TX1 b).2.1 := by decide +kernel
theorem tyX1_ok : ∀ k, k < 5 → parseFieldDescriptor (TX1 k).2.2.1 = some (tyX1 k) := by decide +kernel
abbrev cX1_init : ByteArray := prog_3_method_1_code
def yX1_init : MethodName := ⟨RX1, "<init>", "(IILClockZones$Edge;LClockZones$Edge;)V"⟩
abbrev cX1_comesAfter : ByteArray := prog_3_method_2_code
def yX1_comesAfter : MethodName := ⟨RX1, "comesAfter", "(LClockZones$Move;)Z"⟩
abbrev cX1_startsAt : ByteArray := prog_3_method_3_code
def yX1_startsAt : MethodName := ⟨RX1, "startsAt", "([I)Z"⟩
abbrev cX1_carry : ByteArray := prog_3_method_4_code
def yX1_carry : MethodName := ⟨RX1, "carry", "([I)V"⟩
abbrev cX1_sets : ByteArray := prog_3_method_5_code
def yX1_sets : MethodName := ⟨RX1, "sets", "(I)Z"⟩
abbrev cX1_guardsAllow : ByteArray := prog_3_method_6_code
def yX1_guardsAllow : MethodName := ⟨RX1, "guardsAllow", "([I)Z"⟩
abbrev cX1_guardsNarrow : ByteArray := prog_3_method_7_code
def yX1_guardsNarrow : MethodName := ⟨RX1, "guardsNarrow", "(LClockZones$Zone;)Z"⟩
def RX2 : String := "ClockZones$Net"
def TX2 : u_T := fun k => match k with
  | 0 => ("ClockZones$Net", "edges", "[LClockZones$Edge;", true)
  | 1 => ("ClockZones$Net", "edgeCount", "I", false)
  | 2 => ("ClockZones$Net", "moves", "[LClockZones$Move;", true)
  | 3 => ("ClockZones$Net", "moveCount", "I", false)
  | _ => ("ClockZones$Net", "limits", "[LClockZones$TestList;", true)
def tyX2 : Nat → FieldType := fun k => match k with
  | 0 => .array (.object "ClockZones$Edge")
  | 1 => .int
  | 2 => .array (.object "ClockZones$Move")
  | 3 => .int
  | _ => .array (.object "ClockZones$TestList")
abbrev wsX20 : List Cond := u_ws RX2 TX2 5
theorem nmX2 : ∀ a, a < 5 → ∀ b, b < 5 → a ≠ b → (TX2 a).2.1 ≠ (TX2 b).2.1 := by decide +kernel
theorem tyX2_ok : ∀ k, k < 5 → parseFieldDescriptor (TX2 k).2.2.1 = some (tyX2 k) := by decide +kernel
abbrev cX2_init : ByteArray := prog_4_method_1_code
def yX2_init : MethodName := ⟨RX2, "<init>", "()V"⟩
abbrev cX2_isEdge : ByteArray := prog_4_method_2_code
def yX2_isEdge : MethodName := ⟨RX2, "isEdge", "(I)Z"⟩
abbrev cX2_limitsOf : ByteArray := prog_4_method_3_code
def yX2_limitsOf : MethodName := ⟨RX2, "limitsOf", "(II)LClockZones$TestList;"⟩
abbrev cX2_addEdge : ByteArray := prog_4_method_4_code
def yX2_addEdge : MethodName := ⟨RX2, "addEdge", "(LClockZones$Edge;)I"⟩
abbrev cX2_insert : ByteArray := prog_4_method_5_code
def yX2_insert : MethodName := ⟨RX2, "insert", "(LClockZones$Move;)V"⟩
abbrev cX2_find : ByteArray := prog_4_method_6_code
def yX2_find : MethodName := ⟨RX2, "find", "(II)LClockZones$Move;"⟩
abbrev cX2_clear : ByteArray := prog_4_method_7_code
def yX2_clear : MethodName := ⟨RX2, "clear", "()V"⟩
abbrev cX2_limitsAllow : ByteArray := prog_4_method_8_code
def yX2_limitsAllow : MethodName := ⟨RX2, "limitsAllow", "([I[I)Z"⟩
abbrev cX2_limitsNarrow : ByteArray := prog_4_method_9_code
def yX2_limitsNarrow : MethodName := ⟨RX2, "limitsNarrow", "([ILClockZones$Zone;)Z"⟩
abbrev cX2_greatestOf : ByteArray := prog_4_method_10_code
def yX2_greatestOf : MethodName := ⟨RX2, "greatestOf", "(I)I"⟩
abbrev cX2_guardCount : ByteArray := prog_4_method_11_code
def yX2_guardCount : MethodName := ⟨RX2, "guardCount", "()I"⟩
abbrev cX2_limitCount : ByteArray := prog_4_method_12_code
def yX2_limitCount : MethodName := ⟨RX2, "limitCount", "()I"⟩
def RX3 : String := "ClockZones$Search"
def TX3 : u_T := fun k => match k with
  | 0 => ("ClockZones$Search", "states", "LClockZones$States;", true)
  | 1 => ("ClockZones$Search", "isNeeded", "Z", false)
  | 2 => ("ClockZones$Search", "timesDone", "I", false)
  | 3 => ("ClockZones$Search", "facts", "[I", true)
  | 4 => ("ClockZones$Search", "zone", "LClockZones$Zone;", true)
  | _ => ("ClockZones$Search", "most", "[I", true)
def tyX3 : Nat → FieldType := fun k => match k with
  | 0 => .object "ClockZones$States"
  | 1 => .boolean
  | 2 => .int
  | 3 => .array .int
  | 4 => .object "ClockZones$Zone"
  | _ => .array .int
abbrev wsX30 : List Cond := u_ws RX3 TX3 6
theorem nmX3 : ∀ a, a < 6 → ∀ b, b < 6 → a ≠ b → (TX3 a).2.1 ≠ (TX3 b).2.1 := by decide +kernel
theorem tyX3_ok : ∀ k, k < 6 → parseFieldDescriptor (TX3 k).2.2.1 = some (tyX3 k) := by decide +kernel
abbrev cX3_init : ByteArray := prog_5_method_1_code
def yX3_init : MethodName := ⟨RX3, "<init>", "()V"⟩
abbrev cX3_meetAll : ByteArray := prog_5_method_2_code
def yX3_meetAll : MethodName := ⟨RX3, "meetAll", "(LClockZones$Net;I)I"⟩
abbrev cX3_prepare : ByteArray := prog_5_method_3_code
def yX3_prepare : MethodName := ⟨RX3, "prepare", "(LClockZones$Net;)V"⟩
abbrev cX3_standAtStart : ByteArray := prog_5_method_4_code
def yX3_standAtStart : MethodName := ⟨RX3, "standAtStart", "()V"⟩
abbrev cX3_goesBy : ByteArray := prog_5_method_5_code
def yX3_goesBy : MethodName := ⟨RX3, "goesBy", "(ILClockZones$Move;)Z"⟩
abbrev cX3_settles : ByteArray := prog_5_method_6_code
def yX3_settles : MethodName := ⟨RX3, "settles", "(LClockZones$Net;)Z"⟩
def RX4 : String := "ClockZones$States"
def TX4 : u_T := fun k => match k with
  | 0 => ("ClockZones$States", "size", "I", false)
  | 1 => ("ClockZones$States", "facts", "[I", true)
  | _ => ("ClockZones$States", "bounds", "[I", true)
def tyX4 : Nat → FieldType := fun k => match k with
  | 0 => .int
  | 1 => .array .int
  | _ => .array .int
abbrev wsX40 : List Cond := u_ws RX4 TX4 3
theorem nmX4 : ∀ a, a < 3 → ∀ b, b < 3 → a ≠ b → (TX4 a).2.1 ≠ (TX4 b).2.1 := by decide +kernel
theorem tyX4_ok : ∀ k, k < 3 → parseFieldDescriptor (TX4 k).2.2.1 = some (tyX4 k) := by decide +kernel
abbrev cX4_init : ByteArray := prog_6_method_1_code
def yX4_init : MethodName := ⟨RX4, "<init>", "()V"⟩
abbrev cX4_isMet : ByteArray := prog_6_method_2_code
def yX4_isMet : MethodName := ⟨RX4, "isMet", "(I)Z"⟩
abbrev cX4_isStep : ByteArray := prog_6_method_3_code
def yX4_isStep : MethodName := ⟨RX4, "isStep", "(II)Z"⟩
abbrev cX4_fact : ByteArray := prog_6_method_4_code
def yX4_fact : MethodName := ⟨RX4, "fact", "(II)I"⟩
abbrev cX4_boundOf : ByteArray := prog_6_method_5_code
def yX4_boundOf : MethodName := ⟨RX4, "boundOf", "(III)I"⟩
abbrev cX4_add : ByteArray := prog_6_method_6_code
def yX4_add : MethodName := ⟨RX4, "add", "([ILClockZones$Zone;)V"⟩
abbrev cX4_copyFacts : ByteArray := prog_6_method_7_code
def yX4_copyFacts : MethodName := ⟨RX4, "copyFacts", "(I[I)V"⟩
abbrev cX4_copyZone : ByteArray := prog_6_method_8_code
def yX4_copyZone : MethodName := ⟨RX4, "copyZone", "(ILClockZones$Zone;)V"⟩
abbrev cX4_onWay : ByteArray := prog_6_method_9_code
def yX4_onWay : MethodName := ⟨RX4, "onWay", "(II)I"⟩
abbrev cX4_isAt : ByteArray := prog_6_method_10_code
def yX4_isAt : MethodName := ⟨RX4, "isAt", "(I[I)Z"⟩
abbrev cX4_firstAt : ByteArray := prog_6_method_11_code
def yX4_firstAt : MethodName := ⟨RX4, "firstAt", "([I)I"⟩
abbrev cX4_firstHolding : ByteArray := prog_6_method_12_code
def yX4_firstHolding : MethodName := ⟨RX4, "firstHolding", "([I[I)I"⟩
abbrev cX4_cover : ByteArray := prog_6_method_13_code
def yX4_cover : MethodName := ⟨RX4, "cover", "([ILClockZones$Zone;)Z"⟩
abbrev cX4_takesIn : ByteArray := prog_6_method_14_code
def yX4_takesIn : MethodName := ⟨RX4, "takesIn", "(ILClockZones$Zone;)Z"⟩
abbrev cX4_holds : ByteArray := prog_6_method_15_code
def yX4_holds : MethodName := ⟨RX4, "holds", "(I[I)Z"⟩
def RX5 : String := "ClockZones$Test"
def TX5 : u_T := fun k => match k with
  | 0 => ("ClockZones$Test", "clock", "I", true)
  | 1 => ("ClockZones$Test", "sort", "I", true)
  | _ => ("ClockZones$Test", "number", "I", true)
def tyX5 : Nat → FieldType := fun k => match k with
  | 0 => .int
  | 1 => .int
  | _ => .int
abbrev wsX50 : List Cond := u_ws RX5 TX5 3
theorem nmX5 : ∀ a, a < 3 → ∀ b, b < 3 → a ≠ b → (TX5 a).2.1 ≠ (TX5 b).2.1 := by decide +kernel
theorem tyX5_ok : ∀ k, k < 3 → parseFieldDescriptor (TX5 k).2.2.1 = some (tyX5 k) := by decide +kernel
abbrev cX5_init : ByteArray := prog_7_method_1_code
def yX5_init : MethodName := ⟨RX5, "<init>", "(III)V"⟩
abbrev cX5_isCeiling : ByteArray := prog_7_method_2_code
def yX5_isCeiling : MethodName := ⟨RX5, "isCeiling", "()Z"⟩
abbrev cX5_isFloor : ByteArray := prog_7_method_3_code
def yX5_isFloor : MethodName := ⟨RX5, "isFloor", "()Z"⟩
abbrev cX5_ceiling : ByteArray := prog_7_method_4_code
def yX5_ceiling : MethodName := ⟨RX5, "ceiling", "()I"⟩
abbrev cX5_floor : ByteArray := prog_7_method_5_code
def yX5_floor : MethodName := ⟨RX5, "floor", "()I"⟩
abbrev cX5_mostParts : ByteArray := prog_7_method_6_code
def yX5_mostParts : MethodName := ⟨RX5, "mostParts", "()I"⟩
abbrev cX5_leastParts : ByteArray := prog_7_method_7_code
def yX5_leastParts : MethodName := ⟨RX5, "leastParts", "()I"⟩
abbrev cX5_allows : ByteArray := prog_7_method_8_code
def yX5_allows : MethodName := ⟨RX5, "allows", "(I)Z"⟩
def RX6 : String := "ClockZones$TestList"
def TX6 : u_T := fun k => match k with
  | 0 => ("ClockZones$TestList", "tests", "[LClockZones$Test;", true)
  | _ => ("ClockZones$TestList", "size", "I", false)
def tyX6 : Nat → FieldType := fun k => match k with
  | 0 => .array (.object "ClockZones$Test")
  | _ => .int
abbrev wsX60 : List Cond := u_ws RX6 TX6 2
theorem nmX6 : ∀ a, a < 2 → ∀ b, b < 2 → a ≠ b → (TX6 a).2.1 ≠ (TX6 b).2.1 := by decide +kernel
theorem tyX6_ok : ∀ k, k < 2 → parseFieldDescriptor (TX6 k).2.2.1 = some (tyX6 k) := by decide +kernel
abbrev cX6_init : ByteArray := prog_8_method_1_code
def yX6_init : MethodName := ⟨RX6, "<init>", "()V"⟩
abbrev cX6_add : ByteArray := prog_8_method_2_code
def yX6_add : MethodName := ⟨RX6, "add", "(LClockZones$Test;)V"⟩
abbrev cX6_allow : ByteArray := prog_8_method_3_code
def yX6_allow : MethodName := ⟨RX6, "allow", "([I)Z"⟩
abbrev cX6_narrow : ByteArray := prog_8_method_4_code
def yX6_narrow : MethodName := ⟨RX6, "narrow", "(LClockZones$Zone;)Z"⟩
abbrev cX6_greatestNumber : ByteArray := prog_8_method_5_code
def yX6_greatestNumber : MethodName := ⟨RX6, "greatestNumber", "(I)I"⟩
def RX7 : String := "ClockZones$Timetable"
def TX7 : u_T := fun k => match k with
  | 0 => ("ClockZones$Timetable", "earliest", "[I", true)
  | 1 => ("ClockZones$Timetable", "visited", "[I", true)
  | 2 => ("ClockZones$Timetable", "lastSet", "[I", true)
  | 3 => ("ClockZones$Timetable", "gapFrom", "[I", true)
  | 4 => ("ClockZones$Timetable", "gapTo", "[I", true)
  | 5 => ("ClockZones$Timetable", "gapLeast", "[I", true)
  | _ => ("ClockZones$Timetable", "gapCount", "I", false)
def tyX7 : Nat → FieldType := fun k => match k with
  | 0 => .array .int
  | 1 => .array .int
  | 2 => .array .int
  | 3 => .array .int
  | 4 => .array .int
  | 5 => .array .int
  | _ => .int
abbrev wsX70 : List Cond := u_ws RX7 TX7 7
theorem nmX7 : ∀ a, a < 7 → ∀ b, b < 7 → a ≠ b → (TX7 a).2.1 ≠ (TX7 b).2.1 := by decide +kernel
theorem tyX7_ok : ∀ k, k < 7 → parseFieldDescriptor (TX7 k).2.2.1 = some (tyX7 k) := by decide +kernel
abbrev cX7_init : ByteArray := prog_9_method_1_code
def yX7_init : MethodName := ⟨RX7, "<init>", "()V"⟩
abbrev cX7_fill : ByteArray := prog_9_method_2_code
def yX7_fill : MethodName := ⟨RX7, "fill", "(LClockZones$Net;LClockZones$States;I)V"⟩
abbrev cX7_visit : ByteArray := prog_9_method_3_code
def yX7_visit : MethodName := ⟨RX7, "visit", "(LClockZones$States;II)V"⟩
abbrev cX7_addStep : ByteArray := prog_9_method_4_code
def yX7_addStep : MethodName := ⟨RX7, "addStep", "(LClockZones$Move;I)V"⟩
abbrev cX7_addLimits : ByteArray := prog_9_method_5_code
def yX7_addLimits : MethodName := ⟨RX7, "addLimits", "(LClockZones$Net;LClockZones$States;II)V"⟩
abbrev cX7_addTests : ByteArray := prog_9_method_6_code
def yX7_addTests : MethodName := ⟨RX7, "addTests", "(LClockZones$TestList;I)V"⟩
abbrev cX7_addGap : ByteArray := prog_9_method_7_code
def yX7_addGap : MethodName := ⟨RX7, "addGap", "(III)V"⟩
abbrev cX7_settle : ByteArray := prog_9_method_8_code
def yX7_settle : MethodName := ⟨RX7, "settle", "()V"⟩
def RX8 : String := "ClockZones$Walk"
def TX8 : u_T := fun k => match k with
  | 0 => ("ClockZones$Walk", "isGoing", "Z", false)
  | 1 => ("ClockZones$Walk", "places", "[I", true)
  | 2 => ("ClockZones$Walk", "amounts", "[I", true)
  | 3 => ("ClockZones$Walk", "allTime", "I", false)
  | 4 => ("ClockZones$Walk", "stepCount", "I", false)
  | 5 => ("ClockZones$Walk", "nextPlaces", "[I", true)
  | _ => ("ClockZones$Walk", "nextAmounts", "[I", true)
def tyX8 : Nat → FieldType := fun k => match k with
  | 0 => .boolean
  | 1 => .array .int
  | 2 => .array .int
  | 3 => .int
  | 4 => .int
  | 5 => .array .int
  | _ => .array .int
abbrev wsX80 : List Cond := u_ws RX8 TX8 7
theorem nmX8 : ∀ a, a < 7 → ∀ b, b < 7 → a ≠ b → (TX8 a).2.1 ≠ (TX8 b).2.1 := by decide +kernel
theorem tyX8_ok : ∀ k, k < 7 → parseFieldDescriptor (TX8 k).2.2.1 = some (tyX8 k) := by decide +kernel
abbrev cX8_init : ByteArray := prog_10_method_1_code
def yX8_init : MethodName := ⟨RX8, "<init>", "()V"⟩
abbrev cX8_start : ByteArray := prog_10_method_2_code
def yX8_start : MethodName := ⟨RX8, "start", "(LClockZones$Net;)Z"⟩
abbrev cX8_greatestAmount : ByteArray := prog_10_method_3_code
def yX8_greatestAmount : MethodName := ⟨RX8, "greatestAmount", "()I"⟩
abbrev cX8_linger : ByteArray := prog_10_method_4_code
def yX8_linger : MethodName := ⟨RX8, "linger", "(LClockZones$Net;I)Z"⟩
abbrev cX8_take : ByteArray := prog_10_method_5_code
def yX8_take : MethodName := ⟨RX8, "take", "(LClockZones$Net;LClockZones$Move;)Z"⟩
def RX9 : String := "ClockZones$Zone"
def TX9 : u_T := fun k => match k with
  | _ => ("ClockZones$Zone", "bounds", "[I", true)
def tyX9 : Nat → FieldType := fun k => match k with
  | _ => .array .int
abbrev wsX90 : List Cond := u_ws RX9 TX9 1
theorem nmX9 : ∀ a, a < 1 → ∀ b, b < 1 → a ≠ b → (TX9 a).2.1 ≠ (TX9 b).2.1 := by decide +kernel
theorem tyX9_ok : ∀ k, k < 1 → parseFieldDescriptor (TX9 k).2.2.1 = some (tyX9 k) := by decide +kernel
abbrev cX9_init : ByteArray := prog_11_method_1_code
def yX9_init : MethodName := ⟨RX9, "<init>", "()V"⟩
abbrev cX9_sum : ByteArray := prog_11_method_2_code
def yX9_sum : MethodName := ⟨RX9, "sum", "(II)I"⟩
abbrev cX9_putAllClocksAtZero : ByteArray := prog_11_method_3_code
def yX9_putAllClocksAtZero : MethodName := ⟨RX9, "putAllClocksAtZero", "()V"⟩
abbrev cX9_narrow : ByteArray := prog_11_method_4_code
def yX9_narrow : MethodName := ⟨RX9, "narrow", "(III)Z"⟩
abbrev cX9_setToZero : ByteArray := prog_11_method_5_code
def yX9_setToZero : MethodName := ⟨RX9, "setToZero", "(I)V"⟩
abbrev cX9_letTimeGoBy : ByteArray := prog_11_method_6_code
def yX9_letTimeGoBy : MethodName := ⟨RX9, "letTimeGoBy", "()V"⟩
abbrev cX9_widen : ByteArray := prog_11_method_7_code
def yX9_widen : MethodName := ⟨RX9, "widen", "([I)V"⟩
abbrev cX9_close : ByteArray := prog_11_method_8_code
def yX9_close : MethodName := ⟨RX9, "close", "()V"⟩
def RX10 : String := "ClockZones"
def TX10 : u_T := fun k => match k with
  | 0 => ("ClockZones", "net", "LClockZones$Net;", true)
  | 1 => ("ClockZones", "search", "LClockZones$Search;", true)
  | 2 => ("ClockZones", "walk", "LClockZones$Walk;", true)
  | 3 => ("ClockZones", "timetable", "LClockZones$Timetable;", true)
  | 4 => ("ClockZones", "askedPlaces", "[I", true)
  | _ => ("ClockZones", "askedAmounts", "[I", true)
def tyX10 : Nat → FieldType := fun k => match k with
  | 0 => .object "ClockZones$Net"
  | 1 => .object "ClockZones$Search"
  | 2 => .object "ClockZones$Walk"
  | 3 => .object "ClockZones$Timetable"
  | 4 => .array .int
  | _ => .array .int
abbrev wsX100 : List Cond := u_ws RX10 TX10 6
theorem nmX10 : ∀ a, a < 6 → ∀ b, b < 6 → a ≠ b → (TX10 a).2.1 ≠ (TX10 b).2.1 := by decide +kernel
theorem tyX10_ok : ∀ k, k < 6 → parseFieldDescriptor (TX10 k).2.2.1 = some (tyX10 k) := by decide +kernel
abbrev cX10_init : ByteArray := prog_1_method_1_code
def yX10_init : MethodName := ⟨RX10, "<init>", "()V"⟩
abbrev cX10_edge : ByteArray := prog_1_method_2_code
def yX10_edge : MethodName := ⟨RX10, "edge", "(IIIII)I"⟩
abbrev cX10_guard : ByteArray := prog_1_method_3_code
def yX10_guard : MethodName := ⟨RX10, "guard", "(IIII)I"⟩
abbrev cX10_limit : ByteArray := prog_1_method_4_code
def yX10_limit : MethodName := ⟨RX10, "limit", "(IIIII)I"⟩
abbrev cX10_wipe : ByteArray := prog_1_method_5_code
def yX10_wipe : MethodName := ⟨RX10, "wipe", "()I"⟩
abbrev cX10_explore : ByteArray := prog_1_method_6_code
def yX10_explore : MethodName := ⟨RX10, "explore", "(I)I"⟩
abbrev cX10_state : ByteArray := prog_1_method_7_code
def yX10_state : MethodName := ⟨RX10, "state", "(II)I"⟩
abbrev cX10_bound : ByteArray := prog_1_method_8_code
def yX10_bound : MethodName := ⟨RX10, "bound", "(III)I"⟩
abbrev cX10_reach : ByteArray := prog_1_method_9_code
def yX10_reach : MethodName := ⟨RX10, "reach", "(III)I"⟩
abbrev cX10_has : ByteArray := prog_1_method_10_code
def yX10_has : MethodName := ⟨RX10, "has", "(IIII)I"⟩
abbrev cX10_way : ByteArray := prog_1_method_11_code
def yX10_way : MethodName := ⟨RX10, "way", "(III)I"⟩
abbrev cX10_moment : ByteArray := prog_1_method_12_code
def yX10_moment : MethodName := ⟨RX10, "moment", "(II)I"⟩
abbrev cX10_greatest : ByteArray := prog_1_method_13_code
def yX10_greatest : MethodName := ⟨RX10, "greatest", "(I)I"⟩
abbrev cX10_begin : ByteArray := prog_1_method_14_code
def yX10_begin : MethodName := ⟨RX10, "begin", "()I"⟩
abbrev cX10_pass : ByteArray := prog_1_method_15_code
def yX10_pass : MethodName := ⟨RX10, "pass", "(I)I"⟩
abbrev cX10_move : ByteArray := prog_1_method_16_code
def yX10_move : MethodName := ⟨RX10, "move", "(II)I"⟩
abbrev cX10_run : ByteArray := prog_1_method_17_code
def yX10_run : MethodName := ⟨RX10, "run", "(I)I"⟩
abbrev cX10_here : ByteArray := prog_1_method_18_code
def yX10_here : MethodName := ⟨RX10, "here", "()I"⟩
abbrev cX10_about : ByteArray := prog_1_method_19_code
def yX10_about : MethodName := ⟨RX10, "about", "(II)I"⟩
abbrev cX10_count : ByteArray := prog_1_method_20_code
def yX10_count : MethodName := ⟨RX10, "count", "(I)I"⟩
abbrev cX10_digest : ByteArray := prog_1_method_21_code
def yX10_digest : MethodName := ⟨RX10, "digest", "()J"⟩
abbrev cX10_isMachine : ByteArray := prog_1_method_22_code
def yX10_isMachine : MethodName := ⟨RX10, "isMachine", "(I)Z"⟩
abbrev cX10_isPlace : ByteArray := prog_1_method_23_code
def yX10_isPlace : MethodName := ⟨RX10, "isPlace", "(I)Z"⟩
abbrev cX10_isPlaceOrAny : ByteArray := prog_1_method_24_code
def yX10_isPlaceOrAny : MethodName := ⟨RX10, "isPlaceOrAny", "(I)Z"⟩
abbrev cX10_isClockOrZero : ByteArray := prog_1_method_25_code
def yX10_isClockOrZero : MethodName := ⟨RX10, "isClockOrZero", "(I)Z"⟩
abbrev cX10_isClock : ByteArray := prog_1_method_26_code
def yX10_isClock : MethodName := ⟨RX10, "isClock", "(I)Z"⟩
abbrev cX10_isNumber : ByteArray := prog_1_method_27_code
def yX10_isNumber : MethodName := ⟨RX10, "isNumber", "(I)Z"⟩
abbrev cX10_isAmount : ByteArray := prog_1_method_28_code
def yX10_isAmount : MethodName := ⟨RX10, "isAmount", "(I)Z"⟩
abbrev cX10_forgetFindings : ByteArray := prog_1_method_29_code
def yX10_forgetFindings : MethodName := ⟨RX10, "forgetFindings", "()V"⟩
abbrev cX10_addTest : ByteArray := prog_1_method_30_code
def yX10_addTest : MethodName := ⟨RX10, "addTest", "(LClockZones$TestList;III)I"⟩
abbrev cX10_mix : ByteArray := prog_1_method_31_code
def yX10_mix : MethodName := ⟨RX10, "mix", "(JJ)J"⟩
abbrev cX10_mixTests : ByteArray := prog_1_method_32_code
def yX10_mixTests : MethodName := ⟨RX10, "mixTests", "(JLClockZones$TestList;)J"⟩
abbrev cX10_mixEdges : ByteArray := prog_1_method_33_code
def yX10_mixEdges : MethodName := ⟨RX10, "mixEdges", "(J)J"⟩
abbrev cX10_mixLimits : ByteArray := prog_1_method_34_code
def yX10_mixLimits : MethodName := ⟨RX10, "mixLimits", "(J)J"⟩
abbrev cX10_mixStates : ByteArray := prog_1_method_35_code
def yX10_mixStates : MethodName := ⟨RX10, "mixStates", "(J)J"⟩
abbrev cX10_mixWalk : ByteArray := prog_1_method_36_code
def yX10_mixWalk : MethodName := ⟨RX10, "mixWalk", "(J)J"⟩
def RX11 : String := "ClockZonesModel"
def TX11 : u_T := fun k => match k with
  | 0 => ("ClockZonesModel", "edges", "I", false)
  | 1 => ("ClockZonesModel", "machine", "[I", true)
  | 2 => ("ClockZonesModel", "from", "[I", true)
  | 3 => ("ClockZonesModel", "to", "[I", true)
  | 4 => ("ClockZonesModel", "channel", "[I", true)
  | 5 => ("ClockZonesModel", "resets", "[I", true)
  | 6 => ("ClockZonesModel", "guards", "[I", true)
  | 7 => ("ClockZonesModel", "guardOf", "[I", true)
  | 8 => ("ClockZonesModel", "limits", "[I", true)
  | 9 => ("ClockZonesModel", "limitOf", "[I", true)
  | 10 => ("ClockZonesModel", "isNeeded", "Z", false)
  | 11 => ("ClockZonesModel", "explored", "I", false)
  | 12 => ("ClockZonesModel", "states", "I", false)
  | 13 => ("ClockZonesModel", "places", "[I", true)
  | 14 => ("ClockZonesModel", "zones", "[I", true)
  | 15 => ("ClockZonesModel", "parent", "[I", true)
  | 16 => ("ClockZonesModel", "moveE", "[I", true)
  | 17 => ("ClockZonesModel", "moveF", "[I", true)
  | 18 => ("ClockZonesModel", "moves", "[I", true)
  | 19 => ("ClockZonesModel", "z", "[I", true)
  | 20 => ("ClockZonesModel", "ahead", "[I", true)
  | 21 => ("ClockZonesModel", "at", "[I", true)
  | 22 => ("ClockZonesModel", "amounts", "[I", true)
  | 23 => ("ClockZonesModel", "way", "[I", true)
  | 24 => ("ClockZonesModel", "moments", "[I", true)
  | 25 => ("ClockZonesModel", "isMoved", "Z", false)
  | 26 => ("ClockZonesModel", "runs", "Z", false)
  | 27 => ("ClockZonesModel", "runAt", "[I", true)
  | 28 => ("ClockZonesModel", "runClock", "[I", true)
  | 29 => ("ClockZonesModel", "runTime", "I", false)
  | 30 => ("ClockZonesModel", "runMoves", "I", false)
  | _ => ("ClockZonesModel", "h", "J", false)
def tyX11 : Nat → FieldType := fun k => match k with
  | 0 => .int
  | 1 => .array .int
  | 2 => .array .int
  | 3 => .array .int
  | 4 => .array .int
  | 5 => .array .int
  | 6 => .array .int
  | 7 => .array .int
  | 8 => .array .int
  | 9 => .array .int
  | 10 => .boolean
  | 11 => .int
  | 12 => .int
  | 13 => .array .int
  | 14 => .array .int
  | 15 => .array .int
  | 16 => .array .int
  | 17 => .array .int
  | 18 => .array .int
  | 19 => .array .int
  | 20 => .array .int
  | 21 => .array .int
  | 22 => .array .int
  | 23 => .array .int
  | 24 => .array .int
  | 25 => .boolean
  | 26 => .boolean
  | 27 => .array .int
  | 28 => .array .int
  | 29 => .int
  | 30 => .int
  | _ => .long
abbrev wsX110 : List Cond := u_ws RX11 TX11 32
theorem nmX11 : ∀ a, a < 32 → ∀ b, b < 32 → a ≠ b → (TX11 a).2.1 ≠ (TX11 b).2.1 := by decide +kernel
theorem tyX11_ok : ∀ k, k < 32 → parseFieldDescriptor (TX11 k).2.2.1 = some (tyX11 k) := by decide +kernel
abbrev cX11_init : ByteArray := prog_13_method_1_code
def yX11_init : MethodName := ⟨RX11, "<init>", "()V"⟩
abbrev cX11_in : ByteArray := prog_13_method_3_code
def yX11_in : MethodName := ⟨RX11, "in", "(III)Z"⟩
abbrev cX11_isMachine : ByteArray := prog_13_method_4_code
def yX11_isMachine : MethodName := ⟨RX11, "isMachine", "(I)Z"⟩
abbrev cX11_isPlace : ByteArray := prog_13_method_5_code
def yX11_isPlace : MethodName := ⟨RX11, "isPlace", "(I)Z"⟩
abbrev cX11_isClock : ByteArray := prog_13_method_6_code
def yX11_isClock : MethodName := ⟨RX11, "isClock", "(I)Z"⟩
abbrev cX11_isEdge : ByteArray := prog_13_method_7_code
def yX11_isEdge : MethodName := ⟨RX11, "isEdge", "(I)Z"⟩
abbrev cX11_changed : ByteArray := prog_13_method_8_code
def yX11_changed : MethodName := ⟨RX11, "changed", "()V"⟩
abbrev cX11_edge : ByteArray := prog_13_method_9_code
def yX11_edge : MethodName := ⟨RX11, "edge", "(IIIII)I"⟩
abbrev cX11_guard : ByteArray := prog_13_method_10_code
def yX11_guard : MethodName := ⟨RX11, "guard", "(IIII)I"⟩
abbrev cX11_limit : ByteArray := prog_13_method_11_code
def yX11_limit : MethodName := ⟨RX11, "limit", "(IIIII)I"⟩
abbrev cX11_wipe : ByteArray := prog_13_method_12_code
def yX11_wipe : MethodName := ⟨RX11, "wipe", "()I"⟩
abbrev cX11_sum : ByteArray := prog_13_method_13_code
def yX11_sum : MethodName := ⟨RX11, "sum", "(II)I"⟩
abbrev cX11_close : ByteArray := prog_13_method_14_code
def yX11_close : MethodName := ⟨RX11, "close", "()Z"⟩
abbrev cX11_bind : ByteArray := prog_13_method_15_code
def yX11_bind : MethodName := ⟨RX11, "bind", "(III)V"⟩
abbrev cX11_test : ByteArray := prog_13_method_16_code
def yX11_test : MethodName := ⟨RX11, "test", "(III)V"⟩
abbrev cX11_keepLimits : ByteArray := prog_13_method_17_code
def yX11_keepLimits : MethodName := ⟨RX11, "keepLimits", "()Z"⟩
abbrev cX11_keepGuards : ByteArray := prog_13_method_18_code
def yX11_keepGuards : MethodName := ⟨RX11, "keepGuards", "(I)Z"⟩
abbrev cX11_set : ByteArray := prog_13_method_19_code
def yX11_set : MethodName := ⟨RX11, "set", "(I)V"⟩
abbrev cX11_greatestOf : ByteArray := prog_13_method_20_code
def yX11_greatestOf : MethodName := ⟨RX11, "greatestOf", "(I)I"⟩
abbrev cX11_widen : ByteArray := prog_13_method_21_code
def yX11_widen : MethodName := ⟨RX11, "widen", "()Z"⟩
abbrev cX11_later : ByteArray := prog_13_method_22_code
def yX11_later : MethodName := ⟨RX11, "later", "()Z"⟩
abbrev cX11_isMove : ByteArray := prog_13_method_23_code
def yX11_isMove : MethodName := ⟨RX11, "isMove", "(II)Z"⟩
abbrev cX11_isMet : ByteArray := prog_13_method_24_code
def yX11_isMet : MethodName := ⟨RX11, "isMet", "()Z"⟩
abbrev cX11_meet : ByteArray := prog_13_method_25_code
def yX11_meet : MethodName := ⟨RX11, "meet", "(III)V"⟩
abbrev cX11_follows : ByteArray := prog_13_method_26_code
def yX11_follows : MethodName := ⟨RX11, "follows", "(III)Z"⟩
abbrev cX11_explore : ByteArray := prog_13_method_27_code
def yX11_explore : MethodName := ⟨RX11, "explore", "(I)I"⟩
abbrev cX11_isState : ByteArray := prog_13_method_28_code
def yX11_isState : MethodName := ⟨RX11, "isState", "(I)Z"⟩
abbrev cX11_state : ByteArray := prog_13_method_29_code
def yX11_state : MethodName := ⟨RX11, "state", "(II)I"⟩
abbrev cX11_tells : ByteArray := prog_13_method_30_code
def yX11_tells : MethodName := ⟨RX11, "tells", "(II)I"⟩
abbrev cX11_bound : ByteArray := prog_13_method_31_code
def yX11_bound : MethodName := ⟨RX11, "bound", "(III)I"⟩
abbrev cX11_reach : ByteArray := prog_13_method_32_code
def yX11_reach : MethodName := ⟨RX11, "reach", "(III)I"⟩
abbrev cX11_holds : ByteArray := prog_13_method_33_code
def yX11_holds : MethodName := ⟨RX11, "holds", "(I)Z"⟩
abbrev cX11_has : ByteArray := prog_13_method_34_code
def yX11_has : MethodName := ⟨RX11, "has", "(IIII)I"⟩
abbrev cX11_layOut : ByteArray := prog_13_method_35_code
def yX11_layOut : MethodName := ⟨RX11, "layOut", "(I)I"⟩
abbrev cX11_way : ByteArray := prog_13_method_36_code
def yX11_way : MethodName := ⟨RX11, "way", "(III)I"⟩
abbrev cX11_behind : ByteArray := prog_13_method_37_code
def yX11_behind : MethodName := ⟨RX11, "behind", "(III)V"⟩
abbrev cX11_ask : ByteArray := prog_13_method_38_code
def yX11_ask : MethodName := ⟨RX11, "ask", "(IIII)V"⟩
abbrev cX11_setAt : ByteArray := prog_13_method_39_code
def yX11_setAt : MethodName := ⟨RX11, "setAt", "(II)I"⟩
abbrev cX11_askGuards : ByteArray := prog_13_method_40_code
def yX11_askGuards : MethodName := ⟨RX11, "askGuards", "(II)V"⟩
abbrev cX11_askLimits : ByteArray := prog_13_method_41_code
def yX11_askLimits : MethodName := ⟨RX11, "askLimits", "(III)V"⟩
abbrev cX11_timeAll : ByteArray := prog_13_method_42_code
def yX11_timeAll : MethodName := ⟨RX11, "timeAll", "(I)V"⟩
abbrev cX11_moment : ByteArray := prog_13_method_43_code
def yX11_moment : MethodName := ⟨RX11, "moment", "(II)I"⟩
abbrev cX11_greatest : ByteArray := prog_13_method_44_code
def yX11_greatest : MethodName := ⟨RX11, "greatest", "(I)I"⟩
abbrev cX11_passes : ByteArray := prog_13_method_45_code
def yX11_passes : MethodName := ⟨RX11, "passes", "(III)Z"⟩
abbrev cX11_areKept : ByteArray := prog_13_method_46_code
def yX11_areKept : MethodName := ⟨RX11, "areKept", "()Z"⟩
abbrev cX11_look : ByteArray := prog_13_method_47_code
def yX11_look : MethodName := ⟨RX11, "look", "()V"⟩
abbrev cX11_become : ByteArray := prog_13_method_48_code
def yX11_become : MethodName := ⟨RX11, "become", "()V"⟩
abbrev cX11_begin : ByteArray := prog_13_method_49_code
def yX11_begin : MethodName := ⟨RX11, "begin", "()I"⟩
abbrev cX11_pass : ByteArray := prog_13_method_50_code
def yX11_pass : MethodName := ⟨RX11, "pass", "(I)I"⟩
abbrev cX11_isOpen : ByteArray := prog_13_method_51_code
def yX11_isOpen : MethodName := ⟨RX11, "isOpen", "(I)Z"⟩
abbrev cX11_go : ByteArray := prog_13_method_52_code
def yX11_go : MethodName := ⟨RX11, "go", "(I)V"⟩
abbrev cX11_move : ByteArray := prog_13_method_53_code
def yX11_move : MethodName := ⟨RX11, "move", "(II)I"⟩
abbrev cX11_run : ByteArray := prog_13_method_54_code
def yX11_run : MethodName := ⟨RX11, "run", "(I)I"⟩
abbrev cX11_here : ByteArray := prog_13_method_55_code
def yX11_here : MethodName := ⟨RX11, "here", "()I"⟩
abbrev cX11_about : ByteArray := prog_13_method_56_code
def yX11_about : MethodName := ⟨RX11, "about", "(II)I"⟩
abbrev cX11_moveCount : ByteArray := prog_13_method_57_code
def yX11_moveCount : MethodName := ⟨RX11, "moveCount", "()I"⟩
abbrev cX11_count : ByteArray := prog_13_method_58_code
def yX11_count : MethodName := ⟨RX11, "count", "(I)I"⟩
abbrev cX11_mix : ByteArray := prog_13_method_59_code
def yX11_mix : MethodName := ⟨RX11, "mix", "(J)V"⟩
abbrev cX11_digest : ByteArray := prog_13_method_60_code
def yX11_digest : MethodName := ⟨RX11, "digest", "()J"⟩
def RJ9 : String := "java/lang/Math"
def TJ9 : u_T := fun k => match k with
  | _ => ("", "", "", false)
def tyJ9 : Nat → FieldType := fun k => match k with
  | _ => .int
abbrev wsJ90 : List Cond := u_ws RJ9 TJ9 0
theorem nmJ9 : ∀ a, a < 0 → ∀ b, b < 0 → a ≠ b → (TJ9 a).2.1 ≠ (TJ9 b).2.1 := by decide +kernel
theorem tyJ9_ok : ∀ k, k < 0 → parseFieldDescriptor (TJ9 k).2.2.1 = some (tyJ9 k) := by decide +kernel
abbrev cJ9_max_7cf53 : ByteArray := prog_14_method_65_code
def yJ9_max_7cf53 : MethodName := ⟨RJ9, "max", "(II)I"⟩
abbrev cJ9_min_7cf53 : ByteArray := prog_14_method_69_code
def yJ9_min_7cf53 : MethodName := ⟨RJ9, "min", "(II)I"⟩
def RJ10 : String := "java/lang/System"
def TJ10 : u_T := fun k => match k with
  | _ => ("", "", "", false)
def tyJ10 : Nat → FieldType := fun k => match k with
  | _ => .int
abbrev wsJ100 : List Cond := u_ws RJ10 TJ10 0
theorem nmJ10 : ∀ a, a < 0 → ∀ b, b < 0 → a ≠ b → (TJ10 a).2.1 ≠ (TJ10 b).2.1 := by decide +kernel
theorem tyJ10_ok : ∀ k, k < 0 → parseFieldDescriptor (TJ10 k).2.2.1 = some (tyJ10 k) := by decide +kernel
def RJ7 : String := "java/util/Arrays"
def TJ7 : u_T := fun k => match k with
  | _ => ("", "", "", false)
def tyJ7 : Nat → FieldType := fun k => match k with
  | _ => .int
abbrev wsJ70 : List Cond := u_ws RJ7 TJ7 0
theorem nmJ7 : ∀ a, a < 0 → ∀ b, b < 0 → a ≠ b → (TJ7 a).2.1 ≠ (TJ7 b).2.1 := by decide +kernel
theorem tyJ7_ok : ∀ k, k < 0 → parseFieldDescriptor (TJ7 k).2.2.1 = some (tyJ7 k) := by decide +kernel
abbrev cJ7_fill_53178 : ByteArray := prog_16_method_103_code
def yJ7_fill_53178 : MethodName := ⟨RJ7, "fill", "([II)V"⟩
def RL : String := "ClockZonesLaw"
abbrev cL_law : ByteArray := code
def yL_law : MethodName := ⟨RL, "law", "([I)Z"⟩
abbrev z_cl : List vw_C := [(RX0, TX0, 6), (RX1, TX1, 5), (RX2, TX2, 5), (RX3, TX3, 6), (RX4, TX4, 3), (RX5, TX5, 3), (RX6, TX6, 2), (RX7, TX7, 7), (RX8, TX8, 7), (RX9, TX9, 1), (RX10, TX10, 6), (RX11, TX11, 32)]
theorem z_in0 : ∀ w ∈ wsX00, w ∈ lw_tbl := by decide +kernel
theorem z_in1 : ∀ w ∈ wsX10, w ∈ lw_tbl := by decide +kernel
theorem z_in2 : ∀ w ∈ wsX20, w ∈ lw_tbl := by decide +kernel
theorem z_in3 : ∀ w ∈ wsX30, w ∈ lw_tbl := by decide +kernel
theorem z_in4 : ∀ w ∈ wsX40, w ∈ lw_tbl := by decide +kernel
theorem z_in5 : ∀ w ∈ wsX50, w ∈ lw_tbl := by decide +kernel
theorem z_in6 : ∀ w ∈ wsX60, w ∈ lw_tbl := by decide +kernel
theorem z_in7 : ∀ w ∈ wsX70, w ∈ lw_tbl := by decide +kernel
theorem z_in8 : ∀ w ∈ wsX80, w ∈ lw_tbl := by decide +kernel
theorem z_in9 : ∀ w ∈ wsX90, w ∈ lw_tbl := by decide +kernel
theorem z_in10 : ∀ w ∈ wsX100, w ∈ lw_tbl := by decide +kernel
theorem z_in11 : ∀ w ∈ wsX110, w ∈ lw_tbl := by decide +kernel
def z_tbl : List Cond := lw_tbl.filter goodWord
theorem z_m {w : Cond} (h : w ∈ lw_tbl) (g : goodWord w = true) : w ∈ z_tbl := List.mem_filter.mpr ⟨h, g⟩
theorem z_good : ∀ w ∈ z_tbl, goodWord w = true := fun _ h => (List.mem_filter.mp h).2
theorem z_lw : ∀ w ∈ z_tbl, w ∈ lw_tbl := fun _ h => (List.mem_filter.mp h).1
theorem z_it0 : ∀ w ∈ wsX00, w ∈ z_tbl := fun w h => z_m (z_in0 w h) (by revert w h; decide +kernel)
theorem z_it1 : ∀ w ∈ wsX10, w ∈ z_tbl := fun w h => z_m (z_in1 w h) (by revert w h; decide +kernel)
theorem z_it2 : ∀ w ∈ wsX20, w ∈ z_tbl := fun w h => z_m (z_in2 w h) (by revert w h; decide +kernel)
theorem z_it3 : ∀ w ∈ wsX30, w ∈ z_tbl := fun w h => z_m (z_in3 w h) (by revert w h; decide +kernel)
theorem z_it4 : ∀ w ∈ wsX40, w ∈ z_tbl := fun w h => z_m (z_in4 w h) (by revert w h; decide +kernel)
theorem z_it5 : ∀ w ∈ wsX50, w ∈ z_tbl := fun w h => z_m (z_in5 w h) (by revert w h; decide +kernel)
theorem z_it6 : ∀ w ∈ wsX60, w ∈ z_tbl := fun w h => z_m (z_in6 w h) (by revert w h; decide +kernel)
theorem z_it7 : ∀ w ∈ wsX70, w ∈ z_tbl := fun w h => z_m (z_in7 w h) (by revert w h; decide +kernel)
theorem z_it8 : ∀ w ∈ wsX80, w ∈ z_tbl := fun w h => z_m (z_in8 w h) (by revert w h; decide +kernel)
theorem z_it9 : ∀ w ∈ wsX90, w ∈ z_tbl := fun w h => z_m (z_in9 w h) (by revert w h; decide +kernel)
theorem z_it10 : ∀ w ∈ wsX100, w ∈ z_tbl := fun w h => z_m (z_in10 w h) (by revert w h; decide +kernel)
theorem z_it11 : ∀ w ∈ wsX110, w ∈ z_tbl := fun w h => z_m (z_in11 w h) (by revert w h; decide +kernel)
