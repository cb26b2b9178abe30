section
-- ===== PART A: goes FIRST, ahead of the names: the tables' words, and 'selects' of the private methods out of them =====
/-- a private method of a class that the tables say can be made, by its rows of tables_1 -/
def lw_okq (q : MethodName × Nat) : Prop := (q.1.cls ≠ "java/lang/invoke/MethodHandle" ∧ q.1.cls ≠ "java/lang/invoke/VarHandle") ∧ Cond.instantiable q.1.cls q.2 ∈ tables_1 ∧ Cond.privateMethod q.1 ∈ tables_1 ∧ Cond.instanceMethod q.1 ∈ tables_1
theorem lw_p0 : lw_okq (⟨"ClockZones", "forgetFindings", "()V"⟩, 6) := ⟨⟨by decide +kernel, by decide +kernel⟩, List.mem_of_getElem? (i := 17) (by decide +kernel), List.mem_of_getElem? (i := 226) (by decide +kernel), List.mem_of_getElem? (i := 227) (by decide +kernel)⟩
theorem lw_p1 : lw_okq (⟨"ClockZones$Net", "insert", "(LClockZones$Move;)V"⟩, 5) := ⟨⟨by decide +kernel, by decide +kernel⟩, List.mem_of_getElem? (i := 25) (by decide +kernel), List.mem_of_getElem? (i := 302) (by decide +kernel), List.mem_of_getElem? (i := 303) (by decide +kernel)⟩
theorem lw_p2 : lw_okq (⟨"ClockZones", "addTest", "(LClockZones$TestList;III)I"⟩, 6) := ⟨⟨by decide +kernel, by decide +kernel⟩, List.mem_of_getElem? (i := 17) (by decide +kernel), List.mem_of_getElem? (i := 331) (by decide +kernel), List.mem_of_getElem? (i := 332) (by decide +kernel)⟩
theorem lw_p3 : lw_okq (⟨"ClockZones$Search", "prepare", "(LClockZones$Net;)V"⟩, 6) := ⟨⟨by decide +kernel, by decide +kernel⟩, List.mem_of_getElem? (i := 77) (by decide +kernel), List.mem_of_getElem? (i := 385) (by decide +kernel), List.mem_of_getElem? (i := 386) (by decide +kernel)⟩
theorem lw_p4 : lw_okq (⟨"ClockZones$Search", "standAtStart", "()V"⟩, 6) := ⟨⟨by decide +kernel, by decide +kernel⟩, List.mem_of_getElem? (i := 77) (by decide +kernel), List.mem_of_getElem? (i := 401) (by decide +kernel), List.mem_of_getElem? (i := 402) (by decide +kernel)⟩
theorem lw_p5 : lw_okq (⟨"ClockZones$Search", "settles", "(LClockZones$Net;)Z"⟩, 6) := ⟨⟨by decide +kernel, by decide +kernel⟩, List.mem_of_getElem? (i := 77) (by decide +kernel), List.mem_of_getElem? (i := 413) (by decide +kernel), List.mem_of_getElem? (i := 414) (by decide +kernel)⟩
theorem lw_p6 : lw_okq (⟨"ClockZones$Zone", "close", "()V"⟩, 1) := ⟨⟨by decide +kernel, by decide +kernel⟩, List.mem_of_getElem? (i := 102) (by decide +kernel), List.mem_of_getElem? (i := 458) (by decide +kernel), List.mem_of_getElem? (i := 459) (by decide +kernel)⟩
theorem lw_p7 : lw_okq (⟨"ClockZones$Search", "goesBy", "(ILClockZones$Move;)Z"⟩, 6) := ⟨⟨by decide +kernel, by decide +kernel⟩, List.mem_of_getElem? (i := 77) (by decide +kernel), List.mem_of_getElem? (i := 469) (by decide +kernel), List.mem_of_getElem? (i := 470) (by decide +kernel)⟩
theorem lw_p8 : lw_okq (⟨"ClockZones$States", "isAt", "(I[I)Z"⟩, 3) := ⟨⟨by decide +kernel, by decide +kernel⟩, List.mem_of_getElem? (i := 83) (by decide +kernel), List.mem_of_getElem? (i := 506) (by decide +kernel), List.mem_of_getElem? (i := 507) (by decide +kernel)⟩
theorem lw_p9 : lw_okq (⟨"ClockZones$States", "takesIn", "(ILClockZones$Zone;)Z"⟩, 3) := ⟨⟨by decide +kernel, by decide +kernel⟩, List.mem_of_getElem? (i := 83) (by decide +kernel), List.mem_of_getElem? (i := 514) (by decide +kernel), List.mem_of_getElem? (i := 515) (by decide +kernel)⟩
theorem lw_p10 : lw_okq (⟨"ClockZones$Timetable", "visit", "(LClockZones$States;II)V"⟩, 7) := ⟨⟨by decide +kernel, by decide +kernel⟩, List.mem_of_getElem? (i := 168) (by decide +kernel), List.mem_of_getElem? (i := 587) (by decide +kernel), List.mem_of_getElem? (i := 588) (by decide +kernel)⟩
theorem lw_p11 : lw_okq (⟨"ClockZones$Timetable", "addGap", "(III)V"⟩, 7) := ⟨⟨by decide +kernel, by decide +kernel⟩, List.mem_of_getElem? (i := 168) (by decide +kernel), List.mem_of_getElem? (i := 592) (by decide +kernel), List.mem_of_getElem? (i := 593) (by decide +kernel)⟩
theorem lw_p12 : lw_okq (⟨"ClockZones$Timetable", "addLimits", "(LClockZones$Net;LClockZones$States;II)V"⟩, 7) := ⟨⟨by decide +kernel, by decide +kernel⟩, List.mem_of_getElem? (i := 168) (by decide +kernel), List.mem_of_getElem? (i := 596) (by decide +kernel), List.mem_of_getElem? (i := 597) (by decide +kernel)⟩
theorem lw_p13 : lw_okq (⟨"ClockZones$Timetable", "addTests", "(LClockZones$TestList;I)V"⟩, 7) := ⟨⟨by decide +kernel, by decide +kernel⟩, List.mem_of_getElem? (i := 168) (by decide +kernel), List.mem_of_getElem? (i := 601) (by decide +kernel), List.mem_of_getElem? (i := 602) (by decide +kernel)⟩
theorem lw_p14 : lw_okq (⟨"ClockZones$Timetable", "addStep", "(LClockZones$Move;I)V"⟩, 7) := ⟨⟨by decide +kernel, by decide +kernel⟩, List.mem_of_getElem? (i := 168) (by decide +kernel), List.mem_of_getElem? (i := 619) (by decide +kernel), List.mem_of_getElem? (i := 620) (by decide +kernel)⟩
theorem lw_p15 : lw_okq (⟨"ClockZones$Timetable", "settle", "()V"⟩, 7) := ⟨⟨by decide +kernel, by decide +kernel⟩, List.mem_of_getElem? (i := 168) (by decide +kernel), List.mem_of_getElem? (i := 624) (by decide +kernel), List.mem_of_getElem? (i := 625) (by decide +kernel)⟩
def lw_privs_1 : List (MethodName × Nat) := [(⟨"ClockZones", "forgetFindings", "()V"⟩, 6), (⟨"ClockZones$Net", "insert", "(LClockZones$Move;)V"⟩, 5), (⟨"ClockZones", "addTest", "(LClockZones$TestList;III)I"⟩, 6), (⟨"ClockZones$Search", "prepare", "(LClockZones$Net;)V"⟩, 6), (⟨"ClockZones$Search", "standAtStart", "()V"⟩, 6), (⟨"ClockZones$Search", "settles", "(LClockZones$Net;)Z"⟩, 6), (⟨"ClockZones$Zone", "close", "()V"⟩, 1), (⟨"ClockZones$Search", "goesBy", "(ILClockZones$Move;)Z"⟩, 6), (⟨"ClockZones$States", "isAt", "(I[I)Z"⟩, 3), (⟨"ClockZones$States", "takesIn", "(ILClockZones$Zone;)Z"⟩, 3), (⟨"ClockZones$Timetable", "visit", "(LClockZones$States;II)V"⟩, 7), (⟨"ClockZones$Timetable", "addGap", "(III)V"⟩, 7), (⟨"ClockZones$Timetable", "addLimits", "(LClockZones$Net;LClockZones$States;II)V"⟩, 7), (⟨"ClockZones$Timetable", "addTests", "(LClockZones$TestList;I)V"⟩, 7), (⟨"ClockZones$Timetable", "addStep", "(LClockZones$Move;I)V"⟩, 7), (⟨"ClockZones$Timetable", "settle", "()V"⟩, 7)]
theorem lw_r1 : ∀ q ∈ lw_privs_1, lw_okq q := List.forall_mem_cons.mpr ⟨lw_p0, List.forall_mem_cons.mpr ⟨lw_p1, List.forall_mem_cons.mpr ⟨lw_p2, List.forall_mem_cons.mpr ⟨lw_p3, List.forall_mem_cons.mpr ⟨lw_p4, List.forall_mem_cons.mpr ⟨lw_p5, List.forall_mem_cons.mpr ⟨lw_p6, List.forall_mem_cons.mpr ⟨lw_p7, List.forall_mem_cons.mpr ⟨lw_p8, List.forall_mem_cons.mpr ⟨lw_p9, List.forall_mem_cons.mpr ⟨lw_p10, List.forall_mem_cons.mpr ⟨lw_p11, List.forall_mem_cons.mpr ⟨lw_p12, List.forall_mem_cons.mpr ⟨lw_p13, List.forall_mem_cons.mpr ⟨lw_p14, List.forall_mem_cons.mpr ⟨lw_p15, fun _ h => absurd h List.not_mem_nil⟩⟩⟩⟩⟩⟩⟩⟩⟩⟩⟩⟩⟩⟩⟩⟩
theorem lw_p16 : lw_okq (⟨"ClockZones", "mixEdges", "(J)J"⟩, 6) := ⟨⟨by decide +kernel, by decide +kernel⟩, List.mem_of_getElem? (i := 17) (by decide +kernel), List.mem_of_getElem? (i := 724) (by decide +kernel), List.mem_of_getElem? (i := 725) (by decide +kernel)⟩
theorem lw_p17 : lw_okq (⟨"ClockZones", "mixLimits", "(J)J"⟩, 6) := ⟨⟨by decide +kernel, by decide +kernel⟩, List.mem_of_getElem? (i := 17) (by decide +kernel), List.mem_of_getElem? (i := 736) (by decide +kernel), List.mem_of_getElem? (i := 737) (by decide +kernel)⟩
theorem lw_p18 : lw_okq (⟨"ClockZones", "mixStates", "(J)J"⟩, 6) := ⟨⟨by decide +kernel, by decide +kernel⟩, List.mem_of_getElem? (i := 17) (by decide +kernel), List.mem_of_getElem? (i := 740) (by decide +kernel), List.mem_of_getElem? (i := 741) (by decide +kernel)⟩
theorem lw_p19 : lw_okq (⟨"ClockZones", "mixWalk", "(J)J"⟩, 6) := ⟨⟨by decide +kernel, by decide +kernel⟩, List.mem_of_getElem? (i := 17) (by decide +kernel), List.mem_of_getElem? (i := 746) (by decide +kernel), List.mem_of_getElem? (i := 747) (by decide +kernel)⟩
theorem lw_p20 : lw_okq (⟨"ClockZonesModel", "changed", "()V"⟩, 32) := ⟨⟨by decide +kernel, by decide +kernel⟩, List.mem_of_getElem? (i := 751) (by decide +kernel), List.mem_of_getElem? (i := 867) (by decide +kernel), List.mem_of_getElem? (i := 868) (by decide +kernel)⟩
theorem lw_p21 : lw_okq (⟨"ClockZonesModel", "isEdge", "(I)Z"⟩, 32) := ⟨⟨by decide +kernel, by decide +kernel⟩, List.mem_of_getElem? (i := 751) (by decide +kernel), List.mem_of_getElem? (i := 875) (by decide +kernel), List.mem_of_getElem? (i := 876) (by decide +kernel)⟩
theorem lw_p22 : lw_okq (⟨"ClockZonesModel", "keepLimits", "()Z"⟩, 32) := ⟨⟨by decide +kernel, by decide +kernel⟩, List.mem_of_getElem? (i := 751) (by decide +kernel), List.mem_of_getElem? (i := 894) (by decide +kernel), List.mem_of_getElem? (i := 895) (by decide +kernel)⟩
theorem lw_p23 : lw_okq (⟨"ClockZonesModel", "test", "(III)V"⟩, 32) := ⟨⟨by decide +kernel, by decide +kernel⟩, List.mem_of_getElem? (i := 751) (by decide +kernel), List.mem_of_getElem? (i := 898) (by decide +kernel), List.mem_of_getElem? (i := 899) (by decide +kernel)⟩
theorem lw_p24 : lw_okq (⟨"ClockZonesModel", "bind", "(III)V"⟩, 32) := ⟨⟨by decide +kernel, by decide +kernel⟩, List.mem_of_getElem? (i := 751) (by decide +kernel), List.mem_of_getElem? (i := 902) (by decide +kernel), List.mem_of_getElem? (i := 903) (by decide +kernel)⟩
theorem lw_p25 : lw_okq (⟨"ClockZonesModel", "close", "()Z"⟩, 32) := ⟨⟨by decide +kernel, by decide +kernel⟩, List.mem_of_getElem? (i := 751) (by decide +kernel), List.mem_of_getElem? (i := 906) (by decide +kernel), List.mem_of_getElem? (i := 907) (by decide +kernel)⟩
theorem lw_p26 : lw_okq (⟨"ClockZonesModel", "later", "()Z"⟩, 32) := ⟨⟨by decide +kernel, by decide +kernel⟩, List.mem_of_getElem? (i := 751) (by decide +kernel), List.mem_of_getElem? (i := 914) (by decide +kernel), List.mem_of_getElem? (i := 915) (by decide +kernel)⟩
theorem lw_p27 : lw_okq (⟨"ClockZonesModel", "widen", "()Z"⟩, 32) := ⟨⟨by decide +kernel, by decide +kernel⟩, List.mem_of_getElem? (i := 751) (by decide +kernel), List.mem_of_getElem? (i := 918) (by decide +kernel), List.mem_of_getElem? (i := 919) (by decide +kernel)⟩
theorem lw_p28 : lw_okq (⟨"ClockZonesModel", "greatestOf", "(I)I"⟩, 32) := ⟨⟨by decide +kernel, by decide +kernel⟩, List.mem_of_getElem? (i := 751) (by decide +kernel), List.mem_of_getElem? (i := 922) (by decide +kernel), List.mem_of_getElem? (i := 923) (by decide +kernel)⟩
theorem lw_p29 : lw_okq (⟨"ClockZonesModel", "meet", "(III)V"⟩, 32) := ⟨⟨by decide +kernel, by decide +kernel⟩, List.mem_of_getElem? (i := 751) (by decide +kernel), List.mem_of_getElem? (i := 926) (by decide +kernel), List.mem_of_getElem? (i := 927) (by decide +kernel)⟩
theorem lw_p30 : lw_okq (⟨"ClockZonesModel", "isMove", "(II)Z"⟩, 32) := ⟨⟨by decide +kernel, by decide +kernel⟩, List.mem_of_getElem? (i := 751) (by decide +kernel), List.mem_of_getElem? (i := 930) (by decide +kernel), List.mem_of_getElem? (i := 931) (by decide +kernel)⟩
theorem lw_p31 : lw_okq (⟨"ClockZonesModel", "follows", "(III)Z"⟩, 32) := ⟨⟨by decide +kernel, by decide +kernel⟩, List.mem_of_getElem? (i := 751) (by decide +kernel), List.mem_of_getElem? (i := 934) (by decide +kernel), List.mem_of_getElem? (i := 935) (by decide +kernel)⟩
def lw_privs_2 : List (MethodName × Nat) := [(⟨"ClockZones", "mixEdges", "(J)J"⟩, 6), (⟨"ClockZones", "mixLimits", "(J)J"⟩, 6), (⟨"ClockZones", "mixStates", "(J)J"⟩, 6), (⟨"ClockZones", "mixWalk", "(J)J"⟩, 6), (⟨"ClockZonesModel", "changed", "()V"⟩, 32), (⟨"ClockZonesModel", "isEdge", "(I)Z"⟩, 32), (⟨"ClockZonesModel", "keepLimits", "()Z"⟩, 32), (⟨"ClockZonesModel", "test", "(III)V"⟩, 32), (⟨"ClockZonesModel", "bind", "(III)V"⟩, 32), (⟨"ClockZonesModel", "close", "()Z"⟩, 32), (⟨"ClockZonesModel", "later", "()Z"⟩, 32), (⟨"ClockZonesModel", "widen", "()Z"⟩, 32), (⟨"ClockZonesModel", "greatestOf", "(I)I"⟩, 32), (⟨"ClockZonesModel", "meet", "(III)V"⟩, 32), (⟨"ClockZonesModel", "isMove", "(II)Z"⟩, 32), (⟨"ClockZonesModel", "follows", "(III)Z"⟩, 32)]
theorem lw_r2 : ∀ q ∈ lw_privs_2, lw_okq q := List.forall_mem_cons.mpr ⟨lw_p16, List.forall_mem_cons.mpr ⟨lw_p17, List.forall_mem_cons.mpr ⟨lw_p18, List.forall_mem_cons.mpr ⟨lw_p19, List.forall_mem_cons.mpr ⟨lw_p20, List.forall_mem_cons.mpr ⟨lw_p21, List.forall_mem_cons.mpr ⟨lw_p22, List.forall_mem_cons.mpr ⟨lw_p23, List.forall_mem_cons.mpr ⟨lw_p24, List.forall_mem_cons.mpr ⟨lw_p25, List.forall_mem_cons.mpr ⟨lw_p26, List.forall_mem_cons.mpr ⟨lw_p27, List.forall_mem_cons.mpr ⟨lw_p28, List.forall_mem_cons.mpr ⟨lw_p29, List.forall_mem_cons.mpr ⟨lw_p30, List.forall_mem_cons.mpr ⟨lw_p31, fun _ h => absurd h List.not_mem_nil⟩⟩⟩⟩⟩⟩⟩⟩⟩⟩⟩⟩⟩⟩⟩⟩
theorem lw_p32 : lw_okq (⟨"ClockZonesModel", "keepGuards", "(I)Z"⟩, 32) := ⟨⟨by decide +kernel, by decide +kernel⟩, List.mem_of_getElem? (i := 751) (by decide +kernel), List.mem_of_getElem? (i := 938) (by decide +kernel), List.mem_of_getElem? (i := 939) (by decide +kernel)⟩
theorem lw_p33 : lw_okq (⟨"ClockZonesModel", "set", "(I)V"⟩, 32) := ⟨⟨by decide +kernel, by decide +kernel⟩, List.mem_of_getElem? (i := 751) (by decide +kernel), List.mem_of_getElem? (i := 942) (by decide +kernel), List.mem_of_getElem? (i := 943) (by decide +kernel)⟩
theorem lw_p34 : lw_okq (⟨"ClockZonesModel", "isMet", "()Z"⟩, 32) := ⟨⟨by decide +kernel, by decide +kernel⟩, List.mem_of_getElem? (i := 751) (by decide +kernel), List.mem_of_getElem? (i := 946) (by decide +kernel), List.mem_of_getElem? (i := 947) (by decide +kernel)⟩
theorem lw_p35 : lw_okq (⟨"ClockZonesModel", "isState", "(I)Z"⟩, 32) := ⟨⟨by decide +kernel, by decide +kernel⟩, List.mem_of_getElem? (i := 751) (by decide +kernel), List.mem_of_getElem? (i := 954) (by decide +kernel), List.mem_of_getElem? (i := 955) (by decide +kernel)⟩
theorem lw_p36 : lw_okq (⟨"ClockZonesModel", "tells", "(II)I"⟩, 32) := ⟨⟨by decide +kernel, by decide +kernel⟩, List.mem_of_getElem? (i := 751) (by decide +kernel), List.mem_of_getElem? (i := 958) (by decide +kernel), List.mem_of_getElem? (i := 959) (by decide +kernel)⟩
theorem lw_p37 : lw_okq (⟨"ClockZonesModel", "holds", "(I)Z"⟩, 32) := ⟨⟨by decide +kernel, by decide +kernel⟩, List.mem_of_getElem? (i := 751) (by decide +kernel), List.mem_of_getElem? (i := 977) (by decide +kernel), List.mem_of_getElem? (i := 978) (by decide +kernel)⟩
theorem lw_p38 : lw_okq (⟨"ClockZonesModel", "layOut", "(I)I"⟩, 32) := ⟨⟨by decide +kernel, by decide +kernel⟩, List.mem_of_getElem? (i := 751) (by decide +kernel), List.mem_of_getElem? (i := 985) (by decide +kernel), List.mem_of_getElem? (i := 986) (by decide +kernel)⟩
theorem lw_p39 : lw_okq (⟨"ClockZonesModel", "timeAll", "(I)V"⟩, 32) := ⟨⟨by decide +kernel, by decide +kernel⟩, List.mem_of_getElem? (i := 751) (by decide +kernel), List.mem_of_getElem? (i := 993) (by decide +kernel), List.mem_of_getElem? (i := 994) (by decide +kernel)⟩
theorem lw_p40 : lw_okq (⟨"ClockZonesModel", "behind", "(III)V"⟩, 32) := ⟨⟨by decide +kernel, by decide +kernel⟩, List.mem_of_getElem? (i := 751) (by decide +kernel), List.mem_of_getElem? (i := 997) (by decide +kernel), List.mem_of_getElem? (i := 998) (by decide +kernel)⟩
theorem lw_p41 : lw_okq (⟨"ClockZonesModel", "askGuards", "(II)V"⟩, 32) := ⟨⟨by decide +kernel, by decide +kernel⟩, List.mem_of_getElem? (i := 751) (by decide +kernel), List.mem_of_getElem? (i := 1001) (by decide +kernel), List.mem_of_getElem? (i := 1002) (by decide +kernel)⟩
theorem lw_p42 : lw_okq (⟨"ClockZonesModel", "setAt", "(II)I"⟩, 32) := ⟨⟨by decide +kernel, by decide +kernel⟩, List.mem_of_getElem? (i := 751) (by decide +kernel), List.mem_of_getElem? (i := 1005) (by decide +kernel), List.mem_of_getElem? (i := 1006) (by decide +kernel)⟩
theorem lw_p43 : lw_okq (⟨"ClockZonesModel", "ask", "(IIII)V"⟩, 32) := ⟨⟨by decide +kernel, by decide +kernel⟩, List.mem_of_getElem? (i := 751) (by decide +kernel), List.mem_of_getElem? (i := 1009) (by decide +kernel), List.mem_of_getElem? (i := 1010) (by decide +kernel)⟩
theorem lw_p44 : lw_okq (⟨"ClockZonesModel", "askLimits", "(III)V"⟩, 32) := ⟨⟨by decide +kernel, by decide +kernel⟩, List.mem_of_getElem? (i := 751) (by decide +kernel), List.mem_of_getElem? (i := 1013) (by decide +kernel), List.mem_of_getElem? (i := 1014) (by decide +kernel)⟩
theorem lw_p45 : lw_okq (⟨"ClockZonesModel", "areKept", "()Z"⟩, 32) := ⟨⟨by decide +kernel, by decide +kernel⟩, List.mem_of_getElem? (i := 751) (by decide +kernel), List.mem_of_getElem? (i := 1025) (by decide +kernel), List.mem_of_getElem? (i := 1026) (by decide +kernel)⟩
theorem lw_p46 : lw_okq (⟨"ClockZonesModel", "become", "()V"⟩, 32) := ⟨⟨by decide +kernel, by decide +kernel⟩, List.mem_of_getElem? (i := 751) (by decide +kernel), List.mem_of_getElem? (i := 1032) (by decide +kernel), List.mem_of_getElem? (i := 1033) (by decide +kernel)⟩
theorem lw_p47 : lw_okq (⟨"ClockZonesModel", "look", "()V"⟩, 32) := ⟨⟨by decide +kernel, by decide +kernel⟩, List.mem_of_getElem? (i := 751) (by decide +kernel), List.mem_of_getElem? (i := 1041) (by decide +kernel), List.mem_of_getElem? (i := 1042) (by decide +kernel)⟩
def lw_privs_3 : List (MethodName × Nat) := [(⟨"ClockZonesModel", "keepGuards", "(I)Z"⟩, 32), (⟨"ClockZonesModel", "set", "(I)V"⟩, 32), (⟨"ClockZonesModel", "isMet", "()Z"⟩, 32), (⟨"ClockZonesModel", "isState", "(I)Z"⟩, 32), (⟨"ClockZonesModel", "tells", "(II)I"⟩, 32), (⟨"ClockZonesModel", "holds", "(I)Z"⟩, 32), (⟨"ClockZonesModel", "layOut", "(I)I"⟩, 32), (⟨"ClockZonesModel", "timeAll", "(I)V"⟩, 32), (⟨"ClockZonesModel", "behind", "(III)V"⟩, 32), (⟨"ClockZonesModel", "askGuards", "(II)V"⟩, 32), (⟨"ClockZonesModel", "setAt", "(II)I"⟩, 32), (⟨"ClockZonesModel", "ask", "(IIII)V"⟩, 32), (⟨"ClockZonesModel", "askLimits", "(III)V"⟩, 32), (⟨"ClockZonesModel", "areKept", "()Z"⟩, 32), (⟨"ClockZonesModel", "become", "()V"⟩, 32), (⟨"ClockZonesModel", "look", "()V"⟩, 32)]
theorem lw_r3 : ∀ q ∈ lw_privs_3, lw_okq q := List.forall_mem_cons.mpr ⟨lw_p32, List.forall_mem_cons.mpr ⟨lw_p33, List.forall_mem_cons.mpr ⟨lw_p34, List.forall_mem_cons.mpr ⟨lw_p35, List.forall_mem_cons.mpr ⟨lw_p36, List.forall_mem_cons.mpr ⟨lw_p37, List.forall_mem_cons.mpr ⟨lw_p38, List.forall_mem_cons.mpr ⟨lw_p39, List.forall_mem_cons.mpr ⟨lw_p40, List.forall_mem_cons.mpr ⟨lw_p41, List.forall_mem_cons.mpr ⟨lw_p42, List.forall_mem_cons.mpr ⟨lw_p43, List.forall_mem_cons.mpr ⟨lw_p44, List.forall_mem_cons.mpr ⟨lw_p45, List.forall_mem_cons.mpr ⟨lw_p46, List.forall_mem_cons.mpr ⟨lw_p47, fun _ h => absurd h List.not_mem_nil⟩⟩⟩⟩⟩⟩⟩⟩⟩⟩⟩⟩⟩⟩⟩⟩
theorem lw_p48 : lw_okq (⟨"ClockZonesModel", "isOpen", "(I)Z"⟩, 32) := ⟨⟨by decide +kernel, by decide +kernel⟩, List.mem_of_getElem? (i := 751) (by decide +kernel), List.mem_of_getElem? (i := 1049) (by decide +kernel), List.mem_of_getElem? (i := 1050) (by decide +kernel)⟩
theorem lw_p49 : lw_okq (⟨"ClockZonesModel", "go", "(I)V"⟩, 32) := ⟨⟨by decide +kernel, by decide +kernel⟩, List.mem_of_getElem? (i := 751) (by decide +kernel), List.mem_of_getElem? (i := 1053) (by decide +kernel), List.mem_of_getElem? (i := 1054) (by decide +kernel)⟩
theorem lw_p50 : lw_okq (⟨"ClockZonesModel", "moveCount", "()I"⟩, 32) := ⟨⟨by decide +kernel, by decide +kernel⟩, List.mem_of_getElem? (i := 751) (by decide +kernel), List.mem_of_getElem? (i := 1073) (by decide +kernel), List.mem_of_getElem? (i := 1074) (by decide +kernel)⟩
theorem lw_p51 : lw_okq (⟨"ClockZonesModel", "mix", "(J)V"⟩, 32) := ⟨⟨by decide +kernel, by decide +kernel⟩, List.mem_of_getElem? (i := 751) (by decide +kernel), List.mem_of_getElem? (i := 1083) (by decide +kernel), List.mem_of_getElem? (i := 1084) (by decide +kernel)⟩
def lw_privs_4 : List (MethodName × Nat) := [(⟨"ClockZonesModel", "isOpen", "(I)Z"⟩, 32), (⟨"ClockZonesModel", "go", "(I)V"⟩, 32), (⟨"ClockZonesModel", "moveCount", "()I"⟩, 32), (⟨"ClockZonesModel", "mix", "(J)V"⟩, 32)]
theorem lw_r4 : ∀ q ∈ lw_privs_4, lw_okq q := List.forall_mem_cons.mpr ⟨lw_p48, List.forall_mem_cons.mpr ⟨lw_p49, List.forall_mem_cons.mpr ⟨lw_p50, List.forall_mem_cons.mpr ⟨lw_p51, fun _ h => absurd h List.not_mem_nil⟩⟩⟩⟩
def lw_privs : List (MethodName × Nat) := lw_privs_1 ++ (lw_privs_2 ++ (lw_privs_3 ++ (lw_privs_4)))
def lw_tbl : List Cond := k2_sels lw_privs ++ tables_1
theorem lw_privs_ok : ∀ q ∈ lw_privs, lw_okq q := by
  show ∀ q ∈ lw_privs_1 ++ (lw_privs_2 ++ (lw_privs_3 ++ (lw_privs_4))), lw_okq q
  exact List.forall_mem_append.mpr ⟨lw_r1, List.forall_mem_append.mpr ⟨lw_r2, List.forall_mem_append.mpr ⟨lw_r3, lw_r4⟩⟩⟩
def RX0 : String := "ClockZones$Edge"
def TX0 : u_T := fun k => match k with
  | 0 => ("ClockZones$Edge", "machine", "I", true)
  | 1 => ("ClockZones$Edge", "from", "I", true)
  | 2 => ("ClockZones$Edge", "to", "I", true)
  | 3 => ("ClockZones$Edge", "channel", "I", true)
  | 4 => ("ClockZones$Edge", "resets", "I", true)
  | _ => ("ClockZones$Edge", "guards", "LClockZones$TestList;", true)
def tyX0 : Nat → FieldType := fun k => match k with
  | 0 => .int
  | 1 => .int
  | 2 => .int
  | 3 => .int
  | 4 => .int
  | _ => .object "ClockZones$TestList"
abbrev wsX00 : List Cond := u_ws RX0 TX0 6
theorem nmX0 : ∀ a, a < 6 → ∀ b, b < 6 → a ≠ b → (TX0 a).2.1 ≠ (TX0 b).2.1 := by decide +kernel
theorem tyX0_ok : ∀ k, k < 6 → parseFieldDescriptor (TX0 k).2.2.1 = some (tyX0 k) := by decide +kernel
abbrev cX0_init : ByteArray := prog_2_method_1_code
def yX0_init : MethodName := ⟨RX0, "<init>", "(IIIII)V"⟩
abbrev cX0_isAnsweredBy : ByteArray := prog_2_method_2_code
def yX0_isAnsweredBy : MethodName := ⟨RX0, "isAnsweredBy", "(LClockZones$Edge;)Z"⟩
def RX1 : String := "ClockZones$Move"
def TX1 : u_T := fun k => match k with
  | 0 => ("ClockZones$Move", "first", "I", true)
  | 1 => ("ClockZones$Move", "second", "I", true)
  | 2 => ("ClockZones$Move", "call", "LClockZones$Edge;", true)
  | 3 => ("ClockZones$Move", "answer", "LClockZones$Edge;", true)
  | _ => ("ClockZones$Move", "resets", "I", true)
def tyX1 : Nat → FieldType := fun k => match k with
  | 0 => .int
  | 1 => .int
  | 2 => .object "ClockZones$Edge"
  | 3 => .object "ClockZones$Edge"
  | _ => .int
abbrev wsX10 : List Cond := u_ws RX1 TX1 5
theorem nmX1 : ∀ a, a < 5 → ∀ b, b < 5 → a ≠ b → (TX1 a).2.1 ≠ (TX1 b).2.1 := by decide +kernel
theorem tyX1_ok : ∀ k, k < 5 → parseFieldDescriptor (TX1 k).2.2.1 = some (tyX1 k) := by decide +kernel
abbrev cX1_init : ByteArray := prog_3_method_1_code
def yX1_init : MethodName := ⟨RX1, "<init>", "(IILClockZones$Edge;LClockZones$Edge;)V"⟩
abbrev cX1_comesAfter : ByteArray := prog_3_method_2_code
def yX1_comesAfter : MethodName := ⟨RX1, "comesAfter", "(LClockZones$Move;)Z"⟩
abbrev cX1_startsAt : ByteArray := prog_3_method_3_code
def yX1_startsAt : MethodName := ⟨RX1, "startsAt", "([I)Z"⟩
abbrev cX1_carry : ByteArray := prog_3_method_4_code
def yX1_carry : MethodName := ⟨RX1, "carry", "([I)V"⟩
abbrev cX1_sets : ByteArray := prog_3_method_5_code
def yX1_sets : MethodName := ⟨RX1, "sets", "(I)Z"⟩
abbrev cX1_guardsAllow : ByteArray := prog_3_method_6_code
def yX1_guardsAllow : MethodName := ⟨RX1, "guardsAllow", "([I)Z"⟩
abbrev cX1_guardsNarrow : ByteArray := prog_3_method_7_code
def yX1_guardsNarrow : MethodName := ⟨RX1, "guardsNarrow", "(LClockZones$Zone;)Z"⟩
def RX2 : String := "ClockZones$Net"
def TX2 : u_T := fun k => match k with
  | 0 => ("ClockZones$Net", "edges", "[LClockZones$Edge;", true)
  | 1 => ("ClockZones$Net", "edgeCount", "I", false)
  | 2 => ("ClockZones$Net", "moves", "[LClockZones$Move;", true)
  | 3 => ("ClockZones$Net", "moveCount", "I", false)
  | _ => ("ClockZones$Net", "limits", "[LClockZones$TestList;", true)
def tyX2 : Nat → FieldType := fun k => match k with
  | 0 => .array (.object "ClockZones$Edge")
  | 1 => .int
  | 2 => .array (.object "ClockZones$Move")
  | 3 => .int
  | _ => .array (.object "ClockZones$TestList")
abbrev wsX20 : List Cond := u_ws RX2 TX2 5
theorem nmX2 : ∀ a, a < 5 → ∀ b, b < 5 → a ≠ b → (TX2 a).2.1 ≠ (TX2 b).2.1 := by decide +kernel
theorem tyX2_ok : ∀ k, k < 5 → parseFieldDescriptor (TX2 k).2.2.1 = some (tyX2 k) := by decide +kernel
abbrev cX2_init : ByteArray := prog_4_method_1_code
def yX2_init : MethodName := ⟨RX2, "<init>", "()V"⟩
abbrev cX2_isEdge : ByteArray := prog_4_method_2_code
def yX2_isEdge : MethodName := ⟨RX2, "isEdge", "(I)Z"⟩
abbrev cX2_limitsOf : ByteArray := prog_4_method_3_code
def yX2_limitsOf : MethodName := ⟨RX2, "limitsOf", "(II)LClockZones$TestList;"⟩
abbrev cX2_addEdge : ByteArray := prog_4_method_4_code
def yX2_addEdge : MethodName := ⟨RX2, "addEdge", "(LClockZones$Edge;)I"⟩
abbrev cX2_insert : ByteArray := prog_4_method_5_code
def yX2_insert : MethodName := ⟨RX2, "insert", "(LClockZones$Move;)V"⟩
abbrev cX2_find : ByteArray := prog_4_method_6_code
def yX2_find : MethodName := ⟨RX2, "find", "(II)LClockZones$Move;"⟩
abbrev cX2_clear : ByteArray := prog_4_method_7_code
def yX2_clear : MethodName := ⟨RX2, "clear", "()V"⟩
abbrev cX2_limitsAllow : ByteArray := prog_4_method_8_code
def yX2_limitsAllow : MethodName := ⟨RX2, "limitsAllow", "([I[I)Z"⟩
abbrev cX2_limitsNarrow : ByteArray := prog_4_method_9_code
def yX2_limitsNarrow : MethodName := ⟨RX2, "limitsNarrow", "([ILClockZones$Zone;)Z"⟩
abbrev cX2_greatestOf : ByteArray := prog_4_method_10_code
def yX2_greatestOf : MethodName := ⟨RX2, "greatestOf", "(I)I"⟩
abbrev cX2_guardCount : ByteArray := prog_4_method_11_code
def yX2_guardCount : MethodName := ⟨RX2, "guardCount", "()I"⟩
abbrev cX2_limitCount : ByteArray := prog_4_method_12_code
def yX2_limitCount : MethodName := ⟨RX2, "limitCount", "()I"⟩
def RX3 : String := "ClockZones$Search"
def TX3 : u_T := fun k => match k with
  | 0 => ("ClockZones$Search", "states", "LClockZones$States;", true)
  | 1 => ("ClockZones$Search", "isNeeded", "Z", false)
  | 2 => ("ClockZones$Search", "timesDone", "I", false)
  | 3 => ("ClockZones$Search", "facts", "[I", true)
  | 4 => ("ClockZones$Search", "zone", "LClockZones$Zone;", true)
  | _ => ("ClockZones$Search", "most", "[I", true)
def tyX3 : Nat → FieldType := fun k => match k with
  | 0 => .object "ClockZones$States"
  | 1 => .boolean
  | 2 => .int
  | 3 => .array .int
  | 4 => .object "ClockZones$Zone"
  | _ => .array .int
abbrev wsX30 : List Cond := u_ws RX3 TX3 6
theorem nmX3 : ∀ a, a < 6 → ∀ b, b < 6 → a ≠ b → (TX3 a).2.1 ≠ (TX3 b).2.1 := by decide +kernel
theorem tyX3_ok : ∀ k, k < 6 → parseFieldDescriptor (TX3 k).2.2.1 = some (tyX3 k) := by decide +kernel
abbrev cX3_init : ByteArray := prog_5_method_1_code
def yX3_init : MethodName := ⟨RX3, "<init>", "()V"⟩
abbrev cX3_meetAll : ByteArray := prog_5_method_2_code
def yX3_meetAll : MethodName := ⟨RX3, "meetAll", "(LClockZones$Net;I)I"⟩
abbrev cX3_prepare : ByteArray := prog_5_method_3_code
def yX3_prepare : MethodName := ⟨RX3, "prepare", "(LClockZones$Net;)V"⟩
abbrev cX3_standAtStart : ByteArray := prog_5_method_4_code
def yX3_standAtStart : MethodName := ⟨RX3, "standAtStart", "()V"⟩
abbrev cX3_goesBy : ByteArray := prog_5_method_5_code
def yX3_goesBy : MethodName := ⟨RX3, "goesBy", "(ILClockZones$Move;)Z"⟩
abbrev cX3_settles : ByteArray := prog_5_method_6_code
def yX3_settles : MethodName := ⟨RX3, "settles", "(LClockZones$Net;)Z"⟩
def RX4 : String := "ClockZones$States"
def TX4 : u_T := fun k => match k with
  | 0 => ("ClockZones$States", "size", "I", false)
  | 1 => ("ClockZones$States", "facts", "[I", true)
  | _ => ("ClockZones$States", "bounds", "[I", true)
def tyX4 : Nat → FieldType := fun k => match k with
  | 0 => .int
  | 1 => .array .int
  | _ => .array .int
abbrev wsX40 : List Cond := u_ws RX4 TX4 3
theorem nmX4 : ∀ a, a < 3 → ∀ b, b < 3 → a ≠ b → (TX4 a).2.1 ≠ (TX4 b).2.1 := by decide +kernel
theorem tyX4_ok : ∀ k, k < 3 → parseFieldDescriptor (TX4 k).2.2.1 = some (tyX4 k) := by decide +kernel
abbrev cX4_init : ByteArray := prog_6_method_1_code
def yX4_init : MethodName := ⟨RX4, "<init>", "()V"⟩
abbrev cX4_isMet : ByteArray := prog_6_method_2_code
def yX4_isMet : MethodName := ⟨RX4, "isMet", "(I)Z"⟩
abbrev cX4_isStep : ByteArray := prog_6_method_3_code
def yX4_isStep : MethodName := ⟨RX4, "isStep", "(II)Z"⟩
abbrev cX4_fact : ByteArray := prog_6_method_4_code
def yX4_fact : MethodName := ⟨RX4, "fact", "(II)I"⟩
abbrev cX4_boundOf : ByteArray := prog_6_method_5_code
def yX4_boundOf : MethodName := ⟨RX4, "boundOf", "(III)I"⟩
abbrev cX4_add : ByteArray := prog_6_method_6_code
def yX4_add : MethodName := ⟨RX4, "add", "([ILClockZones$Zone;)V"⟩
abbrev cX4_copyFacts : ByteArray := prog_6_method_7_code
def yX4_copyFacts : MethodName := ⟨RX4, "copyFacts", "(I[I)V"⟩
abbrev cX4_copyZone : ByteArray := prog_6_method_8_code
def yX4_copyZone : MethodName := ⟨RX4, "copyZone", "(ILClockZones$Zone;)V"⟩
abbrev cX4_onWay : ByteArray := prog_6_method_9_code
def yX4_onWay : MethodName := ⟨RX4, "onWay", "(II)I"⟩
abbrev cX4_isAt : ByteArray := prog_6_method_10_code
def yX4_isAt : MethodName := ⟨RX4, "isAt", "(I[I)Z"⟩
abbrev cX4_firstAt : ByteArray := prog_6_method_11_code
def yX4_firstAt : MethodName := ⟨RX4, "firstAt", "([I)I"⟩
abbrev cX4_firstHolding : ByteArray := prog_6_method_12_code
def yX4_firstHolding : MethodName := ⟨RX4, "firstHolding", "([I[I)I"⟩
abbrev cX4_cover : ByteArray := prog_6_method_13_code
def yX4_cover : MethodName := ⟨RX4, "cover", "([ILClockZones$Zone;)Z"⟩
abbrev cX4_takesIn : ByteArray := prog_6_method_14_code
def yX4_takesIn : MethodName := ⟨RX4, "takesIn", "(ILClockZones$Zone;)Z"⟩
abbrev cX4_holds : ByteArray := prog_6_method_15_code
def yX4_holds : MethodName := ⟨RX4, "holds", "(I[I)Z"⟩
def RX5 : String := "ClockZones$Test"
def TX5 : u_T := fun k => match k with
  | 0 => ("ClockZones$Test", "clock", "I", true)
  | 1 => ("ClockZones$Test", "sort", "I", true)
  | _ => ("ClockZones$Test", "number", "I", true)
def tyX5 : Nat → FieldType := fun k => match k with
  | 0 => .int
  | 1 => .int
  | _ => .int
abbrev wsX50 : List Cond := u_ws RX5 TX5 3
theorem nmX5 : ∀ a, a < 3 → ∀ b, b < 3 → a ≠ b → (TX5 a).2.1 ≠ (TX5 b).2.1 := by decide +kernel
theorem tyX5_ok : ∀ k, k < 3 → parseFieldDescriptor (TX5 k).2.2.1 = some (tyX5 k) := by decide +kernel
abbrev cX5_init : ByteArray := prog_7_method_1_code
def yX5_init : MethodName := ⟨RX5, "<init>", "(III)V"⟩
abbrev cX5_isCeiling : ByteArray := prog_7_method_2_code
def yX5_isCeiling : MethodName := ⟨RX5, "isCeiling", "()Z"⟩
abbrev cX5_isFloor : ByteArray := prog_7_method_3_code
def yX5_isFloor : MethodName := ⟨RX5, "isFloor", "()Z"⟩
abbrev cX5_ceiling : ByteArray := prog_7_method_4_code
def yX5_ceiling : MethodName := ⟨RX5, "ceiling", "()I"⟩
abbrev cX5_floor : ByteArray := prog_7_method_5_code
def yX5_floor : MethodName := ⟨RX5, "floor", "()I"⟩
abbrev cX5_mostParts : ByteArray := prog_7_method_6_code
def yX5_mostParts : MethodName := ⟨RX5, "mostParts", "()I"⟩
abbrev cX5_leastParts : ByteArray := prog_7_method_7_code
def yX5_leastParts : MethodName := ⟨RX5, "leastParts", "()I"⟩
abbrev cX5_allows : ByteArray := prog_7_method_8_code
def yX5_allows : MethodName := ⟨RX5, "allows", "(I)Z"⟩
def RX6 : String := "ClockZones$TestList"
def TX6 : u_T := fun k => match k with
  | 0 => ("ClockZones$TestList", "tests", "[LClockZones$Test;", true)
  | _ => ("ClockZones$TestList", "size", "I", false)
def tyX6 : Nat → FieldType := fun k => match k with
  | 0 => .array (.object "ClockZones$Test")
  | _ => .int
abbrev wsX60 : List Cond := u_ws RX6 TX6 2
theorem nmX6 : ∀ a, a < 2 → ∀ b, b < 2 → a ≠ b → (TX6 a).2.1 ≠ (TX6 b).2.1 := by decide +kernel
theorem tyX6_ok : ∀ k, k < 2 → parseFieldDescriptor (TX6 k).2.2.1 = some (tyX6 k) := by decide +kernel
abbrev cX6_init : ByteArray := prog_8_method_1_code
def yX6_init : MethodName := ⟨RX6, "<init>", "()V"⟩
abbrev cX6_add : ByteArray := prog_8_method_2_code
def yX6_add : MethodName := ⟨RX6, "add", "(LClockZones$Test;)V"⟩
abbrev cX6_allow : ByteArray := prog_8_method_3_code
def yX6_allow : MethodName := ⟨RX6, "allow", "([I)Z"⟩
abbrev cX6_narrow : ByteArray := prog_8_method_4_code
def yX6_narrow : MethodName := ⟨RX6, "narrow", "(LClockZones$Zone;)Z"⟩
abbrev cX6_greatestNumber : ByteArray := prog_8_method_5_code
def yX6_greatestNumber : MethodName := ⟨RX6, "greatestNumber", "(I)I"⟩
def RX7 : String := "ClockZones$Timetable"
def TX7 : u_T := fun k => match k with
  | 0 => ("ClockZones$Timetable", "earliest", "[I", true)
  | 1 => ("ClockZones$Timetable", "visited", "[I", true)
  | 2 => ("ClockZones$Timetable", "lastSet", "[I", true)
  | 3 => ("ClockZones$Timetable", "gapFrom", "[I", true)
  | 4 => ("ClockZones$Timetable", "gapTo", "[I", true)
  | 5 => ("ClockZones$Timetable", "gapLeast", "[I", true)
  | _ => ("ClockZones$Timetable", "gapCount", "I", false)
def tyX7 : Nat → FieldType := fun k => match k with
  | 0 => .array .int
  | 1 => .array .int
  | 2 => .array .int
  | 3 => .array .int
  | 4 => .array .int
  | 5 => .array .int
  | _ => .int
abbrev wsX70 : List Cond := u_ws RX7 TX7 7
theorem nmX7 : ∀ a, a < 7 → ∀ b, b < 7 → a ≠ b → (TX7 a).2.1 ≠ (TX7 b).2.1 := by decide +kernel
theorem tyX7_ok : ∀ k, k < 7 → parseFieldDescriptor (TX7 k).2.2.1 = some (tyX7 k) := by decide +kernel
abbrev cX7_init : ByteArray := prog_9_method_1_code
def yX7_init : MethodName := ⟨RX7, "<init>", "()V"⟩
abbrev cX7_fill : ByteArray := prog_9_method_2_code
def yX7_fill : MethodName := ⟨RX7, "fill", "(LClockZones$Net;LClockZones$States;I)V"⟩
abbrev cX7_visit : ByteArray := prog_9_method_3_code
def yX7_visit : MethodName := ⟨RX7, "visit", "(LClockZones$States;II)V"⟩
abbrev cX7_addStep : ByteArray := prog_9_method_4_code
def yX7_addStep : MethodName := ⟨RX7, "addStep", "(LClockZones$Move;I)V"⟩
abbrev cX7_addLimits : ByteArray := prog_9_method_5_code
def yX7_addLimits : MethodName := ⟨RX7, "addLimits", "(LClockZones$Net;LClockZones$States;II)V"⟩
abbrev cX7_addTests : ByteArray := prog_9_method_6_code
def yX7_addTests : MethodName := ⟨RX7, "addTests", "(LClockZones$TestList;I)V"⟩
abbrev cX7_addGap : ByteArray := prog_9_method_7_code
def yX7_addGap : MethodName := ⟨RX7, "addGap", "(III)V"⟩
abbrev cX7_settle : ByteArray := prog_9_method_8_code
def yX7_settle : MethodName := ⟨RX7, "settle", "()V"⟩
def RX8 : String := "ClockZones$Walk"
def TX8 : u_T := fun k => match k with
  | 0 => ("ClockZones$Walk", "isGoing", "Z", false)
  | 1 => ("ClockZones$Walk", "places", "[I", true)
  | 2 => ("ClockZones$Walk", "amounts", "[I", true)
  | 3 => ("ClockZones$Walk", "allTime", "I", false)
  | 4 => ("ClockZones$Walk", "stepCount", "I", false)
  | 5 => ("ClockZones$Walk", "nextPlaces", "[I", true)
  | _ => ("ClockZones$Walk", "nextAmounts", "[I", true)
def tyX8 : Nat → FieldType := fun k => match k with
  | 0 => .boolean
  | 1 => .array .int
  | 2 => .array .int
  | 3 => .int
  | 4 => .int
  | 5 => .array .int
  | _ => .array .int
abbrev wsX80 : List Cond := u_ws RX8 TX8 7
theorem nmX8 : ∀ a, a < 7 → ∀ b, b < 7 → a ≠ b → (TX8 a).2.1 ≠ (TX8 b).2.1 := by decide +kernel
theorem tyX8_ok : ∀ k, k < 7 → parseFieldDescriptor (TX8 k).2.2.1 = some (tyX8 k) := by decide +kernel
abbrev cX8_init : ByteArray := prog_10_method_1_code
def yX8_init : MethodName := ⟨RX8, "<init>", "()V"⟩
abbrev cX8_start : ByteArray := prog_10_method_2_code
def yX8_start : MethodName := ⟨RX8, "start", "(LClockZones$Net;)Z"⟩
abbrev cX8_greatestAmount : ByteArray := prog_10_method_3_code
def yX8_greatestAmount : MethodName := ⟨RX8, "greatestAmount", "()I"⟩
abbrev cX8_linger : ByteArray := prog_10_method_4_code
def yX8_linger : MethodName := ⟨RX8, "linger", "(LClockZones$Net;I)Z"⟩
abbrev cX8_take : ByteArray := prog_10_method_5_code
def yX8_take : MethodName := ⟨RX8, "take", "(LClockZones$Net;LClockZones$Move;)Z"⟩
def RX9 : String := "ClockZones$Zone"
def TX9 : u_T := fun k => match k with
  | _ => ("ClockZones$Zone", "bounds", "[I", true)
def tyX9 : Nat → FieldType := fun k => match k with
  | _ => .array .int
abbrev wsX90 : List Cond := u_ws RX9 TX9 1
theorem nmX9 : ∀ a, a < 1 → ∀ b, b < 1 → a ≠ b → (TX9 a).2.1 ≠ (TX9 b).2.1 := by decide +kernel
theorem tyX9_ok : ∀ k, k < 1 → parseFieldDescriptor (TX9 k).2.2.1 = some (tyX9 k) := by decide +kernel
abbrev cX9_init : ByteArray := prog_11_method_1_code
def yX9_init : MethodName := ⟨RX9, "<init>", "()V"⟩
abbrev cX9_sum : ByteArray := prog_11_method_2_code
def yX9_sum : MethodName := ⟨RX9, "sum", "(II)I"⟩
abbrev cX9_putAllClocksAtZero : ByteArray := prog_11_method_3_code
def yX9_putAllClocksAtZero : MethodName := ⟨RX9, "putAllClocksAtZero", "()V"⟩
abbrev cX9_narrow : ByteArray := prog_11_method_4_code
def yX9_narrow : MethodName := ⟨RX9, "narrow", "(III)Z"⟩
abbrev cX9_setToZero : ByteArray := prog_11_method_5_code
def yX9_setToZero : MethodName := ⟨RX9, "setToZero", "(I)V"⟩
abbrev cX9_letTimeGoBy : ByteArray := prog_11_method_6_code
def yX9_letTimeGoBy : MethodName := ⟨RX9, "letTimeGoBy", "()V"⟩
abbrev cX9_widen : ByteArray := prog_11_method_7_code
def yX9_widen : MethodName := ⟨RX9, "widen", "([I)V"⟩
abbrev cX9_close : ByteArray := prog_11_method_8_code
def yX9_close : MethodName := ⟨RX9, "close", "()V"⟩
def RX10 : String := "ClockZones"
def TX10 : u_T := fun k => match k with
  | 0 => ("ClockZones", "net", "LClockZones$Net;", true)
  | 1 => ("ClockZones", "search", "LClockZones$Search;", true)
  | 2 => ("ClockZones", "walk", "LClockZones$Walk;", true)
  | 3 => ("ClockZones", "timetable", "LClockZones$Timetable;", true)
  | 4 => ("ClockZones", "askedPlaces", "[I", true)
  | _ => ("ClockZones", "askedAmounts", "[I", true)
def tyX10 : Nat → FieldType := fun k => match k with
  | 0 => .object "ClockZones$Net"
  | 1 => .object "ClockZones$Search"
  | 2 => .object "ClockZones$Walk"
  | 3 => .object "ClockZones$Timetable"
  | 4 => .array .int
  | _ => .array .int
abbrev wsX100 : List Cond := u_ws RX10 TX10 6
theorem nmX10 : ∀ a, a < 6 → ∀ b, b < 6 → a ≠ b → (TX10 a).2.1 ≠ (TX10 b).2.1 := by decide +kernel
theorem tyX10_ok : ∀ k, k < 6 → parseFieldDescriptor (TX10 k).2.2.1 = some (tyX10 k) := by decide +kernel
abbrev cX10_init : ByteArray := prog_1_method_1_code
def yX10_init : MethodName := ⟨RX10, "<init>", "()V"⟩
abbrev cX10_edge : ByteArray := prog_1_method_2_code
def yX10_edge : MethodName := ⟨RX10, "edge", "(IIIII)I"⟩
abbrev cX10_guard : ByteArray := prog_1_method_3_code
def yX10_guard : MethodName := ⟨RX10, "guard", "(IIII)I"⟩
abbrev cX10_limit : ByteArray := prog_1_method_4_code
def yX10_limit : MethodName := ⟨RX10, "limit", "(IIIII)I"⟩
abbrev cX10_wipe : ByteArray := prog_1_method_5_code
def yX10_wipe : MethodName := ⟨RX10, "wipe", "()I"⟩
abbrev cX10_explore : ByteArray := prog_1_method_6_code
def yX10_explore : MethodName := ⟨RX10, "explore", "(I)I"⟩
abbrev cX10_state : ByteArray := prog_1_method_7_code
def yX10_state : MethodName := ⟨RX10, "state", "(II)I"⟩
abbrev cX10_bound : ByteArray := prog_1_method_8_code
def yX10_bound : MethodName := ⟨RX10, "bound", "(III)I"⟩
abbrev cX10_reach : ByteArray := prog_1_method_9_code
def yX10_reach : MethodName := ⟨RX10, "reach", "(III)I"⟩
abbrev cX10_has : ByteArray := prog_1_method_10_code
def yX10_has : MethodName := ⟨RX10, "has", "(IIII)I"⟩
abbrev cX10_way : ByteArray := prog_1_method_11_code
def yX10_way : MethodName := ⟨RX10, "way", "(III)I"⟩
abbrev cX10_moment : ByteArray := prog_1_method_12_code
def yX10_moment : MethodName := ⟨RX10, "moment", "(II)I"⟩
abbrev cX10_greatest : ByteArray := prog_1_method_13_code
def yX10_greatest : MethodName := ⟨RX10, "greatest", "(I)I"⟩
abbrev cX10_begin : ByteArray := prog_1_method_14_code
def yX10_begin : MethodName := ⟨RX10, "begin", "()I"⟩
abbrev cX10_pass : ByteArray := prog_1_method_15_code
def yX10_pass : MethodName := ⟨RX10, "pass", "(I)I"⟩
abbrev cX10_move : ByteArray := prog_1_method_16_code
def yX10_move : MethodName := ⟨RX10, "move", "(II)I"⟩
abbrev cX10_run : ByteArray := prog_1_method_17_code
def yX10_run : MethodName := ⟨RX10, "run", "(I)I"⟩
abbrev cX10_here : ByteArray := prog_1_method_18_code
def yX10_here : MethodName := ⟨RX10, "here", "()I"⟩
abbrev cX10_about : ByteArray := prog_1_method_19_code
def yX10_about : MethodName := ⟨RX10, "about", "(II)I"⟩
abbrev cX10_count : ByteArray := prog_1_method_20_code
def yX10_count : MethodName := ⟨RX10, "count", "(I)I"⟩
abbrev cX10_digest : ByteArray := prog_1_method_21_code
def yX10_digest : MethodName := ⟨RX10, "digest", "()J"⟩
abbrev cX10_isMachine : ByteArray := prog_1_method_22_code
def yX10_isMachine : MethodName := ⟨RX10, "isMachine", "(I)Z"⟩
abbrev cX10_isPlace : ByteArray := prog_1_method_23_code
def yX10_isPlace : MethodName := ⟨RX10, "isPlace", "(I)Z"⟩
abbrev cX10_isPlaceOrAny : ByteArray := prog_1_method_24_code
def yX10_isPlaceOrAny : MethodName := ⟨RX10, "isPlaceOrAny", "(I)Z"⟩
abbrev cX10_isClockOrZero : ByteArray := prog_1_method_25_code
def yX10_isClockOrZero : MethodName := ⟨RX10, "isClockOrZero", "(I)Z"⟩
abbrev cX10_isClock : ByteArray := prog_1_method_26_code
def yX10_isClock : MethodName := ⟨RX10, "isClock", "(I)Z"⟩
abbrev cX10_isNumber : ByteArray := prog_1_method_27_code
def yX10_isNumber : MethodName := ⟨RX10, "isNumber", "(I)Z"⟩
abbrev cX10_isAmount : ByteArray := prog_1_method_28_code
def yX10_isAmount : MethodName := ⟨RX10, "isAmount", "(I)Z"⟩
abbrev cX10_forgetFindings : ByteArray := prog_1_method_29_code
def yX10_forgetFindings : MethodName := ⟨RX10, "forgetFindings", "()V"⟩
abbrev cX10_addTest : ByteArray := prog_1_method_30_code
def yX10_addTest : MethodName := ⟨RX10, "addTest", "(LClockZones$TestList;III)I"⟩
abbrev cX10_mix : ByteArray := prog_1_method_31_code
def yX10_mix : MethodName := ⟨RX10, "mix", "(JJ)J"⟩
abbrev cX10_mixTests : ByteArray := prog_1_method_32_code
def yX10_mixTests : MethodName := ⟨RX10, "mixTests", "(JLClockZones$TestList;)J"⟩
abbrev cX10_mixEdges : ByteArray := prog_1_method_33_code
def yX10_mixEdges : MethodName := ⟨RX10, "mixEdges", "(J)J"⟩
abbrev cX10_mixLimits : ByteArray := prog_1_method_34_code
def yX10_mixLimits : MethodName := ⟨RX10, "mixLimits", "(J)J"⟩
abbrev cX10_mixStates : ByteArray := prog_1_method_35_code
def yX10_mixStates : MethodName := ⟨RX10, "mixStates", "(J)J"⟩
abbrev cX10_mixWalk : ByteArray := prog_1_method_36_code
def yX10_mixWalk : MethodName := ⟨RX10, "mixWalk", "(J)J"⟩
def RX11 : String := "ClockZonesModel"
def TX11 : u_T := fun k => match k with
  | 0 => ("ClockZonesModel", "edges", "I", false)
  | 1 => ("ClockZonesModel", "machine", "[I", true)
  | 2 => ("ClockZonesModel", "from", "[I", true)
  | 3 => ("ClockZonesModel", "to", "[I", true)
  | 4 => ("ClockZonesModel", "channel", "[I", true)
  | 5 => ("ClockZonesModel", "resets", "[I", true)
  | 6 => ("ClockZonesModel", "guards", "[I", true)
  | 7 => ("ClockZonesModel", "guardOf", "[I", true)
  | 8 => ("ClockZonesModel", "limits", "[I", true)
  | 9 => ("ClockZonesModel", "limitOf", "[I", true)
  | 10 => ("ClockZonesModel", "isNeeded", "Z", false)
  | 11 => ("ClockZonesModel", "explored", "I", false)
  | 12 => ("ClockZonesModel", "states", "I", false)
  | 13 => ("ClockZonesModel", "places", "[I", true)
  | 14 => ("ClockZonesModel", "zones", "[I", true)
  | 15 => ("ClockZonesModel", "parent", "[I", true)
  | 16 => ("ClockZonesModel", "moveE", "[I", true)
  | 17 => ("ClockZonesModel", "moveF", "[I", true)
  | 18 => ("ClockZonesModel", "moves", "[I", true)
  | 19 => ("ClockZonesModel", "z", "[I", true)
  | 20 => ("ClockZonesModel", "ahead", "[I", true)
  | 21 => ("ClockZonesModel", "at", "[I", true)
  | 22 => ("ClockZonesModel", "amounts", "[I", true)
  | 23 => ("ClockZonesModel", "way", "[I", true)
  | 24 => ("ClockZonesModel", "moments", "[I", true)
  | 25 => ("ClockZonesModel", "isMoved", "Z", false)
  | 26 => ("ClockZonesModel", "runs", "Z", false)
  | 27 => ("ClockZonesModel", "runAt", "[I", true)
  | 28 => ("ClockZonesModel", "runClock", "[I", true)
  | 29 => ("ClockZonesModel", "runTime", "I", false)
  | 30 => ("ClockZonesModel", "runMoves", "I", false)
  | _ => ("ClockZonesModel", "h", "J", false)
def tyX11 : Nat → FieldType := fun k => match k with
  | 0 => .int
  | 1 => .array .int
  | 2 => .array .int
  | 3 => .array .int
  | 4 => .array .int
  | 5 => .array .int
  | 6 => .array .int
  | 7 => .array .int
  | 8 => .array .int
  | 9 => .array .int
  | 10 => .boolean
  | 11 => .int
  | 12 => .int
  | 13 => .array .int
  | 14 => .array .int
  | 15 => .array .int
  | 16 => .array .int
  | 17 => .array .int
  | 18 => .array .int
  | 19 => .array .int
  | 20 => .array .int
  | 21 => .array .int
  | 22 => .array .int
  | 23 => .array .int
  | 24 => .array .int
  | 25 => .boolean
  | 26 => .boolean
  | 27 => .array .int
  | 28 => .array .int
  | 29 => .int
  | 30 => .int
  | _ => .long
abbrev wsX110 : List Cond := u_ws RX11 TX11 32
theorem nmX11 : ∀ a, a < 32 → ∀ b, b < 32 → a ≠ b → (TX11 a).2.1 ≠ (TX11 b).2.1 := by decide +kernel
theorem tyX11_ok : ∀ k, k < 32 → parseFieldDescriptor (TX11 k).2.2.1 = some (tyX11 k) := by decide +kernel
abbrev cX11_init : ByteArray := prog_13_method_1_code
def yX11_init : MethodName := ⟨RX11, "<init>", "()V"⟩
abbrev cX11_in : ByteArray := prog_13_method_3_code
def yX11_in : MethodName := ⟨RX11, "in", "(III)Z"⟩
abbrev cX11_isMachine : ByteArray := prog_13_method_4_code
def yX11_isMachine : MethodName := ⟨RX11, "isMachine", "(I)Z"⟩
abbrev cX11_isPlace : ByteArray := prog_13_method_5_code
def yX11_isPlace : MethodName := ⟨RX11, "isPlace", "(I)Z"⟩
abbrev cX11_isClock : ByteArray := prog_13_method_6_code
def yX11_isClock : MethodName := ⟨RX11, "isClock", "(I)Z"⟩
abbrev cX11_isEdge : ByteArray := prog_13_method_7_code
def yX11_isEdge : MethodName := ⟨RX11, "isEdge", "(I)Z"⟩
abbrev cX11_changed : ByteArray := prog_13_method_8_code
def yX11_changed : MethodName := ⟨RX11, "changed", "()V"⟩
abbrev cX11_edge : ByteArray := prog_13_method_9_code
def yX11_edge : MethodName := ⟨RX11, "edge", "(IIIII)I"⟩
abbrev cX11_guard : ByteArray := prog_13_method_10_code
def yX11_guard : MethodName := ⟨RX11, "guard", "(IIII)I"⟩
abbrev cX11_limit : ByteArray := prog_13_method_11_code
def yX11_limit : MethodName := ⟨RX11, "limit", "(IIIII)I"⟩
abbrev cX11_wipe : ByteArray := prog_13_method_12_code
def yX11_wipe : MethodName := ⟨RX11, "wipe", "()I"⟩
abbrev cX11_sum : ByteArray := prog_13_method_13_code
def yX11_sum : MethodName := ⟨RX11, "sum", "(II)I"⟩
abbrev cX11_close : ByteArray := prog_13_method_14_code
def yX11_close : MethodName := ⟨RX11, "close", "()Z"⟩
abbrev cX11_bind : ByteArray := prog_13_method_15_code
def yX11_bind : MethodName := ⟨RX11, "bind", "(III)V"⟩
abbrev cX11_test : ByteArray := prog_13_method_16_code
def yX11_test : MethodName := ⟨RX11, "test", "(III)V"⟩
abbrev cX11_keepLimits : ByteArray := prog_13_method_17_code
def yX11_keepLimits : MethodName := ⟨RX11, "keepLimits", "()Z"⟩
abbrev cX11_keepGuards : ByteArray := prog_13_method_18_code
def yX11_keepGuards : MethodName := ⟨RX11, "keepGuards", "(I)Z"⟩
abbrev cX11_set : ByteArray := prog_13_method_19_code
def yX11_set : MethodName := ⟨RX11, "set", "(I)V"⟩
abbrev cX11_greatestOf : ByteArray := prog_13_method_20_code
def yX11_greatestOf : MethodName := ⟨RX11, "greatestOf", "(I)I"⟩
abbrev cX11_widen : ByteArray := prog_13_method_21_code
def yX11_widen : MethodName := ⟨RX11, "widen", "()Z"⟩
abbrev cX11_later : ByteArray := prog_13_method_22_code
def yX11_later : MethodName := ⟨RX11, "later", "()Z"⟩
abbrev cX11_isMove : ByteArray := prog_13_method_23_code
def yX11_isMove : MethodName := ⟨RX11, "isMove", "(II)Z"⟩
abbrev cX11_isMet : ByteArray := prog_13_method_24_code
def yX11_isMet : MethodName := ⟨RX11, "isMet", "()Z"⟩
abbrev cX11_meet : ByteArray := prog_13_method_25_code
def yX11_meet : MethodName := ⟨RX11, "meet", "(III)V"⟩
abbrev cX11_follows : ByteArray := prog_13_method_26_code
def yX11_follows : MethodName := ⟨RX11, "follows", "(III)Z"⟩
abbrev cX11_explore : ByteArray := prog_13_method_27_code
def yX11_explore : MethodName := ⟨RX11, "explore", "(I)I"⟩
abbrev cX11_isState : ByteArray := prog_13_method_28_code
def yX11_isState : MethodName := ⟨RX11, "isState", "(I)Z"⟩
abbrev cX11_state : ByteArray := prog_13_method_29_code
def yX11_state : MethodName := ⟨RX11, "state", "(II)I"⟩
abbrev cX11_tells : ByteArray := prog_13_method_30_code
def yX11_tells : MethodName := ⟨RX11, "tells", "(II)I"⟩
abbrev cX11_bound : ByteArray := prog_13_method_31_code
def yX11_bound : MethodName := ⟨RX11, "bound", "(III)I"⟩
abbrev cX11_reach : ByteArray := prog_13_method_32_code
def yX11_reach : MethodName := ⟨RX11, "reach", "(III)I"⟩
abbrev cX11_holds : ByteArray := prog_13_method_33_code
def yX11_holds : MethodName := ⟨RX11, "holds", "(I)Z"⟩
abbrev cX11_has : ByteArray := prog_13_method_34_code
def yX11_has : MethodName := ⟨RX11, "has", "(IIII)I"⟩
abbrev cX11_layOut : ByteArray := prog_13_method_35_code
def yX11_layOut : MethodName := ⟨RX11, "layOut", "(I)I"⟩
abbrev cX11_way : ByteArray := prog_13_method_36_code
def yX11_way : MethodName := ⟨RX11, "way", "(III)I"⟩
abbrev cX11_behind : ByteArray := prog_13_method_37_code
def yX11_behind : MethodName := ⟨RX11, "behind", "(III)V"⟩
abbrev cX11_ask : ByteArray := prog_13_method_38_code
def yX11_ask : MethodName := ⟨RX11, "ask", "(IIII)V"⟩
abbrev cX11_setAt : ByteArray := prog_13_method_39_code
def yX11_setAt : MethodName := ⟨RX11, "setAt", "(II)I"⟩
abbrev cX11_askGuards : ByteArray := prog_13_method_40_code
def yX11_askGuards : MethodName := ⟨RX11, "askGuards", "(II)V"⟩
abbrev cX11_askLimits : ByteArray := prog_13_method_41_code
def yX11_askLimits : MethodName := ⟨RX11, "askLimits", "(III)V"⟩
abbrev cX11_timeAll : ByteArray := prog_13_method_42_code
def yX11_timeAll : MethodName := ⟨RX11, "timeAll", "(I)V"⟩
abbrev cX11_moment : ByteArray := prog_13_method_43_code
def yX11_moment : MethodName := ⟨RX11, "moment", "(II)I"⟩
abbrev cX11_greatest : ByteArray := prog_13_method_44_code
def yX11_greatest : MethodName := ⟨RX11, "greatest", "(I)I"⟩
abbrev cX11_passes : ByteArray := prog_13_method_45_code
def yX11_passes : MethodName := ⟨RX11, "passes", "(III)Z"⟩
abbrev cX11_areKept : ByteArray := prog_13_method_46_code
def yX11_areKept : MethodName := ⟨RX11, "areKept", "()Z"⟩
abbrev cX11_look : ByteArray := prog_13_method_47_code
def yX11_look : MethodName := ⟨RX11, "look", "()V"⟩
abbrev cX11_become : ByteArray := prog_13_method_48_code
def yX11_become : MethodName := ⟨RX11, "become", "()V"⟩
abbrev cX11_begin : ByteArray := prog_13_method_49_code
def yX11_begin : MethodName := ⟨RX11, "begin", "()I"⟩
abbrev cX11_pass : ByteArray := prog_13_method_50_code
def yX11_pass : MethodName := ⟨RX11, "pass", "(I)I"⟩
abbrev cX11_isOpen : ByteArray := prog_13_method_51_code
def yX11_isOpen : MethodName := ⟨RX11, "isOpen", "(I)Z"⟩
abbrev cX11_go : ByteArray := prog_13_method_52_code
def yX11_go : MethodName := ⟨RX11, "go", "(I)V"⟩
abbrev cX11_move : ByteArray := prog_13_method_53_code
def yX11_move : MethodName := ⟨RX11, "move", "(II)I"⟩
abbrev cX11_run : ByteArray := prog_13_method_54_code
def yX11_run : MethodName := ⟨RX11, "run", "(I)I"⟩
abbrev cX11_here : ByteArray := prog_13_method_55_code
def yX11_here : MethodName := ⟨RX11, "here", "()I"⟩
abbrev cX11_about : ByteArray := prog_13_method_56_code
def yX11_about : MethodName := ⟨RX11, "about", "(II)I"⟩
abbrev cX11_moveCount : ByteArray := prog_13_method_57_code
def yX11_moveCount : MethodName := ⟨RX11, "moveCount", "()I"⟩
abbrev cX11_count : ByteArray := prog_13_method_58_code
def yX11_count : MethodName := ⟨RX11, "count", "(I)I"⟩
abbrev cX11_mix : ByteArray := prog_13_method_59_code
def yX11_mix : MethodName := ⟨RX11, "mix", "(J)V"⟩
abbrev cX11_digest : ByteArray := prog_13_method_60_code
def yX11_digest : MethodName := ⟨RX11, "digest", "()J"⟩
def RJ9 : String := "java/lang/Math"
def TJ9 : u_T := fun k => match k with
  | _ => ("", "", "", false)
def tyJ9 : Nat → FieldType := fun k => match k with
  | _ => .int
abbrev wsJ90 : List Cond := u_ws RJ9 TJ9 0
theorem nmJ9 : ∀ a, a < 0 → ∀ b, b < 0 → a ≠ b → (TJ9 a).2.1 ≠ (TJ9 b).2.1 := by decide +kernel
theorem tyJ9_ok : ∀ k, k < 0 → parseFieldDescriptor (TJ9 k).2.2.1 = some (tyJ9 k) := by decide +kernel
abbrev cJ9_max_7cf53 : ByteArray := prog_14_method_65_code
def yJ9_max_7cf53 : MethodName := ⟨RJ9, "max", "(II)I"⟩
abbrev cJ9_min_7cf53 : ByteArray := prog_14_method_69_code
def yJ9_min_7cf53 : MethodName := ⟨RJ9, "min", "(II)I"⟩
def RJ10 : String := "java/lang/System"
def TJ10 : u_T := fun k => match k with
  | _ => ("", "", "", false)
def tyJ10 : Nat → FieldType := fun k => match k with
  | _ => .int
abbrev wsJ100 : List Cond := u_ws RJ10 TJ10 0
theorem nmJ10 : ∀ a, a < 0 → ∀ b, b < 0 → a ≠ b → (TJ10 a).2.1 ≠ (TJ10 b).2.1 := by decide +kernel
theorem tyJ10_ok : ∀ k, k < 0 → parseFieldDescriptor (TJ10 k).2.2.1 = some (tyJ10 k) := by decide +kernel
def RJ7 : String := "java/util/Arrays"
def TJ7 : u_T := fun k => match k with
  | _ => ("", "", "", false)
def tyJ7 : Nat → FieldType := fun k => match k with
  | _ => .int
abbrev wsJ70 : List Cond := u_ws RJ7 TJ7 0
theorem nmJ7 : ∀ a, a < 0 → ∀ b, b < 0 → a ≠ b → (TJ7 a).2.1 ≠ (TJ7 b).2.1 := by decide +kernel
theorem tyJ7_ok : ∀ k, k < 0 → parseFieldDescriptor (TJ7 k).2.2.1 = some (tyJ7 k) := by decide +kernel
abbrev cJ7_fill_53178 : ByteArray := prog_16_method_103_code
def yJ7_fill_53178 : MethodName := ⟨RJ7, "fill", "([II)V"⟩
def RL : String := "ClockZonesLaw"
abbrev cL_law : ByteArray := code
def yL_law : MethodName := ⟨RL, "law", "([I)Z"⟩
abbrev z_cl : List vw_C := [(RX0, TX0, 6), (RX1, TX1, 5), (RX2, TX2, 5), (RX3, TX3, 6), (RX4, TX4, 3), (RX5, TX5, 3), (RX6, TX6, 2), (RX7, TX7, 7), (RX8, TX8, 7), (RX9, TX9, 1), (RX10, TX10, 6), (RX11, TX11, 32)]
theorem z_in0 : ∀ w ∈ wsX00, w ∈ lw_tbl := by decide +kernel
theorem z_in1 : ∀ w ∈ wsX10, w ∈ lw_tbl := by decide +kernel
theorem z_in2 : ∀ w ∈ wsX20, w ∈ lw_tbl := by decide +kernel
theorem z_in3 : ∀ w ∈ wsX30, w ∈ lw_tbl := by decide +kernel
theorem z_in4 : ∀ w ∈ wsX40, w ∈ lw_tbl := by decide +kernel
theorem z_in5 : ∀ w ∈ wsX50, w ∈ lw_tbl := by decide +kernel
theorem z_in6 : ∀ w ∈ wsX60, w ∈ lw_tbl := by decide +kernel
theorem z_in7 : ∀ w ∈ wsX70, w ∈ lw_tbl := by decide +kernel
theorem z_in8 : ∀ w ∈ wsX80, w ∈ lw_tbl := by decide +kernel
theorem z_in9 : ∀ w ∈ wsX90, w ∈ lw_tbl := by decide +kernel
theorem z_in10 : ∀ w ∈ wsX100, w ∈ lw_tbl := by decide +kernel
theorem z_in11 : ∀ w ∈ wsX110, w ∈ lw_tbl := by decide +kernel
def z_tbl : List Cond := lw_tbl.filter goodWord
theorem z_m {w : Cond} (h : w ∈ lw_tbl) (g : goodWord w = true) : w ∈ z_tbl := List.mem_filter.mpr ⟨h, g⟩
theorem z_good : ∀ w ∈ z_tbl, goodWord w = true := fun _ h => (List.mem_filter.mp h).2
theorem z_lw : ∀ w ∈ z_tbl, w ∈ lw_tbl := fun _ h => (List.mem_filter.mp h).1
theorem z_it0 : ∀ w ∈ wsX00, w ∈ z_tbl := fun w h => z_m (z_in0 w h) (by revert w h; decide +kernel)
theorem z_it1 : ∀ w ∈ wsX10, w ∈ z_tbl := fun w h => z_m (z_in1 w h) (by revert w h; decide +kernel)
theorem z_it2 : ∀ w ∈ wsX20, w ∈ z_tbl := fun w h => z_m (z_in2 w h) (by revert w h; decide +kernel)
theorem z_it3 : ∀ w ∈ wsX30, w ∈ z_tbl := fun w h => z_m (z_in3 w h) (by revert w h; decide +kernel)
theorem z_it4 : ∀ w ∈ wsX40, w ∈ z_tbl := fun w h => z_m (z_in4 w h) (by revert w h; decide +kernel)
theorem z_it5 : ∀ w ∈ wsX50, w ∈ z_tbl := fun w h => z_m (z_in5 w h) (by revert w h; decide +kernel)
theorem z_it6 : ∀ w ∈ wsX60, w ∈ z_tbl := fun w h => z_m (z_in6 w h) (by revert w h; decide +kernel)
theorem z_it7 : ∀ w ∈ wsX70, w ∈ z_tbl := fun w h => z_m (z_in7 w h) (by revert w h; decide +kernel)
theorem z_it8 : ∀ w ∈ wsX80, w ∈ z_tbl := fun w h => z_m (z_in8 w h) (by revert w h; decide +kernel)
theorem z_it9 : ∀ w ∈ wsX90, w ∈ z_tbl := fun w h => z_m (z_in9 w h) (by revert w h; decide +kernel)
theorem z_it10 : ∀ w ∈ wsX100, w ∈ z_tbl := fun w h => z_m (z_in10 w h) (by revert w h; decide +kernel)
theorem z_it11 : ∀ w ∈ wsX110, w ∈ z_tbl := fun w h => z_m (z_in11 w h) (by revert w h; decide +kernel)
end
section
/-! a world of numbered cells (S, at the addresses ad) and of further cells by address (Y); its judgement z_V -/
abbrev z_i (z : Int) : Int32 := Int32.ofInt z
abbrev z_v (z : Int) : Value := Value.int (z_i z)
abbrev z_ar (cA : ClassId) (n : Nat) (f : Nat → Int) : va_E := .inl (cA, n, .inl (fun j => z_i (f j)))
abbrev z_rr (cA : ClassId) (n : Nat) (g : Nat → Option Nat) : va_E := .inl (cA, n, .inr (.inr (.inr (.inr g))))
abbrev z_ob (ci : Nat) (fs : List Value) : va_E := .inr (ci, fs)
/-- the array classes: of int, Edge, Move, TestList, Test -/
abbrev z_Ks : Type := ClassId × ClassId × ClassId × ClassId × ClassId
abbrev z_tys (k : z_Ks) : List (ClassId × FieldType) := [(k.1, .int), (k.2.1, .object RX0), (k.2.2.1, .object RX1), (k.2.2.2.1, .object RX6), (k.2.2.2.2, .object RX5)]
def z_R (D : va_G) (A : Nat → Prop) (N : Nat) (ad : Nat → Nat) (S : Nat → va_E) (Y : Nat → Option va_E) (H : Heap) : Prop :=
  (∀ k, k < N → A (ad k) ∧ va_at D z_cl (ad k, S k) H) ∧ (∀ i j, i < N → j < N → ad i = ad j → i = j) ∧ ∀ q e, Y q = some e → A q ∧ (∀ k, k < N → ad k ≠ q) ∧ va_at D z_cl (q, e) H
/-- words that a state keeps beside the tables -/
def z_X (U : State) : Prop := (va_AO RX0 U ∧ va_AO RX1 U ∧ va_AO RX6 U ∧ va_AO RX5 U) ∧ va_Nw (.methodLinkNest RX2 29 yX6_init "ClockZones") U ∧ va_Nw (.methodLinkNest RX10 18 yX3_init "ClockZones") U ∧ va_Nw (.methodLinkNest RX3 11 yX4_init "ClockZones") U ∧ va_Nw (.methodLinkNest RX3 28 yX9_init "ClockZones") U ∧ va_Nw (.methodLinkNest RX10 25 yX8_init "ClockZones") U ∧ va_Nw (.methodLinkNest RX10 32 yX7_init "ClockZones") U ∧ va_Nw (.methodLinkNest RX0 9 yX6_init "ClockZones") U
theorem z_X.warm {s U : State} (hW : s.WarmedH U.vm) (h : z_X s) : z_X U := by
  obtain ⟨⟨a1, a2, a3, a4⟩, b1, b2, b3, b4, b5, b6, b7⟩ := h
  exact ⟨⟨a1.moved hW.alike, a2.moved hW.alike, a3.moved hW.alike, a4.moved hW.alike⟩, b1.warmM hW, b2.warmM hW, b3.warmM hW, b4.warmM hW, b5.warmM hW, b6.warmM hW, b7.warmM hW⟩
theorem z_X.same {s U : State} (hW : s.vm = U.vm) (h : z_X s) : z_X U := by
  obtain ⟨⟨a1, a2, a3, a4⟩, b1, b2, b3, b4, b5, b6, b7⟩ := h
  have hA : s.vm.Alike U.vm := hW ▸ Vm.Alike.refl s.vm
  exact ⟨⟨a1.moved hA, a2.moved hA, a3.moved hA, a4.moved hA⟩, b1.same rfl hW, b2.same rfl hW, b3.same rfl hW, b4.same rfl hW, b5.same rfl hW, b6.same rfl hW, b7.same rfl hW⟩
/-- a contract's start: the world, the tables, the words; every new cell may be written -/
def z_P (D : va_G) (A : Nat → Prop) (N : Nat) (ad : Nat → Nat) (ks : z_Ks) (S : Nat → va_E) (Y : Nat → Option va_E) (U : State) : Prop :=
  z_R D A N ad S Y U.heap ∧ va_K D z_cl (z_tys ks) U ∧ z_X U ∧ ∀ q, U.heap.size ≤ q → A q
/-- a contract's end -/
def z_Q (D : va_G) (A : Nat → Prop) (N : Nat) (ad : Nat → Nat) (post : Option Value → (Nat → va_E) → (Nat → Option va_E) → Prop) : Array Value → State → Outcome → State → Prop := fun _ st oc t =>
  (∃ (r : Option Value) (S' : Nat → va_E) (Y' : Nat → Option va_E), oc = .returned r ∧ post r S' Y' ∧ z_R D A N ad S' Y' t.heap) ∧ va_F A st t
abbrev z_w (y : MethodName) (cc : ByteArray) (mL : Nat) (ret : Option FieldType) : List Cond := Cond.code y cc mL ret :: z_tbl
def z_Met (l : Launch) (y : MethodName) (cc : ByteArray) (mL : Nat) (ret : Option FieldType) (fr lo mc ms : Nat) (D : va_G) (A : Nat → Prop) (N : Nat) (ad : Nat → Nat) (ks : z_Ks) (av : List Value) (S : Nat → va_E) (Y : Nat → Option va_E) (post : Option Value → (Nat → va_E) → (Nat → Option va_E) → Prop) : Prop :=
  Met l y (z_w y cc mL ret) { frames := fr, cells := mc, slots := ms, locals := lo } (va_Pc av (z_P D A N ad ks S Y)) (z_Q D A N ad post) mc ms A
/-- the fixed facts of a method's body -/
def z_C (p : Program) (s : State) (m : MethodId) (args : Array Value) (meth : Method) (c : Code) (cc : ByteArray) (nL : Nat) (own : String) (D : va_G) (A : Nat → Prop) (ks : z_Ks) : Prop :=
  p.tables.exec = Jvm.exec ∧ c.code = cc ∧ c.maxLocals = nL ∧ s.vm.findClass own = some m.cls ∧ (∀ w ∈ z_tbl, w.before args s = true) ∧ va_K D z_cl (z_tys ks) s ∧ z_X s ∧ meth.locks = false ∧ ∀ q, s.heap.size ≤ q → A q
def z_V (p : Program) (l : Launch) (e : Env) (R : Room) (s : State) (m : MethodId) (args : Array Value) (below : List Frame) (meth : Method) (c : Code) (Q : State → Prop) (D : va_G) (A : Nat → Prop) (N : Nat) (ad : Nat → Nat) (nL : Nat) (S : Nat → va_E) (Y : Nat → Option va_E) (cells slots pc : Nat) (L : List (Nat × Value)) (st : List Value) : Prop :=
  ∀ (H : Heap) (locs : List Loc) (ls : Array Slot), z_R D A N ad S Y H → va_S A s.heap H locs → lv_has ls nL L → W p l e R s m args below meth c H locs cells slots Q (F0 m pc ls st)
section ZR
variable {D : va_G} {A : Nat → Prop} {N : Nat} {ad : Nat → Nat} {S S' : Nat → va_E} {Y : Nat → Option va_E} {H H1 : Heap}
theorem z_R.ext (h : z_R D A N ad S Y H) (e : ∀ k, k < N → S k = S' k) : z_R D A N ad S' Y H := ⟨fun k hk => ⟨(h.1 k hk).1, by rw [← e k hk]; exact (h.1 k hk).2⟩, h.2⟩
theorem z_R.one (h : z_R D A N ad S Y H) {k : Nat} (hk : k < N) : va_P D z_cl [(ad k, S k)] H ∧ va_D A [(ad k, S k)] := by
  refine ⟨fun i q hq => ?_, fun i j x y hi hj _ => ?_, fun i q hq => ?_⟩
  · match i, hq with
    | 0, hq => cases hq; exact (h.1 k hk).2
    | i + 1, hq => simp at hq
  · have h1 := (List.getElem?_eq_some_iff.mp hi).1
    have h2 := (List.getElem?_eq_some_iff.mp hj).1
    simp at h1 h2
    omega
  · match i, hq with
    | 0, hq => cases hq; exact (h.1 k hk).1
    | i + 1, hq => simp at hq
theorem z_R.dyn (h : z_R D A N ad S Y H) {q : Nat} {e : va_E} (hq : Y q = some e) : va_P D z_cl [(q, e)] H ∧ va_D A [(q, e)] := by
  refine ⟨fun i x hx => ?_, fun i j x y hi hj _ => ?_, fun i x hx => ?_⟩
  · match i, hx with
    | 0, hx => cases hx; exact (h.2.2 q e hq).2.2
    | i + 1, hx => simp at hx
  · have h1 := (List.getElem?_eq_some_iff.mp hi).1
    have h2 := (List.getElem?_eq_some_iff.mp hj).1
    simp at h1 h2
    omega
  · match i, hx with
    | 0, hx => cases hx; exact (h.2.2 q e hq).1
    | i + 1, hx => simp at hx
/-- one numbered cell written -/
theorem z_R.put (h : z_R D A N ad S Y H) {k : Nat} (hk : k < N) {e : va_E} (he : va_at D z_cl (ad k, e) H1) (oq : ∀ q : Nat, q ≠ ad k → H1[q]? = H[q]?) : z_R D A N ad (va_up S k e) Y H1 := by
  refine ⟨fun i hi => ⟨(h.1 i hi).1, ?_⟩, h.2.1, fun q x hq => ⟨(h.2.2 q x hq).1, (h.2.2 q x hq).2.1, (h.2.2 q x hq).2.2.kept (oq q (fun z => (h.2.2 q x hq).2.1 k hk z.symm))⟩⟩
  by_cases hik : i = k
  · subst hik
    simp only [va_up, if_true]
    exact he
  · simp only [va_up, hik, if_false]
    exact (h.1 i hi).2.kept (oq (ad i) (fun z => hik (h.2.1 i k hi hk z)))
/-- one further cell written -/
theorem z_R.putY (h : z_R D A N ad S Y H) {a : Nat} {e0 e : va_E} (ha : Y a = some e0) (he : va_at D z_cl (a, e) H1) (oq : ∀ q : Nat, q ≠ a → H1[q]? = H[q]?) : z_R D A N ad S (va_up Y a (some e)) H1 := by
  have h0 := h.2.2 a e0 ha
  refine ⟨fun i hi => ⟨(h.1 i hi).1, (h.1 i hi).2.kept (oq (ad i) (h0.2.1 i hi))⟩, h.2.1, fun q x hq => ?_⟩
  by_cases hqa : q = a
  · subst hqa
    simp only [va_up, if_true, Option.some.injEq] at hq
    subst hq
    exact ⟨h0.1, h0.2.1, he⟩
  · simp only [va_up, hqa, if_false] at hq
    exact ⟨(h.2.2 q x hq).1, (h.2.2 q x hq).2.1, (h.2.2 q x hq).2.2.kept (oq q hqa)⟩
/-- one further cell made -/
theorem z_R.new (h : z_R D A N ad S Y H) {e : va_E} (hA : A H.size) (he : va_at D z_cl (H.size, e) H1) (oq : ∀ q : Nat, q < H.size → H1[q]? = H[q]?) : z_R D A N ad S (va_up Y H.size (some e)) H1 ∧ Y H.size = none ∧ ∀ q x, Y q = some x → q ≠ H.size := by
  have hlt : ∀ q x, Y q = some x → q < H.size := fun q x hq => (h.2.2 q x hq).2.2.lt
  refine ⟨⟨fun i hi => ⟨(h.1 i hi).1, (h.1 i hi).2.kept (oq (ad i) (h.1 i hi).2.lt)⟩, h.2.1, fun q x hq => ?_⟩, ?_, fun q x hq => Nat.ne_of_lt (hlt q x hq)⟩
  · by_cases hqa : q = H.size
    · subst hqa
      simp only [va_up, if_true, Option.some.injEq] at hq
      subst hq
      exact ⟨hA, fun k hk => Nat.ne_of_lt (h.1 k hk).2.lt, he⟩
    · simp only [va_up, hqa, if_false] at hq
      exact ⟨(h.2.2 q x hq).1, (h.2.2 q x hq).2.1, (h.2.2 q x hq).2.2.kept (oq q (hlt q x hq))⟩
  · cases hz : Y H.size with
    | none => rfl
    | some x => exact absurd (hlt _ _ hz) (Nat.lt_irrefl _)
end ZR
/-! numbers -/
theorem z_add (a b : Int) : z_i a + z_i b = z_i (a + b) := (Int32.ofInt_add a b).symm
theorem z_sub (a b : Int) : z_i a - z_i b = z_i (a - b) := (Int32.ofInt_sub a b).symm
theorem z_mul (a b : Int) : z_i a * z_i b = z_i (a * b) := (Int32.ofInt_mul a b).symm
theorem z_neg (a : Int) : -z_i a = z_i (-a) := (Int32.ofInt_neg a).symm
abbrev z_rg (z : Int) : Prop := -2147483648 ≤ z ∧ z < 2147483648
theorem z_to {z : Int} (h : z_rg z) : (z_i z).toInt = z := by
  rw [Int32.toInt_ofInt]
  show Int.bmod z 4294967296 = z
  exact Int.bmod_eq_of_le (by omega) (by omega)
theorem z_of (x : Int32) : z_i x.toInt = x := Int32.ofInt_toInt x
theorem z_rgI (x : Int32) : z_rg x.toInt := by
  have h1 := Int32.le_toInt x
  have h2 := Int32.toInt_lt x
  constructor <;> omega
theorem z_eq {a b : Int} (ha : z_rg a) (hb : z_rg b) : z_i a = z_i b ↔ a = b := ⟨fun h => by rw [← z_to ha, ← z_to hb, h], fun h => by rw [h]⟩
theorem z_le {a b : Int} (ha : z_rg a) (hb : z_rg b) : z_i a ≤ z_i b ↔ a ≤ b := by rw [Int32.le_iff_toInt_le, z_to ha, z_to hb]
theorem z_lt {a b : Int} (ha : z_rg a) (hb : z_rg b) : z_i a < z_i b ↔ a < b := by rw [Int32.lt_iff_toInt_lt, z_to ha, z_to hb]
/-- an int whatever it is, by a number in range -/
theorem z_any (x : Int32) : ∃ z, z_rg z ∧ x = z_i z := ⟨x.toInt, z_rgI x, (z_of x).symm⟩
theorem z_norm (a : Int) : ∃ z, z_rg z ∧ z_i a = z_i z := z_any _
theorem z_cl0 {a : Int} (h0 : 0 ≤ a) (h : a < 2147483648) : (z_i a).toNatClampNeg = a.toNat := by
  rw [← Int32.toNat_toInt, z_to ⟨by omega, h⟩]
theorem z_ix {a : Int} {n : Nat} (h0 : 0 ≤ a) (h : a < n) (hn : n < 2147483648) : vp_in (z_i a) n := by
  have h1 : z_rg a := ⟨by omega, by omega⟩
  rw [vp_in_iff, z_to h1]
  exact ⟨h0, h⟩
end
section
theorem z_rg0 : z_rg 0 := ⟨by decide, by decide⟩
section ZROWS
variable {p : Program} {l : Launch} {e : Env} {R : Room} {s : State} {m : MethodId} {args : Array Value} {below : List Frame} {meth : Method} {c : Code} {Q : State → Prop} {D : va_G} {A : Nat → Prop} {N : Nat} {ad : Nat → Nat} {nL : Nat} {S : Nat → va_E} {Y : Nat → Option va_E} {cells slots pc : Nat} {L : List (Nat × Value)} {st : List Value} {cc : ByteArray} {own : String} {ks : z_Ks}
theorem z_iconst (C : z_C p s m args meth c cc nL own D A ks) {n : Int} (hd : decode cc pc = .ok (.iconst n, 1)) (k : z_V p l e R s m args below meth c Q D A N ad nL S Y cells slots (pc + 1) L (z_v n :: st)) : z_V p l e R s m args below meth c Q D A N ad nL S Y cells slots (pc) L (st) := by
  intro H locs ls hR hS hl
  exact lv_iconst C.1 C.2.1 hd rfl (k H locs ls hR hS hl)
theorem z_bipush (C : z_C p s m args meth c cc nL own D A ks) {n : Int} (hd : decode cc pc = .ok (.bipush n, 2)) (hv : (Int8.ofInt n).toInt32 = z_i n) (k : z_V p l e R s m args below meth c Q D A N ad nL S Y cells slots (pc + 2) L (z_v n :: st)) : z_V p l e R s m args below meth c Q D A N ad nL S Y cells slots (pc) L (st) := by
  intro H locs ls hR hS hl
  exact lv_bipush C.1 C.2.1 hd hv (k H locs ls hR hS hl)
theorem z_sipush (C : z_C p s m args meth c cc nL own D A ks) {n : Int} (hd : decode cc pc = .ok (.sipush n, 3)) (hv : (Int16.ofInt n).toInt32 = z_i n) (k : z_V p l e R s m args below meth c Q D A N ad nL S Y cells slots (pc + 3) L (z_v n :: st)) : z_V p l e R s m args below meth c Q D A N ad nL S Y cells slots (pc) L (st) := by
  intro H locs ls hR hS hl
  exact lv_sipush C.1 C.2.1 hd hv (k H locs ls hR hS hl)
theorem z_ldc (C : z_C p s m args meth c cc nL own D A ks) {i : Nat} {w : Int32} {n : Int} (hm : Cond.constant own i w ∈ z_tbl) (hw : w = z_i n) (hd : decode cc pc = .ok (.ldc i, 2)) (k : z_V p l e R s m args below meth c Q D A N ad nL S Y cells slots (pc + 2) L (z_v n :: st)) : z_V p l e R s m args below meth c Q D A N ad nL S Y cells slots (pc) L (st) := by
  intro H locs ls hR hS hl
  subst hw
  exact lv_ldc C.1 C.2.1 C.2.2.2.1 (C.2.2.2.2.1 _ hm) hd (k H locs ls hR hS hl)
theorem z_ldc2 (C : z_C p s m args meth c cc nL own D A ks) {i : Nat} {w : Int64} (hm : Cond.constantLong own i w ∈ z_tbl) (hd : decode cc pc = .ok (.ldc2_w i, 3)) (k : z_V p l e R s m args below meth c Q D A N ad nL S Y cells slots (pc + 3) L (.long w :: st)) : z_V p l e R s m args below meth c Q D A N ad nL S Y cells slots (pc) L (st) := by
  intro H locs ls hR hS hl
  exact lv_ldc2 C.1 C.2.1 C.2.2.2.1 (C.2.2.2.2.1 _ hm) hd (k H locs ls hR hS hl)
theorem z_lconst (C : z_C p s m args meth c cc nL own D A ks) {n : Fin 2} {w : Int64} (hd : decode cc pc = .ok (.lconst n, 1)) (hw : Int64.ofNat (n : Nat) = w) (k : z_V p l e R s m args below meth c Q D A N ad nL S Y cells slots (pc + 1) L (.long w :: st)) : z_V p l e R s m args below meth c Q D A N ad nL S Y cells slots (pc) L (st) := by
  intro H locs ls hR hS hl
  exact lv_lconst C.1 C.2.1 hd hw (k H locs ls hR hS hl)
theorem z_null (C : z_C p s m args meth c cc nL own D A ks) (hd : decode cc pc = .ok (.aconst_null, 1)) (k : z_V p l e R s m args below meth c Q D A N ad nL S Y cells slots (pc + 1) L (.null :: st)) : z_V p l e R s m args below meth c Q D A N ad nL S Y cells slots (pc) L (st) := by
  intro H locs ls hR hS hl
  exact lv_null C.1 C.2.1 hd (k H locs ls hR hS hl)
theorem z_iloadn (C : z_C p s m args meth c cc nL own D A ks) {n : Fin 4} {i : Nat} {x : Int32} (j : Nat) (hd : decode cc pc = .ok (.iload_n n, 1)) (hi : (n : Nat) = i) (hj : L[j]? = some (i, .int x)) (k : z_V p l e R s m args below meth c Q D A N ad nL S Y cells slots (pc + 1) L (.int x :: st)) : z_V p l e R s m args below meth c Q D A N ad nL S Y cells slots (pc) L (st) := by
  intro H locs ls hR hS hl
  exact lv_iload_n C.1 C.2.1 hd hi (lv_at hl j hj) (k H locs ls hR hS hl)
theorem z_iload (C : z_C p s m args meth c cc nL own D A ks) {i : Nat} {x : Int32} (j : Nat) (hd : decode cc pc = .ok (.iload i, 2)) (hj : L[j]? = some (i, .int x)) (k : z_V p l e R s m args below meth c Q D A N ad nL S Y cells slots (pc + 2) L (.int x :: st)) : z_V p l e R s m args below meth c Q D A N ad nL S Y cells slots (pc) L (st) := by
  intro H locs ls hR hS hl
  exact lv_iload C.1 C.2.1 hd (lv_at hl j hj) (k H locs ls hR hS hl)
theorem z_lloadn (C : z_C p s m args meth c cc nL own D A ks) {n : Fin 4} {i : Nat} {x : Int64} (j : Nat) (hd : decode cc pc = .ok (.lload_n n, 1)) (hi : (n : Nat) = i) (hj : L[j]? = some (i, .long x)) (k : z_V p l e R s m args below meth c Q D A N ad nL S Y cells slots (pc + 1) L (.long x :: st)) : z_V p l e R s m args below meth c Q D A N ad nL S Y cells slots (pc) L (st) := by
  intro H locs ls hR hS hl
  exact lv_lload_n C.1 C.2.1 hd hi (lv_at hl j hj) (k H locs ls hR hS hl)
theorem z_lload (C : z_C p s m args meth c cc nL own D A ks) {i : Nat} {x : Int64} (j : Nat) (hd : decode cc pc = .ok (.lload i, 2)) (hj : L[j]? = some (i, .long x)) (k : z_V p l e R s m args below meth c Q D A N ad nL S Y cells slots (pc + 2) L (.long x :: st)) : z_V p l e R s m args below meth c Q D A N ad nL S Y cells slots (pc) L (st) := by
  intro H locs ls hR hS hl
  exact lv_lload C.1 C.2.1 hd (lv_at hl j hj) (k H locs ls hR hS hl)
theorem z_aloadn (C : z_C p s m args meth c cc nL own D A ks) {n : Fin 4} {i : Nat} {x : Nat} (j : Nat) (hd : decode cc pc = .ok (.aload_n n, 1)) (hi : (n : Nat) = i) (hj : L[j]? = some (i, .ref x)) (k : z_V p l e R s m args below meth c Q D A N ad nL S Y cells slots (pc + 1) L (.ref x :: st)) : z_V p l e R s m args below meth c Q D A N ad nL S Y cells slots (pc) L (st) := by
  intro H locs ls hR hS hl
  exact lv_aload_n C.1 C.2.1 hd hi (lv_at hl j hj) (k H locs ls hR hS hl)
theorem z_aload (C : z_C p s m args meth c cc nL own D A ks) {i : Nat} {x : Nat} (j : Nat) (hd : decode cc pc = .ok (.aload i, 2)) (hj : L[j]? = some (i, .ref x)) (k : z_V p l e R s m args below meth c Q D A N ad nL S Y cells slots (pc + 2) L (.ref x :: st)) : z_V p l e R s m args below meth c Q D A N ad nL S Y cells slots (pc) L (st) := by
  intro H locs ls hR hS hl
  exact lv_aload C.1 C.2.1 hd (lv_at hl j hj) (k H locs ls hR hS hl)
theorem z_aloadnN (C : z_C p s m args meth c cc nL own D A ks) {n : Fin 4} {i : Nat} (j : Nat) (hd : decode cc pc = .ok (.aload_n n, 1)) (hi : (n : Nat) = i) (hj : L[j]? = some (i, .null)) (k : z_V p l e R s m args below meth c Q D A N ad nL S Y cells slots (pc + 1) L (.null :: st)) : z_V p l e R s m args below meth c Q D A N ad nL S Y cells slots (pc) L (st) := by
  intro H locs ls hR hS hl
  exact lv_aload_nN C.1 C.2.1 hd hi (lv_at hl j hj) (k H locs ls hR hS hl)
theorem z_istoren (C : z_C p s m args meth c cc nL own D A ks) {n : Fin 4} {i : Nat} {x : Int32} {L' : List (Nat × Value)} (hd : decode cc pc = .ok (.istore_n n, 1)) (hi : (n : Nat) = i) (hn : i < nL) (he : (i, Value.int x) :: L.filter (fun q => !(q.1 == i) && !(q.1 + 1 == i && q.2.category == 2)) = L') (k : z_V p l e R s m args below meth c Q D A N ad nL S Y cells slots (pc + 1) L' (st)) : z_V p l e R s m args below meth c Q D A N ad nL S Y cells slots (pc) L (.int x :: st) := by
  intro H locs ls hR hS hl
  exact lv_istore_n C.1 C.2.1 hd hi hl hn he (fun ls' hl' => k H locs ls' hR hS hl')
theorem z_istore (C : z_C p s m args meth c cc nL own D A ks) {i : Nat} {x : Int32} {L' : List (Nat × Value)} (hd : decode cc pc = .ok (.istore i, 2)) (hn : i < nL) (he : (i, Value.int x) :: L.filter (fun q => !(q.1 == i) && !(q.1 + 1 == i && q.2.category == 2)) = L') (k : z_V p l e R s m args below meth c Q D A N ad nL S Y cells slots (pc + 2) L' (st)) : z_V p l e R s m args below meth c Q D A N ad nL S Y cells slots (pc) L (.int x :: st) := by
  intro H locs ls hR hS hl
  exact lv_istore C.1 C.2.1 hd hl hn he (fun ls' hl' => k H locs ls' hR hS hl')
theorem z_lstoren (C : z_C p s m args meth c cc nL own D A ks) {n : Fin 4} {i : Nat} {x : Int64} {L' : List (Nat × Value)} (hd : decode cc pc = .ok (.lstore_n n, 1)) (hi : (n : Nat) = i) (hn : i + 1 < nL) (he : (i, Value.long x) :: L.filter (fun q => !(q.1 == i) && (!(q.1 == i + 1) && !(q.1 + 1 == i && q.2.category == 2))) = L') (k : z_V p l e R s m args below meth c Q D A N ad nL S Y cells slots (pc + 1) L' (st)) : z_V p l e R s m args below meth c Q D A N ad nL S Y cells slots (pc) L (.long x :: st) := by
  intro H locs ls hR hS hl
  exact lv_lstore_n C.1 C.2.1 hd hi hl hn he (fun ls' hl' => k H locs ls' hR hS hl')
theorem z_lstore (C : z_C p s m args meth c cc nL own D A ks) {i : Nat} {x : Int64} {L' : List (Nat × Value)} (hd : decode cc pc = .ok (.lstore i, 2)) (hn : i + 1 < nL) (he : (i, Value.long x) :: L.filter (fun q => !(q.1 == i) && (!(q.1 == i + 1) && !(q.1 + 1 == i && q.2.category == 2))) = L') (k : z_V p l e R s m args below meth c Q D A N ad nL S Y cells slots (pc + 2) L' (st)) : z_V p l e R s m args below meth c Q D A N ad nL S Y cells slots (pc) L (.long x :: st) := by
  intro H locs ls hR hS hl
  exact lv_lstore C.1 C.2.1 hd hl hn he (fun ls' hl' => k H locs ls' hR hS hl')
theorem z_astoren (C : z_C p s m args meth c cc nL own D A ks) {n : Fin 4} {i : Nat} {x : Nat} {L' : List (Nat × Value)} (hd : decode cc pc = .ok (.astore_n n, 1)) (hi : (n : Nat) = i) (hn : i < nL) (he : (i, Value.ref x) :: L.filter (fun q => !(q.1 == i) && !(q.1 + 1 == i && q.2.category == 2)) = L') (k : z_V p l e R s m args below meth c Q D A N ad nL S Y cells slots (pc + 1) L' (st)) : z_V p l e R s m args below meth c Q D A N ad nL S Y cells slots (pc) L (.ref x :: st) := by
  intro H locs ls hR hS hl
  exact lv_astore_n C.1 C.2.1 hd hi hl hn he (fun ls' hl' => k H locs ls' hR hS hl')
theorem z_astore (C : z_C p s m args meth c cc nL own D A ks) {i : Nat} {x : Nat} {L' : List (Nat × Value)} (hd : decode cc pc = .ok (.astore i, 2)) (hn : i < nL) (he : (i, Value.ref x) :: L.filter (fun q => !(q.1 == i) && !(q.1 + 1 == i && q.2.category == 2)) = L') (k : z_V p l e R s m args below meth c Q D A N ad nL S Y cells slots (pc + 2) L' (st)) : z_V p l e R s m args below meth c Q D A N ad nL S Y cells slots (pc) L (.ref x :: st) := by
  intro H locs ls hR hS hl
  exact lv_astore C.1 C.2.1 hd hl hn he (fun ls' hl' => k H locs ls' hR hS hl')
theorem z_iinc (C : z_C p s m args meth c cc nL own D A ks) {i : Nat} {n x : Int} {L' : List (Nat × Value)} (j : Nat) (hd : decode cc pc = .ok (.iinc i n, 3)) (hj : L[j]? = some (i, z_v x)) (hn : i < nL) (he : (i, z_v (x + n)) :: L.filter (fun q => !(q.1 == i) && !(q.1 + 1 == i && q.2.category == 2)) = L') (k : z_V p l e R s m args below meth c Q D A N ad nL S Y cells slots (pc + 3) L' (st)) : z_V p l e R s m args below meth c Q D A N ad nL S Y cells slots (pc) L (st) := by
  intro H locs ls hR hS hl
  exact lv_iinc C.1 C.2.1 hd hl hj (z_add x n) hn he (fun ls' hl' => k H locs ls' hR hS hl')
theorem z_iadd (C : z_C p s m args meth c cc nL own D A ks) {x y : Int} (hd : decode cc pc = .ok (.iadd, 1)) (k : z_V p l e R s m args below meth c Q D A N ad nL S Y cells slots (pc + 1) L (z_v (x + y) :: st)) : z_V p l e R s m args below meth c Q D A N ad nL S Y cells slots (pc) L (z_v y :: z_v x :: st) := by
  intro H locs ls hR hS hl
  refine lv_iadd C.1 C.2.1 hd ?_
  rw [z_add]
  exact k H locs ls hR hS hl
theorem z_isub (C : z_C p s m args meth c cc nL own D A ks) {x y : Int} (hd : decode cc pc = .ok (.isub, 1)) (k : z_V p l e R s m args below meth c Q D A N ad nL S Y cells slots (pc + 1) L (z_v (x - y) :: st)) : z_V p l e R s m args below meth c Q D A N ad nL S Y cells slots (pc) L (z_v y :: z_v x :: st) := by
  intro H locs ls hR hS hl
  refine lv_isub C.1 C.2.1 hd ?_
  rw [z_sub]
  exact k H locs ls hR hS hl
theorem z_imul (C : z_C p s m args meth c cc nL own D A ks) {x y : Int} (hd : decode cc pc = .ok (.imul, 1)) (k : z_V p l e R s m args below meth c Q D A N ad nL S Y cells slots (pc + 1) L (z_v (x * y) :: st)) : z_V p l e R s m args below meth c Q D A N ad nL S Y cells slots (pc) L (z_v y :: z_v x :: st) := by
  intro H locs ls hR hS hl
  refine lv_imul C.1 C.2.1 hd ?_
  rw [z_mul]
  exact k H locs ls hR hS hl
theorem z_ineg (C : z_C p s m args meth c cc nL own D A ks) {x : Int} (hd : decode cc pc = .ok (.ineg, 1)) (k : z_V p l e R s m args below meth c Q D A N ad nL S Y cells slots (pc + 1) L (z_v (-x) :: st)) : z_V p l e R s m args below meth c Q D A N ad nL S Y cells slots (pc) L (z_v x :: st) := by
  intro H locs ls hR hS hl
  refine lv_ineg C.1 C.2.1 hd ?_
  rw [z_neg]
  exact k H locs ls hR hS hl
theorem z_iand (C : z_C p s m args meth c cc nL own D A ks) {x y z : Int} (hz : z_i x &&& z_i y = z_i z) (hd : decode cc pc = .ok (.iand, 1)) (k : z_V p l e R s m args below meth c Q D A N ad nL S Y cells slots (pc + 1) L (z_v z :: st)) : z_V p l e R s m args below meth c Q D A N ad nL S Y cells slots (pc) L (z_v y :: z_v x :: st) := by
  intro H locs ls hR hS hl
  refine lv_iand C.1 C.2.1 hd ?_
  rw [hz]
  exact k H locs ls hR hS hl
theorem z_ior (C : z_C p s m args meth c cc nL own D A ks) {x y z : Int} (hz : z_i x ||| z_i y = z_i z) (hd : decode cc pc = .ok (.ior, 1)) (k : z_V p l e R s m args below meth c Q D A N ad nL S Y cells slots (pc + 1) L (z_v z :: st)) : z_V p l e R s m args below meth c Q D A N ad nL S Y cells slots (pc) L (z_v y :: z_v x :: st) := by
  intro H locs ls hR hS hl
  refine lv_ior C.1 C.2.1 hd ?_
  rw [hz]
  exact k H locs ls hR hS hl
theorem z_ishr (C : z_C p s m args meth c cc nL own D A ks) {x y z : Int} (hz : z_i x >>> (z_i y &&& 31) = z_i z) (hd : decode cc pc = .ok (.ishr, 1)) (k : z_V p l e R s m args below meth c Q D A N ad nL S Y cells slots (pc + 1) L (z_v z :: st)) : z_V p l e R s m args below meth c Q D A N ad nL S Y cells slots (pc) L (z_v y :: z_v x :: st) := by
  intro H locs ls hR hS hl
  refine lv_ishr C.1 C.2.1 hd ?_
  rw [hz]
  exact k H locs ls hR hS hl
theorem z_i2l (C : z_C p s m args meth c cc nL own D A ks) {x : Int} (hd : decode cc pc = .ok (.i2l, 1)) (k : z_V p l e R s m args below meth c Q D A N ad nL S Y cells slots (pc + 1) L (.long (z_i x).toInt64 :: st)) : z_V p l e R s m args below meth c Q D A N ad nL S Y cells slots (pc) L (z_v x :: st) := by
  intro H locs ls hR hS hl
  exact lv_i2l C.1 C.2.1 hd rfl (k H locs ls hR hS hl)
theorem z_ladd (C : z_C p s m args meth c cc nL own D A ks) {x y : Int64} (hd : decode cc pc = .ok (.ladd, 1)) (k : z_V p l e R s m args below meth c Q D A N ad nL S Y cells slots (pc + 1) L (.long (x + y) :: st)) : z_V p l e R s m args below meth c Q D A N ad nL S Y cells slots (pc) L (.long y :: .long x :: st) := by
  intro H locs ls hR hS hl
  exact lv_ladd C.1 C.2.1 hd (k H locs ls hR hS hl)
theorem z_lmul (C : z_C p s m args meth c cc nL own D A ks) {x y : Int64} (hd : decode cc pc = .ok (.lmul, 1)) (k : z_V p l e R s m args below meth c Q D A N ad nL S Y cells slots (pc + 1) L (.long (x * y) :: st)) : z_V p l e R s m args below meth c Q D A N ad nL S Y cells slots (pc) L (.long y :: .long x :: st) := by
  intro H locs ls hR hS hl
  exact lv_lmul C.1 C.2.1 hd (k H locs ls hR hS hl)
theorem z_dup (C : z_C p s m args meth c cc nL own D A ks) {v : Value} (hd : decode cc pc = .ok (.dup, 1)) (hv : v.category = 1) (k : z_V p l e R s m args below meth c Q D A N ad nL S Y cells slots (pc + 1) L (v :: v :: st)) : z_V p l e R s m args below meth c Q D A N ad nL S Y cells slots (pc) L (v :: st) := by
  intro H locs ls hR hS hl
  exact lv_dup C.1 C.2.1 hd hv (k H locs ls hR hS hl)
theorem z_dup2 (C : z_C p s m args meth c cc nL own D A ks) {v w : Value} (hd : decode cc pc = .ok (.dup2, 1)) (hv : v.category = 1) (hw : w.category = 1) (k : z_V p l e R s m args below meth c Q D A N ad nL S Y cells slots (pc + 1) L (v :: w :: v :: w :: st)) : z_V p l e R s m args below meth c Q D A N ad nL S Y cells slots (pc) L (v :: w :: st) := by
  intro H locs ls hR hS hl
  exact lv_dup2_11 C.1 C.2.1 hd hv hw (k H locs ls hR hS hl)
theorem z_pop (C : z_C p s m args meth c cc nL own D A ks) {v : Value} (hd : decode cc pc = .ok (.pop, 1)) (hv : v.category = 1) (k : z_V p l e R s m args below meth c Q D A N ad nL S Y cells slots (pc + 1) L (st)) : z_V p l e R s m args below meth c Q D A N ad nL S Y cells slots (pc) L (v :: st) := by
  intro H locs ls hR hS hl
  exact lv_pop C.1 C.2.1 hd hv (k H locs ls hR hS hl)
theorem z_pop2 (C : z_C p s m args meth c cc nL own D A ks) {v : Value} (hd : decode cc pc = .ok (.pop2, 1)) (hv : v.category = 2) (k : z_V p l e R s m args below meth c Q D A N ad nL S Y cells slots (pc + 1) L (st)) : z_V p l e R s m args below meth c Q D A N ad nL S Y cells slots (pc) L (v :: st) := by
  intro H locs ls hR hS hl
  exact lv_pop2_2 C.1 C.2.1 hd hv (k H locs ls hR hS hl)
theorem z_goto (C : z_C p s m args meth c cc nL own D A ks) {o : Int} {t : Nat} (hd : decode cc pc = .ok (.goto o, 3)) (ht : (pc : Int) + o = (t : Int)) (k : z_V p l e R s m args below meth c Q D A N ad nL S Y cells slots (t) L (st)) : z_V p l e R s m args below meth c Q D A N ad nL S Y cells slots (pc) L (st) := by
  intro H locs ls hR hS hl
  exact lv_goto C.1 C.2.1 hd ht (k H locs ls hR hS hl)
theorem z_icmp_eq (C : z_C p s m args meth c cc nL own D A ks) {x y o : Int} {t : Nat} (hd : decode cc pc = .ok (.if_icmp .eq o, 3)) (ht : (pc : Int) + o = (t : Int)) (hx : z_rg x) (hy : z_rg y) (kt : x = y → z_V p l e R s m args below meth c Q D A N ad nL S Y cells slots (t) L (st)) (kf : ¬ x = y → z_V p l e R s m args below meth c Q D A N ad nL S Y cells slots (pc + 3) L (st)) : z_V p l e R s m args below meth c Q D A N ad nL S Y cells slots (pc) L (z_v y :: z_v x :: st) := by
  intro H locs ls hR hS hl
  exact lv_icmp_eq C.1 C.2.1 hd ht (fun h => kt ((z_eq hx hy).mp h) H locs ls hR hS hl) (fun h => kf (fun g => h ((z_eq hx hy).mpr g)) H locs ls hR hS hl)
theorem z_if_eq (C : z_C p s m args meth c cc nL own D A ks) {x o : Int} {t : Nat} (hd : decode cc pc = .ok (.ifCond .eq o, 3)) (ht : (pc : Int) + o = (t : Int)) (hx : z_rg x) (kt : x = 0 → z_V p l e R s m args below meth c Q D A N ad nL S Y cells slots (t) L (st)) (kf : ¬ x = 0 → z_V p l e R s m args below meth c Q D A N ad nL S Y cells slots (pc + 3) L (st)) : z_V p l e R s m args below meth c Q D A N ad nL S Y cells slots (pc) L (z_v x :: st) := by
  intro H locs ls hR hS hl
  exact lv_if_eq C.1 C.2.1 hd ht (fun h => kt ((z_eq hx z_rg0).mp h) H locs ls hR hS hl) (fun h => kf (fun g => h ((z_eq hx z_rg0).mpr g)) H locs ls hR hS hl)
theorem z_icmp_ne (C : z_C p s m args meth c cc nL own D A ks) {x y o : Int} {t : Nat} (hd : decode cc pc = .ok (.if_icmp .ne o, 3)) (ht : (pc : Int) + o = (t : Int)) (hx : z_rg x) (hy : z_rg y) (kt : ¬ x = y → z_V p l e R s m args below meth c Q D A N ad nL S Y cells slots (t) L (st)) (kf : x = y → z_V p l e R s m args below meth c Q D A N ad nL S Y cells slots (pc + 3) L (st)) : z_V p l e R s m args below meth c Q D A N ad nL S Y cells slots (pc) L (z_v y :: z_v x :: st) := by
  intro H locs ls hR hS hl
  exact lv_icmp_ne C.1 C.2.1 hd ht (fun h => kt (fun g => h ((z_eq hx hy).mpr g)) H locs ls hR hS hl) (fun h => kf ((z_eq hx hy).mp h) H locs ls hR hS hl)
theorem z_if_ne (C : z_C p s m args meth c cc nL own D A ks) {x o : Int} {t : Nat} (hd : decode cc pc = .ok (.ifCond .ne o, 3)) (ht : (pc : Int) + o = (t : Int)) (hx : z_rg x) (kt : ¬ x = 0 → z_V p l e R s m args below meth c Q D A N ad nL S Y cells slots (t) L (st)) (kf : x = 0 → z_V p l e R s m args below meth c Q D A N ad nL S Y cells slots (pc + 3) L (st)) : z_V p l e R s m args below meth c Q D A N ad nL S Y cells slots (pc) L (z_v x :: st) := by
  intro H locs ls hR hS hl
  exact lv_if_ne C.1 C.2.1 hd ht (fun h => kt (fun g => h ((z_eq hx z_rg0).mpr g)) H locs ls hR hS hl) (fun h => kf ((z_eq hx z_rg0).mp h) H locs ls hR hS hl)
theorem z_icmp_lt (C : z_C p s m args meth c cc nL own D A ks) {x y o : Int} {t : Nat} (hd : decode cc pc = .ok (.if_icmp .lt o, 3)) (ht : (pc : Int) + o = (t : Int)) (hx : z_rg x) (hy : z_rg y) (kt : x < y → z_V p l e R s m args below meth c Q D A N ad nL S Y cells slots (t) L (st)) (kf : y ≤ x → z_V p l e R s m args below meth c Q D A N ad nL S Y cells slots (pc + 3) L (st)) : z_V p l e R s m args below meth c Q D A N ad nL S Y cells slots (pc) L (z_v y :: z_v x :: st) := by
  intro H locs ls hR hS hl
  exact lv_icmp_lt C.1 C.2.1 hd ht (fun h => kt ((z_lt hx hy).mp h) H locs ls hR hS hl) (fun h => kf (Int.not_lt.mp (fun g => h ((z_lt hx hy).mpr g))) H locs ls hR hS hl)
theorem z_if_lt (C : z_C p s m args meth c cc nL own D A ks) {x o : Int} {t : Nat} (hd : decode cc pc = .ok (.ifCond .lt o, 3)) (ht : (pc : Int) + o = (t : Int)) (hx : z_rg x) (kt : x < 0 → z_V p l e R s m args below meth c Q D A N ad nL S Y cells slots (t) L (st)) (kf : 0 ≤ x → z_V p l e R s m args below meth c Q D A N ad nL S Y cells slots (pc + 3) L (st)) : z_V p l e R s m args below meth c Q D A N ad nL S Y cells slots (pc) L (z_v x :: st) := by
  intro H locs ls hR hS hl
  exact lv_if_lt C.1 C.2.1 hd ht (fun h => kt ((z_lt hx z_rg0).mp h) H locs ls hR hS hl) (fun h => kf (Int.not_lt.mp (fun g => h ((z_lt hx z_rg0).mpr g))) H locs ls hR hS hl)
theorem z_icmp_ge (C : z_C p s m args meth c cc nL own D A ks) {x y o : Int} {t : Nat} (hd : decode cc pc = .ok (.if_icmp .ge o, 3)) (ht : (pc : Int) + o = (t : Int)) (hx : z_rg x) (hy : z_rg y) (kt : y ≤ x → z_V p l e R s m args below meth c Q D A N ad nL S Y cells slots (t) L (st)) (kf : x < y → z_V p l e R s m args below meth c Q D A N ad nL S Y cells slots (pc + 3) L (st)) : z_V p l e R s m args below meth c Q D A N ad nL S Y cells slots (pc) L (z_v y :: z_v x :: st) := by
  intro H locs ls hR hS hl
  exact lv_icmp_ge C.1 C.2.1 hd ht (fun h => kt ((z_le hy hx).mp h) H locs ls hR hS hl) (fun h => kf (Int.not_le.mp (fun g => h ((z_le hy hx).mpr g))) H locs ls hR hS hl)
theorem z_if_ge (C : z_C p s m args meth c cc nL own D A ks) {x o : Int} {t : Nat} (hd : decode cc pc = .ok (.ifCond .ge o, 3)) (ht : (pc : Int) + o = (t : Int)) (hx : z_rg x) (kt : 0 ≤ x → z_V p l e R s m args below meth c Q D A N ad nL S Y cells slots (t) L (st)) (kf : x < 0 → z_V p l e R s m args below meth c Q D A N ad nL S Y cells slots (pc + 3) L (st)) : z_V p l e R s m args below meth c Q D A N ad nL S Y cells slots (pc) L (z_v x :: st) := by
  intro H locs ls hR hS hl
  exact lv_if_ge C.1 C.2.1 hd ht (fun h => kt ((z_le z_rg0 hx).mp h) H locs ls hR hS hl) (fun h => kf (Int.not_le.mp (fun g => h ((z_le z_rg0 hx).mpr g))) H locs ls hR hS hl)
theorem z_icmp_gt (C : z_C p s m args meth c cc nL own D A ks) {x y o : Int} {t : Nat} (hd : decode cc pc = .ok (.if_icmp .gt o, 3)) (ht : (pc : Int) + o = (t : Int)) (hx : z_rg x) (hy : z_rg y) (kt : y < x → z_V p l e R s m args below meth c Q D A N ad nL S Y cells slots (t) L (st)) (kf : x ≤ y → z_V p l e R s m args below meth c Q D A N ad nL S Y cells slots (pc + 3) L (st)) : z_V p l e R s m args below meth c Q D A N ad nL S Y cells slots (pc) L (z_v y :: z_v x :: st) := by
  intro H locs ls hR hS hl
  exact lv_icmp_gt C.1 C.2.1 hd ht (fun h => kt ((z_lt hy hx).mp h) H locs ls hR hS hl) (fun h => kf (Int.not_lt.mp (fun g => h ((z_lt hy hx).mpr g))) H locs ls hR hS hl)
theorem z_if_gt (C : z_C p s m args meth c cc nL own D A ks) {x o : Int} {t : Nat} (hd : decode cc pc = .ok (.ifCond .gt o, 3)) (ht : (pc : Int) + o = (t : Int)) (hx : z_rg x) (kt : 0 < x → z_V p l e R s m args below meth c Q D A N ad nL S Y cells slots (t) L (st)) (kf : x ≤ 0 → z_V p l e R s m args below meth c Q D A N ad nL S Y cells slots (pc + 3) L (st)) : z_V p l e R s m args below meth c Q D A N ad nL S Y cells slots (pc) L (z_v x :: st) := by
  intro H locs ls hR hS hl
  exact lv_if_gt C.1 C.2.1 hd ht (fun h => kt ((z_lt z_rg0 hx).mp h) H locs ls hR hS hl) (fun h => kf (Int.not_lt.mp (fun g => h ((z_lt z_rg0 hx).mpr g))) H locs ls hR hS hl)
theorem z_icmp_le (C : z_C p s m args meth c cc nL own D A ks) {x y o : Int} {t : Nat} (hd : decode cc pc = .ok (.if_icmp .le o, 3)) (ht : (pc : Int) + o = (t : Int)) (hx : z_rg x) (hy : z_rg y) (kt : x ≤ y → z_V p l e R s m args below meth c Q D A N ad nL S Y cells slots (t) L (st)) (kf : y < x → z_V p l e R s m args below meth c Q D A N ad nL S Y cells slots (pc + 3) L (st)) : z_V p l e R s m args below meth c Q D A N ad nL S Y cells slots (pc) L (z_v y :: z_v x :: st) := by
  intro H locs ls hR hS hl
  exact lv_icmp_le C.1 C.2.1 hd ht (fun h => kt ((z_le hx hy).mp h) H locs ls hR hS hl) (fun h => kf (Int.not_le.mp (fun g => h ((z_le hx hy).mpr g))) H locs ls hR hS hl)
theorem z_if_le (C : z_C p s m args meth c cc nL own D A ks) {x o : Int} {t : Nat} (hd : decode cc pc = .ok (.ifCond .le o, 3)) (ht : (pc : Int) + o = (t : Int)) (hx : z_rg x) (kt : x ≤ 0 → z_V p l e R s m args below meth c Q D A N ad nL S Y cells slots (t) L (st)) (kf : 0 < x → z_V p l e R s m args below meth c Q D A N ad nL S Y cells slots (pc + 3) L (st)) : z_V p l e R s m args below meth c Q D A N ad nL S Y cells slots (pc) L (z_v x :: st) := by
  intro H locs ls hR hS hl
  exact lv_if_le C.1 C.2.1 hd ht (fun h => kt ((z_le hx z_rg0).mp h) H locs ls hR hS hl) (fun h => kf (Int.not_le.mp (fun g => h ((z_le hx z_rg0).mpr g))) H locs ls hR hS hl)
theorem z_ifnull (C : z_C p s m args meth c cc nL own D A ks) {q : Nat} {o : Int} (hd : decode cc pc = .ok (.ifnull o, 3)) (k : z_V p l e R s m args below meth c Q D A N ad nL S Y cells slots (pc + 3) L (st)) : z_V p l e R s m args below meth c Q D A N ad nL S Y cells slots (pc) L (.ref q :: st) := by
  intro H locs ls hR hS hl
  exact lv_ifnull C.1 C.2.1 hd (k H locs ls hR hS hl)
theorem z_ifnullN (C : z_C p s m args meth c cc nL own D A ks) {o : Int} {t : Nat} (hd : decode cc pc = .ok (.ifnull o, 3)) (ht : (pc : Int) + o = (t : Int)) (k : z_V p l e R s m args below meth c Q D A N ad nL S Y cells slots (t) L (st)) : z_V p l e R s m args below meth c Q D A N ad nL S Y cells slots (pc) L (.null :: st) := by
  intro H locs ls hR hS hl
  exact lv_ifnullN C.1 C.2.1 hd ht (k H locs ls hR hS hl)
theorem z_ifnonnull (C : z_C p s m args meth c cc nL own D A ks) {q : Nat} {o : Int} {t : Nat} (hd : decode cc pc = .ok (.ifnonnull o, 3)) (ht : (pc : Int) + o = (t : Int)) (k : z_V p l e R s m args below meth c Q D A N ad nL S Y cells slots (t) L (st)) : z_V p l e R s m args below meth c Q D A N ad nL S Y cells slots (pc) L (.ref q :: st) := by
  intro H locs ls hR hS hl
  exact lv_ifnonnull C.1 C.2.1 hd ht (k H locs ls hR hS hl)
theorem z_ifnonnullN (C : z_C p s m args meth c cc nL own D A ks) {o : Int} (hd : decode cc pc = .ok (.ifnonnull o, 3)) (k : z_V p l e R s m args below meth c Q D A N ad nL S Y cells slots (pc + 3) L (st)) : z_V p l e R s m args below meth c Q D A N ad nL S Y cells slots (pc) L (.null :: st) := by
  intro H locs ls hR hS hl
  exact lv_ifnonnullN C.1 C.2.1 hd (k H locs ls hR hS hl)
theorem z_tabOut (C : z_C p s m args meth c cc nL own D A ks) {d lo hi x : Int} {os : Array Int} {n t : Nat} (hd : decode cc pc = .ok (.tableswitch d lo hi os, n)) (hx : z_rg x) (h : x < lo ∨ hi < x) (ht : (pc : Int) + d = (t : Int)) (k : z_V p l e R s m args below meth c Q D A N ad nL S Y cells slots (t) L (st)) : z_V p l e R s m args below meth c Q D A N ad nL S Y cells slots (pc) L (z_v x :: st) := by
  intro H locs ls hR hS hl
  exact lv_tableOut C.1 C.2.1 hd (by rw [z_to hx]; exact h) ht (k H locs ls hR hS hl)
theorem z_tabIn (C : z_C p s m args meth c cc nL own D A ks) {d lo hi o : Int} (x : Int) {os : Array Int} {n t : Nat} (hd : decode cc pc = .ok (.tableswitch d lo hi os, n)) (hx : z_rg x) (h1 : ¬ x < lo) (h2 : ¬ hi < x) (ho : os[(x - lo).toNat]? = some o) (ht : (pc : Int) + o = (t : Int)) (k : z_V p l e R s m args below meth c Q D A N ad nL S Y cells slots (t) L (st)) : z_V p l e R s m args below meth c Q D A N ad nL S Y cells slots (pc) L (z_v x :: st) := by
  intro H locs ls hR hS hl
  exact lv_tableIn C.1 C.2.1 hd (by rw [z_to hx]; exact h1) (by rw [z_to hx]; exact h2) (by rw [z_to hx]; exact ho) ht (k H locs ls hR hS hl)
theorem z_look (C : z_C p s m args meth c cc nL own D A ks) {d o x : Int} {ps : Array (Int × Int)} {n t : Nat} (hd : decode cc pc = .ok (.lookupswitch d ps, n)) (hp : (ps.toList.zip (ps.toList.drop 1)).all (fun (a, next) => a.1 < next.1) = true) (hx : z_rg x) (ho : Op.lookupswitch.offset ps.toList d x = o) (ht : (pc : Int) + o = (t : Int)) (k : z_V p l e R s m args below meth c Q D A N ad nL S Y cells slots (t) L (st)) : z_V p l e R s m args below meth c Q D A N ad nL S Y cells slots (pc) L (z_v x :: st) := by
  intro H locs ls hR hS hl
  exact lv_lookup C.1 C.2.1 hd hp (by rw [z_to hx]; exact ho) ht (k H locs ls hR hS hl)
end ZROWS
end
section
section ZW
variable {p : Program} {l : Launch} {e : Env} {R : Room} {s : State} {m : MethodId} {args : Array Value} {below : List Frame} {meth : Method} {c : Code} {Q : State → Prop} {H : Heap} {locs : List Loc} {cells slots pc a : Nat} {ls : Array Slot} {rest : List Value} {cc : ByteArray} {D : va_G} {cl : List vw_C} {tys : List (ClassId × FieldType)}
/-- putfield, with what it leaves alone -/
theorem z_Wput (hexec : p.tables.exec = Jvm.exec) (hb : c.code = cc) {own C : String} {T : u_T} {N ci index : Nat} {Ts : List Cond} (hts : ∀ w ∈ Ts, w.before args s = true) (hin : ∀ w ∈ u_ws C T N, w ∈ Ts) (ty0 : Nat → FieldType) (hty : ∀ k, k < N → parseFieldDescriptor (T k).2.2.1 = some (ty0 k)) (hnm : ∀ a, a < N → ∀ b, b < N → a ≠ b → (T a).2.1 ≠ (T b).2.1) (hown : s.vm.findClass own = some m.cls) (hK : va_K D cl tys s) {fs : List Value} (hP : va_at D cl (a, .inr (ci, fs)) H) (hc : cl[ci]? = some (C, T, N)) (k : Nat) (hk : k < N) (hlink : (Cond.fieldLink own index (T k).1 (T k).2.1 (T k).2.2.1).before args s = true) (hfin : (T k).2.2.2 = false ∨ ((T k).2.2.2 = true ∧ meth.name = "<init>" ∧ (T k).1 = own)) {ty : FieldType} {v : Value} (hd : parseFieldDescriptor (T k).2.2.1 = some ty) (hn : narrow ty v = v) (hfit : fits ty v = true) (hl : k < fs.length)
    (hdg : decode cc pc = .ok (.putfield index, 3)) (kk : ∀ (H1 : Heap) (j : Nat), va_at D cl (a, .inr (ci, fs.set k v)) H1 → H1.size = H.size → (∀ q : Nat, q ≠ a → H1[q]? = H[q]?) → W p l e R s m args below meth c H1 (locs ++ [⟨a, j⟩]) cells slots Q (F0 m (pc + 3) ls rest)) : W p l e R s m args below meth c H locs cells slots Q (F0 m pc ls (v :: .ref a :: rest)) := by
  have hap := va_apart (own := own) hts hin ty0 hty hnm hK hc
  obtain ⟨r, h1, cell, q1, q2, q3, q4⟩ := hP
  have hr : r = (C, T, N) := Option.some.inj (h1.symm.trans hc)
  subst hr
  obtain ⟨hS, hfc, kC, hkC, hkind⟩ := hK.1 ci _ hc
  obtain ⟨cf, kf, fi, f, hi, hsl⟩ := hS k hk
  have hlay := hts _ (hin _ (u_in_lay hk))
  have hst := (u_facts hfc hkC (u_lays hts hin hk) hi).1
  unfold u_lay at hlay
  rcases hfin with hfin | ⟨hfin, hin2, hdecl⟩
  · rw [if_neg (by rw [hfin]; decide)] at hlay
    have h6 := u_store hfc hkC hkind hlay hi hd hn hfit
    refine W.putK hexec hb (f := f) ⟨hown, hlink, ⟨_, _, _, hi⟩, hst⟩ (by rw [q2]; exact h6) q1 q3 (by rw [hsl]; exact k2_hasslot (q4 k hk)) rfl rfl hdg fun H' e1 e2 e3 => ?_
    rw [hsl] at e1 ⊢
    exact kk H' _ ⟨_, hc, t_OB.to (V := updV (vp_V fs) k v) ⟨_, e1, q2, q3, t_set q4 hap hk v⟩ (fun j _ => vp_updV_set hl v j)⟩ e2 e3
  · rw [if_pos hfin] at hlay
    have hcf : m.cls = cf := by
      obtain ⟨_, _, c', _, _, _, -, -, hf', -, -, -, hown2, -⟩ := Cond.laysFinal_spec hlay
      have e1 : c' = cf := by have := hi.symm.trans hf'; simp at this; exact this.1.symm
      rw [hdecl] at hown2
      rw [← e1]; exact Option.some.inj (hown.symm.trans hown2)
    have h6 := u_fits hfc hkC hkind (Or.inr hlay) hi hd hn hfit
    refine W.putFinK hexec hb hown hlink hi hst hcf hin2 (by rw [q2]; exact h6) q1 q3 (by rw [hsl]; exact k2_hasslot (q4 k hk)) rfl rfl hdg fun H' e1 e2 e3 => ?_
    rw [hsl] at e1 ⊢
    exact kk H' _ ⟨_, hc, t_OB.to (V := updV (vp_V fs) k v) ⟨_, e1, q2, q3, t_set q4 hap hk v⟩ (fun j _ => vp_updV_set hl v j)⟩ e2 e3
theorem z_Wiast (hexec : p.tables.exec = Jvm.exec) (hb : c.code = cc) (hK : va_K D cl tys s) (t0 : Nat) {cA : ClassId} {n : Nat} {f : Nat → Int32} (hP : va_at D cl (a, .inl (cA, n, .inl f)) H) (ht : tys[t0]? = some (cA, .int)) {i : Int32} {x : Int32} (hin : vp_in i n) (hdg : decode cc pc = .ok (.iastore, 1))
    (kk : ∀ (H1 : Heap) (j : Nat), va_at D cl (a, .inl (cA, n, .inl (upd f i.toNatClampNeg x))) H1 → H1.size = H.size → (∀ q : Nat, q ≠ a → H1[q]? = H[q]?) → W p l e R s m args below meth c H1 (locs ++ [⟨a, j⟩]) cells slots Q (F0 m (pc + 1) ls rest)) : W p l e R s m args below meth c H locs cells slots Q (F0 m pc ls (.int x :: .int i :: .ref a :: rest)) := by
  refine W.iast hexec hb hP ((hK.2 t0 _ ht).1 n (fun j => .int (f j))) (fun q => by cases q) (by show ¬ (i < 0 ∨ (arrV _ _ _).slots.size ≤ _); rw [arrV_size]; exact hin) rfl rfl hdg fun H1 e z oq => ?_
  refine kk H1 _ ?_ z oq
  show H1[a]? = some (vp_cell _ _)
  rw [e]
  rw [vp_cell_i, vp_cell_i, arrV_store]
  congr 2
  funext q
  by_cases hq : q = i.toNatClampNeg
  · subst hq
    simp [updV, upd]
  · simp [updV, upd, hq]
theorem z_Waast (hexec : p.tables.exec = Jvm.exec) (hb : c.code = cc) (hK : va_K D cl tys s) (t0 ci : Nat) {cA : ClassId} {r : vw_C} {n v : Nat} {vs : List Value} {f : Nat → Option Nat} (hP : va_at D cl (a, .inl (cA, n, .inr (.inr (.inr (.inr f))))) H) (ht : tys[t0]? = some (cA, .object r.1)) (hv : va_at D cl (v, .inr (ci, vs)) H) (hc : cl[ci]? = some r) {i : Int32} (hin : vp_in i n) (hdg : decode cc pc = .ok (.aastore, 1))
    (kk : ∀ (H1 : Heap) (j : Nat), va_at D cl (a, .inl (cA, n, .inr (.inr (.inr (.inr (va_up f i.toNatClampNeg (some v))))))) H1 → H1.size = H.size → (∀ q : Nat, q ≠ a → H1[q]? = H[q]?) → W p l e R s m args below meth c H1 (locs ++ [⟨a, j⟩]) cells slots Q (F0 m (pc + 1) ls rest)) : W p l e R s m args below meth c H locs cells slots Q (F0 m pc ls (.ref v :: .int i :: .ref a :: rest)) := by
  have hlt : i.toNatClampNeg < n := Nat.not_le.mp fun q => hin (Or.inr q)
  have h0 : ¬ i < 0 := fun q => hin (Or.inl q)
  obtain ⟨r', hr', cellV, g1, g2, g3, -⟩ := hv
  have hcls := (hK.1 ci r hc).2
  obtain ⟨kA, comp, k1, k2, k3, -⟩ := (hK.2 t0 _ ht).2
  have hcomp : comp = D.1 ci := Option.some.inj (k3.symm.trans hcls.1)
  subst hcomp
  obtain ⟨kC, hkC, -⟩ := hcls.2
  refine W.aast hexec hb hP (fun q h => by cases h) (fun h => by cases h) k1 k2 rfl hkC ⟨h0, by show _ < (arrV _ _ _).slots.size; rw [arrV_size]; exact hlt⟩ g1 (fun q h => by rw [g3] at h; cases h) (by rw [g2]; exact hkC) (by rw [g2]; exact va_assign hcls) rfl rfl hdg fun H1 e z oq => ?_
  refine kk H1 _ ?_ z oq
  show H1[a]? = some (vp_cell _ _)
  rw [e]
  rw [vp_cell_q, vp_cell_q, arrV_store]
  congr 2
  funext q
  by_cases hq : q = i.toNatClampNeg
  · subst hq
    simp [updV, va_up, va_rf]
  · simp [updV, va_up, hq]
theorem z_Wcopy (hexec : p.tables.exec = Jvm.exec) (hb : c.code = cc) (hml : c.maxLocals = ls.size) {own : String} {index : Nat} (hown : s.vm.findClass own = some m.cls) (hlink : (Cond.methodLink own index arraycopyName).before args s = true) (hnat : (Cond.native arraycopyName).before args s = true) (hstat : (Cond.static arraycopyName).before args s = true) (hini : (Cond.initialized "java/lang/System").before args s = true)
    (hK : va_K D cl tys s) (t0 : Nat) {a0 : Nat} {c0 : ClassId} {n0 n1 : Nat} {f g : Nat → Int32} (hc0 : va_at D cl (a0, .inl (c0, n0, .inl f)) H) (hc1 : va_at D cl (a, .inl (c0, n1, .inl g)) H) (ht0 : tys[t0]? = some (c0, .int))
    {sp dp n : Int32} (h1 : ¬ sp < 0) (h2 : ¬ dp < 0) (h3 : ¬ n < 0) (h4 : sp.toNatClampNeg + n.toNatClampNeg ≤ n0) (h5 : dp.toNatClampNeg + n.toNatClampNeg ≤ n1)
    (hframes : 1 ≤ R.frames) (hlocals : (rest.map fun v => v.category).sum + (nativeFrameWords "java/lang/System" "arraycopy" 5 + 11) ≤ R.locals) (hdg : decode cc pc = .ok (.invokestatic index, 3))
    (kk : ∀ (H1 : Heap) (lo : List Loc), (∀ q ∈ lo, q.base = a) → va_at D cl (a, .inl (c0, n1, .inl (va_cpy f g sp.toNatClampNeg dp.toNatClampNeg n.toNatClampNeg))) H1 → H1.size = H.size → (∀ q : Nat, q ≠ a → H1[q]? = H[q]?) → W p l e R s m args below meth c H1 (locs ++ lo) cells slots Q (F0 m (pc + 3) ls rest)) : W p l e R s m args below meth c H locs cells slots Q (F0 m pc ls (.int n :: .int dp :: .ref a :: .int sp :: .ref a0 :: rest)) := by
  have nn : ∀ z : Int32, ¬ z < 0 → z.toInt = (z.toNatClampNeg : Int) := by
    intro z hz
    have hz0 : (0 : Int) ≤ z.toInt := by
      have := Int32.not_lt.mp hz
      simpa using Int32.le_iff_toInt_le.mp this
    show z.toInt = ((z.toInt.toNat : Nat) : Int)
    omega
  intro T hT X
  have hc0 : H[a0]? = some (vp_cell c0 (n0, .inl f)) := hc0
  have hc1 : H[a]? = some (vp_cell c0 (n1, .inl g)) := hc1
  obtain ⟨-, k0, hk0, cm0, hkk0⟩ := (hK.2 t0 _ ht0).1 n0 (fun j => .int (f j))
  obtain ⟨-, k1, hk1, cm1, hkk1⟩ := (hK.2 t0 _ ht0).1 n1 (fun j => .int (g j))
  obtain ⟨vm', X', step⟩ := X.arraycopy hexec hown hlink hnat hstat hini (src := a0) (dst := a) (cs := vp_cell c0 (n0, .inl f)) (cd := vp_cell c0 (n1, .inl g)) (srcPos := sp) (destPos := dp) (n := n) (by rw [hT]; exact hc0) (by rw [hT]; exact hc1)
    (fun _ h => by cases h) (fun _ h => by cases h) (fun h => by cases h) (fun h => by cases h) hk0 hk1 hkk0 hkk1 (by simp [refKind]) h1 h2 h3
    (by rw [nn sp h1, nn n h3]; show ¬ _ > ((arrV c0 n0 (fun j => .int (f j))).slots.size : Int); rw [arrV_size]; omega)
    (by rw [nn dp h2, nn n h3]; show ¬ _ > ((arrV c0 n1 (fun j => .int (g j))).slots.size : Int); rw [arrV_size]; omega)
    (fun vm₁ _ i hi => by
      have e : (vp_cell c0 (n0, .inl f)).slots.getD (sp.toNatClampNeg + i) .null = .int (f (sp.toNatClampNeg + i)) := by
        show (arrV c0 n0 (fun j => .int (f j))).slots.getD _ _ = _
        rw [Array.getD_eq_getD_getElem?, arrV_read _ _ (by omega)]
        rfl
      refine ⟨?_, ?_⟩
      · rw [e]
        rfl
      · rw [e]
        exact trivial)
    (g := F0 m pc ls (.int n :: .int dp :: .ref a :: .int sp :: .ref a0 :: rest)) rfl (by rw [hml]) (rest := rest) rfl (by rw [hb]; exact hdg) hframes (by show 2 * 0 + _ + _ ≤ _; omega)
  have e1 : copied (vp_cell c0 (n0, .inl f)) (vp_cell c0 (n1, .inl g)) sp dp n = vp_cell c0 (n1, .inl (va_cpy f g sp.toNatClampNeg dp.toNatClampNeg n.toNatClampNeg)) := va_copied (fun z => .int z) c0 c0 f g h4
  rw [e1] at X' step
  have hl : a < H.size := (Array.getElem?_eq_some_iff.mp hc1).1
  have hheap : ((T.setVm vm').setCell a (vp_cell c0 (n1, .inl (va_cpy f g sp.toNatClampNeg dp.toNatClampNeg n.toNatClampNeg)))).heap = H.setIfInBounds a (vp_cell c0 (n1, .inl (va_cpy f g sp.toNatClampNeg dp.toNatClampNeg n.toNatClampNeg))) := by rw [← hT]; rfl
  have oq : ∀ q : Nat, q ≠ a → (H.setIfInBounds a (vp_cell c0 (n1, .inl (va_cpy f g sp.toNatClampNeg dp.toNatClampNeg n.toNatClampNeg))))[q]? = H[q]? := fun q hq => by simp [Array.getElem?_setIfInBounds, Ne.symm hq]
  obtain ⟨t, a1, b1⟩ := kk _ _ (fun q hq => by
      obtain ⟨z, -, hz⟩ := List.mem_map.mp hq
      rw [← hz]) (show (H.setIfInBounds a _)[a]? = some _ by simp [Array.getElem?_setIfInBounds, hl]) (by simp) oq _ hheap X'
  exact ⟨t, step t a1, b1⟩
end ZW
theorem z_S.put {A : Nat → Prop} {H0 H H1 : Heap} {locs lo : List Loc} {a : Nat} (h : va_S A H0 H locs) (z : H1.size = H.size) (oq : ∀ q : Nat, q ≠ a → H1[q]? = H[q]?) (ha : A a) (hlo : ∀ q ∈ lo, q.base = a) : va_S A H0 H1 (locs ++ lo) := by
  refine ⟨by rw [z]; exact h.1, fun q h1 h2 => ?_, fun q hq => ?_⟩
  · rw [oq q (fun e => h2 (by rw [e]; exact ha))]
    exact h.2.1 q h1 h2
  · rcases List.mem_append.mp hq with h1 | h1
    · exact h.2.2 q h1
    · rw [hlo q h1]
      exact ha
theorem z_S.new {A : Nat → Prop} {H0 H H1 : Heap} {locs : List Loc} (h : va_S A H0 H locs) (z : H1.size = H.size + 1) (oq : ∀ q : Nat, q < H.size → H1[q]? = H[q]?) : va_S A H0 H1 locs :=
  ⟨Nat.le_trans h.1 (by omega), fun x h1 h2 => (oq x (Nat.lt_of_lt_of_le h1 h.1)).trans (h.2.1 x h1 h2), h.2.2⟩
theorem z_updI (f : Nat → Int) (i x : Int) (h0 : 0 ≤ i) (h : i < 2147483648) : upd (fun j => z_i (f j)) (z_i i).toNatClampNeg (z_i x) = fun j => z_i (va_up f i.toNat x j) := by
  funext j
  rw [z_cl0 h0 h]
  by_cases hj : j = i.toNat <;> simp [upd, va_up, hj]
theorem z_one {α : Type} {a : α} : ∀ q ∈ [a], q = a := fun q h => List.mem_singleton.mp h
end
section
section ZHEAP
variable {p : Program} {l : Launch} {e : Env} {R : Room} {s : State} {m : MethodId} {args : Array Value} {below : List Frame} {meth : Method} {c : Code} {Q : State → Prop} {D : va_G} {A : Nat → Prop} {N : Nat} {ad : Nat → Nat} {nL : Nat} {S S' : Nat → va_E} {Y Y' : Nat → Option va_E} {cells slots pc : Nat} {L : List (Nat × Value)} {st : List Value} {cc : ByteArray} {own : String} {ks : z_Ks}
theorem z_ext (h : ∀ k, k < N → S k = S' k) (k : z_V p l e R s m args below meth c Q D A N ad nL S' Y cells slots pc L st) : z_V p l e R s m args below meth c Q D A N ad nL S Y cells slots pc L st := fun H locs ls hR hS hl => k H locs ls (hR.ext h) hS hl
theorem z_wide {k n : Nat} (h1 : cells ≤ k) (h2 : slots ≤ n) (kk : z_V p l e R s m args below meth c Q D A N ad nL S Y k n pc L st) : z_V p l e R s m args below meth c Q D A N ad nL S Y cells slots pc L st := fun H locs ls hR hS hl => W.widen h1 h2 (kk H locs ls hR hS hl)
/-- fewer locals, in another order -/
theorem z_loc {L' : List (Nat × Value)} (is : List Nat) (h : lv_pick L is = L') (k : z_V p l e R s m args below meth c Q D A N ad nL S Y cells slots pc L' st) : z_V p l e R s m args below meth c Q D A N ad nL S Y cells slots pc L st := fun H locs ls hR hS hl => k H locs ls hR hS (lv_sub hl is h)
/-- a field of a numbered cell -/
theorem z_get (C : z_C p s m args meth c cc nL own D A ks) {r : vw_C} {ci idx : Nat} {fs : List Value} {v : Value} {nm ds rf : String} (k : Nat) (hk : k < N) (he : S k = .inr (ci, fs)) (hc : z_cl[ci]? = some r) (hin : ∀ w ∈ u_ws r.1 r.2.1 r.2.2, w ∈ z_tbl) (j : Nat) (hj : j < r.2.2) (hT : ((r.2.1 j).1, (r.2.1 j).2.1, (r.2.1 j).2.2.1) = (rf, nm, ds)) (hlink : Cond.fieldLink own idx rf nm ds ∈ z_tbl) (hv : fs[j]? = some v) (hd : decode cc pc = .ok (.getfield idx, 3))
    (kk : z_V p l e R s m args below meth c Q D A N ad nL S Y cells slots (pc + 3) L (v :: st)) : z_V p l e R s m args below meth c Q D A N ad nL S Y cells slots pc L (.ref (ad k) :: st) := by
  intro H locs ls hR hS hl
  obtain ⟨hP, hD⟩ := hR.one hk
  rw [he] at hP
  obtain ⟨C0, T, n⟩ := r
  simp only [Prod.mk.injEq] at hT
  obtain ⟨rfl, rfl, rfl⟩ := hT
  exact va_get (Ts := z_tbl) C.1 C.2.1 C.2.2.2.2.1 hin C.2.2.2.1 C.2.2.2.2.2.1 hP 0 rfl hc j hj (C.2.2.2.2.1 _ hlink) (fun x h => h) hv hd (kk H locs ls hR hS hl)
/-- a field of a further cell -/
theorem z_getY (C : z_C p s m args meth c cc nL own D A ks) {r : vw_C} {ci idx q : Nat} {fs : List Value} {v : Value} {nm ds rf : String} (he : Y q = some (.inr (ci, fs))) (hc : z_cl[ci]? = some r) (hin : ∀ w ∈ u_ws r.1 r.2.1 r.2.2, w ∈ z_tbl) (j : Nat) (hj : j < r.2.2) (hT : ((r.2.1 j).1, (r.2.1 j).2.1, (r.2.1 j).2.2.1) = (rf, nm, ds)) (hlink : Cond.fieldLink own idx rf nm ds ∈ z_tbl) (hv : fs[j]? = some v) (hd : decode cc pc = .ok (.getfield idx, 3))
    (kk : z_V p l e R s m args below meth c Q D A N ad nL S Y cells slots (pc + 3) L (v :: st)) : z_V p l e R s m args below meth c Q D A N ad nL S Y cells slots pc L (.ref q :: st) := by
  intro H locs ls hR hS hl
  obtain ⟨hP, hD⟩ := hR.dyn he
  obtain ⟨C0, T, n⟩ := r
  simp only [Prod.mk.injEq] at hT
  obtain ⟨rfl, rfl, rfl⟩ := hT
  exact va_get (Ts := z_tbl) C.1 C.2.1 C.2.2.2.2.1 hin C.2.2.2.1 C.2.2.2.2.2.1 hP 0 rfl hc j hj (C.2.2.2.2.1 _ hlink) (fun x h => h) hv hd (kk H locs ls hR hS hl)
theorem z_put (C : z_C p s m args meth c cc nL own D A ks) {r : vw_C} {ci idx : Nat} {fs : List Value} {v : Value} {nm ds rf : String} {ty : FieldType} {fin : Bool} (k : Nat) (hk : k < N) (he : S k = .inr (ci, fs)) (hc : z_cl[ci]? = some r) (hin : ∀ w ∈ u_ws r.1 r.2.1 r.2.2, w ∈ z_tbl) (ty0 : Nat → FieldType) (hty : ∀ k, k < r.2.2 → parseFieldDescriptor (r.2.1 k).2.2.1 = some (ty0 k)) (hnm : ∀ a, a < r.2.2 → ∀ b, b < r.2.2 → a ≠ b → (r.2.1 a).2.1 ≠ (r.2.1 b).2.1) (j : Nat) (hj : j < r.2.2) (hT : r.2.1 j = (rf, nm, ds, fin)) (hf : fin = false ∨ (fin = true ∧ meth.name = "<init>" ∧ rf = own)) (hlink : Cond.fieldLink own idx rf nm ds ∈ z_tbl) (hdt : parseFieldDescriptor ds = some ty) (hn : narrow ty v = v) (hfit : fits ty v = true) (hl0 : j < fs.length) (hd : decode cc pc = .ok (.putfield idx, 3))
    (kk : z_V p l e R s m args below meth c Q D A N ad nL (va_up S k (.inr (ci, fs.set j v))) Y cells slots (pc + 3) L st) : z_V p l e R s m args below meth c Q D A N ad nL S Y cells slots pc L (v :: .ref (ad k) :: st) := by
  intro H locs ls hR hS hl
  obtain ⟨C0, T, n⟩ := r
  have hT : T j = (rf, nm, ds, fin) := hT
  have hcell := (hR.1 k hk).2
  rw [he] at hcell
  refine z_Wput (Ts := z_tbl) (T := T) (C := C0) (N := n) (ty := ty) C.1 C.2.1 C.2.2.2.2.1 hin ty0 hty hnm C.2.2.2.1 C.2.2.2.2.2.1 hcell hc j hj (by rw [hT]; exact C.2.2.2.2.1 _ hlink) (by rw [hT]; exact hf) (by rw [hT]; exact hdt) hn hfit hl0 hd ?_
  intro H1 i he1 z oq
  exact kk H1 _ ls (hR.put hk he1 oq) (z_S.put hS z oq (hR.1 k hk).1 (fun q h => by rw [z_one q h])) hl
theorem z_putY (C : z_C p s m args meth c cc nL own D A ks) {r : vw_C} {ci idx q : Nat} {fs : List Value} {v : Value} {nm ds rf : String} {ty : FieldType} {fin : Bool} (he : Y q = some (.inr (ci, fs))) (hc : z_cl[ci]? = some r) (hin : ∀ w ∈ u_ws r.1 r.2.1 r.2.2, w ∈ z_tbl) (ty0 : Nat → FieldType) (hty : ∀ k, k < r.2.2 → parseFieldDescriptor (r.2.1 k).2.2.1 = some (ty0 k)) (hnm : ∀ a, a < r.2.2 → ∀ b, b < r.2.2 → a ≠ b → (r.2.1 a).2.1 ≠ (r.2.1 b).2.1) (j : Nat) (hj : j < r.2.2) (hT : r.2.1 j = (rf, nm, ds, fin)) (hf : fin = false ∨ (fin = true ∧ meth.name = "<init>" ∧ rf = own)) (hlink : Cond.fieldLink own idx rf nm ds ∈ z_tbl) (hdt : parseFieldDescriptor ds = some ty) (hn : narrow ty v = v) (hfit : fits ty v = true) (hl0 : j < fs.length) (hd : decode cc pc = .ok (.putfield idx, 3))
    (kk : z_V p l e R s m args below meth c Q D A N ad nL S (va_up Y q (some (.inr (ci, fs.set j v)))) cells slots (pc + 3) L st) : z_V p l e R s m args below meth c Q D A N ad nL S Y cells slots pc L (v :: .ref q :: st) := by
  intro H locs ls hR hS hl
  obtain ⟨C0, T, n⟩ := r
  have hT : T j = (rf, nm, ds, fin) := hT
  have hcell := hR.2.2 q _ he
  refine z_Wput (Ts := z_tbl) (T := T) (C := C0) (N := n) (ty := ty) C.1 C.2.1 C.2.2.2.2.1 hin ty0 hty hnm C.2.2.2.1 C.2.2.2.2.2.1 hcell.2.2 hc j hj (by rw [hT]; exact C.2.2.2.2.1 _ hlink) (by rw [hT]; exact hf) (by rw [hT]; exact hdt) hn hfit hl0 hd ?_
  intro H1 i he1 z oq
  exact kk H1 _ ls (hR.putY he he1 oq) (z_S.put hS z oq hcell.1 (fun q h => by rw [z_one q h])) hl
/-- int arrays -/
theorem z_iald (C : z_C p s m args meth c cc nL own D A ks) {n : Nat} {f : Nat → Int} {i : Int} (k : Nat) (hk : k < N) (he : S k = z_ar ks.1 n f) (hn : n < 2147483648) (h0 : 0 ≤ i) (h1 : i < n) (hd : decode cc pc = .ok (.iaload, 1))
    (kk : z_V p l e R s m args below meth c Q D A N ad nL S Y cells slots (pc + 1) L (z_v (f i.toNat) :: st)) : z_V p l e R s m args below meth c Q D A N ad nL S Y cells slots pc L (z_v i :: .ref (ad k) :: st) := by
  intro H locs ls hR hS hl
  obtain ⟨hP, hD⟩ := hR.one hk
  rw [he] at hP
  refine va_iald C.1 C.2.1 C.2.2.2.2.2.1 hP 0 0 rfl rfl (z_ix h0 h1 hn) hd ?_
  rw [z_cl0 h0 (by omega)]
  exact kk H locs ls hR hS hl
theorem z_iast (C : z_C p s m args meth c cc nL own D A ks) {n : Nat} {f : Nat → Int} {i x : Int} (k : Nat) (hk : k < N) (he : S k = z_ar ks.1 n f) (hn : n < 2147483648) (h0 : 0 ≤ i) (h1 : i < n) (hd : decode cc pc = .ok (.iastore, 1))
    (kk : z_V p l e R s m args below meth c Q D A N ad nL (va_up S k (z_ar ks.1 n (va_up f i.toNat x))) Y cells slots (pc + 1) L st) : z_V p l e R s m args below meth c Q D A N ad nL S Y cells slots pc L (z_v x :: z_v i :: .ref (ad k) :: st) := by
  intro H locs ls hR hS hl
  have hcell := (hR.1 k hk).2
  rw [he] at hcell
  refine z_Wiast C.1 C.2.1 C.2.2.2.2.2.1 0 hcell rfl (z_ix h0 h1 hn) hd ?_
  intro H1 j he1 z oq
  rw [z_updI f i x h0 (by omega)] at he1
  exact kk H1 _ ls (hR.put hk he1 oq) (z_S.put hS z oq (hR.1 k hk).1 (fun q h => by rw [z_one q h])) hl
/-- arrays of references: numbered, and further ones -/
theorem z_aald (C : z_C p s m args meth c cc nL own D A ks) {cA : ClassId} {n : Nat} {g : Nat → Option Nat} {i : Int} {E : String} (k t0 : Nat) (hk : k < N) (he : S k = z_rr cA n g) (ht : (z_tys ks)[t0]? = some (cA, .object E)) (hn : n < 2147483648) (h0 : 0 ≤ i) (h1 : i < n) (hd : decode cc pc = .ok (.aaload, 1))
    (kk : z_V p l e R s m args below meth c Q D A N ad nL S Y cells slots (pc + 1) L (va_rf (g i.toNat) :: st)) : z_V p l e R s m args below meth c Q D A N ad nL S Y cells slots pc L (z_v i :: .ref (ad k) :: st) := by
  intro H locs ls hR hS hl
  obtain ⟨hP, hD⟩ := hR.one hk
  rw [he] at hP
  refine va_aldq C.1 C.2.1 C.2.2.2.2.2.1 hP 0 t0 rfl ht (z_ix h0 h1 hn) hd ?_
  rw [z_cl0 h0 (by omega)]
  exact kk H locs ls hR hS hl
theorem z_aaldY (C : z_C p s m args meth c cc nL own D A ks) {cA : ClassId} {n q : Nat} {g : Nat → Option Nat} {i : Int} {E : String} (t0 : Nat) (he : Y q = some (z_rr cA n g)) (ht : (z_tys ks)[t0]? = some (cA, .object E)) (hn : n < 2147483648) (h0 : 0 ≤ i) (h1 : i < n) (hd : decode cc pc = .ok (.aaload, 1))
    (kk : z_V p l e R s m args below meth c Q D A N ad nL S Y cells slots (pc + 1) L (va_rf (g i.toNat) :: st)) : z_V p l e R s m args below meth c Q D A N ad nL S Y cells slots pc L (z_v i :: .ref q :: st) := by
  intro H locs ls hR hS hl
  obtain ⟨hP, hD⟩ := hR.dyn he
  refine va_aldq C.1 C.2.1 C.2.2.2.2.2.1 hP 0 t0 rfl ht (z_ix h0 h1 hn) hd ?_
  rw [z_cl0 h0 (by omega)]
  exact kk H locs ls hR hS hl
theorem z_aast (C : z_C p s m args meth c cc nL own D A ks) {cA : ClassId} {n v ci : Nat} {g : Nat → Option Nat} {i : Int} {r : vw_C} {vs : List Value} (k t0 : Nat) (hk : k < N) (he : S k = z_rr cA n g) (ht : (z_tys ks)[t0]? = some (cA, .object r.1)) (hv : Y v = some (.inr (ci, vs))) (hc : z_cl[ci]? = some r) (hn : n < 2147483648) (h0 : 0 ≤ i) (h1 : i < n) (hd : decode cc pc = .ok (.aastore, 1))
    (kk : z_V p l e R s m args below meth c Q D A N ad nL (va_up S k (z_rr cA n (va_up g i.toNat (some v)))) Y cells slots (pc + 1) L st) : z_V p l e R s m args below meth c Q D A N ad nL S Y cells slots pc L (.ref v :: z_v i :: .ref (ad k) :: st) := by
  intro H locs ls hR hS hl
  have hcell := (hR.1 k hk).2
  rw [he] at hcell
  refine z_Waast C.1 C.2.1 C.2.2.2.2.2.1 t0 ci hcell ht (hR.2.2 v _ hv).2.2 hc (z_ix h0 h1 hn) hd ?_
  intro H1 j he1 z oq
  rw [z_cl0 h0 (by omega)] at he1
  exact kk H1 _ ls (hR.put hk he1 oq) (z_S.put hS z oq (hR.1 k hk).1 (fun q h => by rw [z_one q h])) hl
theorem z_aastY (C : z_C p s m args meth c cc nL own D A ks) {cA : ClassId} {n v ci q : Nat} {g : Nat → Option Nat} {i : Int} {r : vw_C} {vs : List Value} (t0 : Nat) (he : Y q = some (z_rr cA n g)) (ht : (z_tys ks)[t0]? = some (cA, .object r.1)) (hv : Y v = some (.inr (ci, vs))) (hc : z_cl[ci]? = some r) (hn : n < 2147483648) (h0 : 0 ≤ i) (h1 : i < n) (hd : decode cc pc = .ok (.aastore, 1))
    (kk : z_V p l e R s m args below meth c Q D A N ad nL S (va_up Y q (some (z_rr cA n (va_up g i.toNat (some v))))) cells slots (pc + 1) L st) : z_V p l e R s m args below meth c Q D A N ad nL S Y cells slots pc L (.ref v :: z_v i :: .ref q :: st) := by
  intro H locs ls hR hS hl
  have hcell := hR.2.2 q _ he
  refine z_Waast C.1 C.2.1 C.2.2.2.2.2.1 t0 ci hcell.2.2 ht (hR.2.2 v _ hv).2.2 hc (z_ix h0 h1 hn) hd ?_
  intro H1 j he1 z oq
  rw [z_cl0 h0 (by omega)] at he1
  exact kk H1 _ ls (hR.putY he he1 oq) (z_S.put hS z oq hcell.1 (fun q h => by rw [z_one q h])) hl
theorem z_alen (C : z_C p s m args meth c cc nL own D A ks) {cA : ClassId} {n : Nat} {a0 : vp_A} {ty : FieldType} (k t0 : Nat) (hk : k < N) (he : S k = .inl (cA, a0)) (hn0 : a0.1 = n) (ht : (z_tys ks)[t0]? = some (cA, ty)) (hd : decode cc pc = .ok (.arraylength, 1))
    (kk : z_V p l e R s m args below meth c Q D A N ad nL S Y cells slots (pc + 1) L (z_v n :: st)) : z_V p l e R s m args below meth c Q D A N ad nL S Y cells slots pc L (.ref (ad k) :: st) := by
  intro H locs ls hR hS hl
  obtain ⟨hP, hD⟩ := hR.one hk
  rw [he] at hP
  refine va_alen C.1 C.2.1 C.2.2.2.2.2.1 hP 0 t0 rfl ht (v := z_i n) (by rw [hn0]; exact (Int32.ofInt_eq_ofNat ..).symm) hd (kk H locs ls hR hS hl)
/-- System.arraycopy between numbered int arrays -/
theorem z_copy (C : z_C p s m args meth c cc nL own D A ks) {idx n0 n1 : Nat} {f g : Nat → Int} {sp dp n : Int} (k0 k1 : Nat) (hk0 : k0 < N) (hk1 : k1 < N) (he0 : S k0 = z_ar ks.1 n0 f) (he1 : S k1 = z_ar ks.1 n1 g) (hm : ∀ w ∈ [Cond.methodLink own idx arraycopyName, Cond.native arraycopyName, Cond.static arraycopyName, Cond.initialized "java/lang/System"], w ∈ z_tbl) (h1 : 0 ≤ sp) (h2 : 0 ≤ dp) (h3 : 0 ≤ n) (h4 : sp + n ≤ n0) (h5 : dp + n ≤ n1) (h6 : n0 < 2147483648) (h7 : n1 < 2147483648) (hfr : 1 ≤ R.frames) (hlo : (st.map fun v => v.category).sum + (nativeFrameWords "java/lang/System" "arraycopy" 5 + 11) ≤ R.locals) (hd : decode cc pc = .ok (.invokestatic idx, 3))
    (kk : z_V p l e R s m args below meth c Q D A N ad nL (va_up S k1 (z_ar ks.1 n1 (va_cpy f g sp.toNat dp.toNat n.toNat))) Y cells slots (pc + 3) L st) : z_V p l e R s m args below meth c Q D A N ad nL S Y cells slots pc L (z_v n :: z_v dp :: .ref (ad k1) :: z_v sp :: .ref (ad k0) :: st) := by
  intro H locs ls hR hS hl
  have hc0 := (hR.1 k0 hk0).2
  have hc1 := (hR.1 k1 hk1).2
  rw [he0] at hc0
  rw [he1] at hc1
  have nn : ∀ z : Int, 0 ≤ z → z < 2147483648 → ¬ z_i z < 0 := fun z h0 h1 q => by
    have := (z_lt (a := z) (b := 0) ⟨by omega, h1⟩ z_rg0).mp q
    omega
  refine z_Wcopy C.1 C.2.1 (C.2.2.1.trans hl.1.symm) C.2.2.2.1 (C.2.2.2.2.1 _ (hm _ (by simp))) (C.2.2.2.2.1 _ (hm _ (by simp))) (C.2.2.2.2.1 _ (hm _ (by simp))) (C.2.2.2.2.1 _ (hm _ (by simp))) C.2.2.2.2.2.1 0 hc0 hc1 rfl (nn _ h1 (by omega)) (nn _ h2 (by omega)) (nn _ h3 (by omega)) (by rw [z_cl0 h1 (by omega), z_cl0 h3 (by omega)]; omega) (by rw [z_cl0 h2 (by omega), z_cl0 h3 (by omega)]; omega) hfr hlo hd ?_
  intro H1 lo hlo he z oq
  rw [z_cl0 h1 (by omega), z_cl0 h2 (by omega), z_cl0 h3 (by omega)] at he
  have hf : va_cpy (fun j => z_i (f j)) (fun j => z_i (g j)) sp.toNat dp.toNat n.toNat = fun j => z_i (va_cpy f g sp.toNat dp.toNat n.toNat j) := by
    funext j
    unfold va_cpy
    split <;> rfl
  rw [hf] at he
  exact kk H1 _ ls (hR.put hk1 he oq) (z_S.put hS z oq (hR.1 k1 hk1).1 hlo) hl
/-- Math.max, Math.min -/
theorem z_max (C : z_C p s m args meth c cc nL own D A ks) {idx : Nat} {x y : Int} (hm : ∀ w ∈ [Cond.methodLink own idx Lib.Math.max.name, Cond.static Lib.Math.max.name, Cond.initialized "java/lang/Math", Cond.code Lib.Math.max.name Lib.Math.max.code 2 (some .int)], w ∈ z_tbl) (hx : z_rg x) (hy : z_rg y) (hfr : 1 ≤ R.frames) (hlo : (st.map fun v => v.category).sum + 13 ≤ R.locals) (hc : cells ≤ R.cells) (hs : slots ≤ R.slots) (hd : decode cc pc = .ok (.invokestatic idx, 3))
    (kk : z_V p l e R s m args below meth c Q D A N ad nL S Y cells slots (pc + 3) L (z_v (if x < y then y else x) :: st)) : z_V p l e R s m args below meth c Q D A N ad nL S Y cells slots pc L (z_v y :: z_v x :: st) := by
  intro H locs ls hR hS hl
  refine va_mmax C.1 C.2.1 (C.2.2.1.trans hl.1.symm) C.2.2.2.1 (C.2.2.2.2.1 _ (hm _ (by simp))) (C.2.2.2.2.1 _ (hm _ (by simp))) (C.2.2.2.2.1 _ (hm _ (by simp))) (C.2.2.2.2.1 _ (hm _ (by simp))) hfr hlo hc hs hd ?_
  have e1 : (if z_i x < z_i y then z_i y else z_i x) = z_i (if x < y then y else x) := by
    by_cases h : x < y
    · rw [if_pos h, if_pos ((z_lt hx hy).mpr h)]
    · rw [if_neg h, if_neg (fun q => h ((z_lt hx hy).mp q))]
  rw [e1]
  exact kk H locs ls hR hS hl
theorem z_min (C : z_C p s m args meth c cc nL own D A ks) {idx : Nat} {x y : Int} (hm : ∀ w ∈ [Cond.methodLink own idx Lib.Math.min.name, Cond.static Lib.Math.min.name, Cond.initialized "java/lang/Math", Cond.code Lib.Math.min.name Lib.Math.min.code 2 (some .int)], w ∈ z_tbl) (hx : z_rg x) (hy : z_rg y) (hfr : 1 ≤ R.frames) (hlo : (st.map fun v => v.category).sum + 13 ≤ R.locals) (hc : cells ≤ R.cells) (hs : slots ≤ R.slots) (hd : decode cc pc = .ok (.invokestatic idx, 3))
    (kk : z_V p l e R s m args below meth c Q D A N ad nL S Y cells slots (pc + 3) L (z_v (if y < x then y else x) :: st)) : z_V p l e R s m args below meth c Q D A N ad nL S Y cells slots pc L (z_v y :: z_v x :: st) := by
  intro H locs ls hR hS hl
  refine va_mmin C.1 C.2.1 (C.2.2.1.trans hl.1.symm) C.2.2.2.1 (C.2.2.2.2.1 _ (hm _ (by simp))) (C.2.2.2.2.1 _ (hm _ (by simp))) (C.2.2.2.2.1 _ (hm _ (by simp))) (C.2.2.2.2.1 _ (hm _ (by simp))) hfr hlo hc hs hd ?_
  have e1 : (if z_i y < z_i x then z_i y else z_i x) = z_i (if y < x then y else x) := by
    by_cases h : y < x
    · rw [if_pos h, if_pos ((z_lt hy hx).mpr h)]
    · rw [if_neg h, if_neg (fun q => h ((z_lt hy hx).mp q))]
  rw [e1]
  exact kk H locs ls hR hS hl
/-- new: an object, an array of ints, an array of references -/
theorem z_new (C : z_C p s m args meth c cc nL own D A ks) {r : vw_C} {ci idx : Nat} {fs : List Value} (hc : z_cl[ci]? = some r) (hin : ∀ w ∈ u_ws r.1 r.2.1 r.2.2, w ∈ z_tbl) (ty0 : Nat → FieldType) (hty : ∀ k, k < r.2.2 → parseFieldDescriptor (r.2.1 k).2.2.1 = some (ty0 k)) (hm : ∀ w ∈ [Cond.classLink own idx r.1, Cond.instantiable r.1 r.2.2, Cond.initialized r.1], w ∈ z_tbl) (hfs : ∀ j, j < r.2.2 → defaultValue (ty0 j) = vp_V fs j) (h1 : cells + 1 ≤ R.cells) (h2 : slots + r.2.2 ≤ R.slots) (hd : decode cc pc = .ok (.new idx, 3))
    (kk : ∀ q, Y q = none → (∀ x y, Y x = some y → x ≠ q) → z_V p l e R s m args below meth c Q D A N ad nL S (va_up Y q (some (.inr (ci, fs)))) (cells + 1) (slots + r.2.2) (pc + 3) L (.ref q :: st)) : z_V p l e R s m args below meth c Q D A N ad nL S Y cells slots pc L st := by
  intro H locs ls hR hS hl
  obtain ⟨C0, T, n⟩ := r
  have hKn := C.2.2.2.2.2.1.1 ci _ hc
  refine W.newcK C.1 C.2.1 C.2.2.2.1 (C.2.2.2.2.1 _ (hm _ (by simp))) (C.2.2.2.2.1 _ (hm _ (by simp))) (C.2.2.2.2.1 _ (hm _ (by simp))) rfl hd h1 h2 hKn.2.1 rfl fun H1 kC hkC e1 z1 o1 => ?_
  have hat : va_at D z_cl (H.size, .inr (ci, fs)) H1 := ⟨_, hc, (u_born ty0 C.2.2.2.2.1 hin hKn hkC e1 hty).to hfs⟩
  obtain ⟨g1, g2, g3⟩ := hR.new (C.2.2.2.2.2.2.2.2 _ hS.1) hat o1
  exact kk H.size g2 g3 H1 locs ls g1 (z_S.new hS z1 o1) hl
theorem z_newI (C : z_C p s m args meth c cc nL own D A ks) {n : Int} (hm : Cond.arrayClass .int ∈ z_tbl) (h0 : 0 ≤ n) (h3 : n < 100000) (h1 : cells + 1 ≤ R.cells) (h2 : slots + n.toNat ≤ R.slots) (hd : decode cc pc = .ok (.newarray .int, 2))
    (kk : ∀ q, Y q = none → (∀ x y, Y x = some y → x ≠ q) → z_V p l e R s m args below meth c Q D A N ad nL S (va_up Y q (some (z_ar ks.1 n.toNat (fun _ => 0)))) (cells + 1) (slots + n.toNat) (pc + 2) L (.ref q :: st)) : z_V p l e R s m args below meth c Q D A N ad nL S Y cells slots pc L (z_v n :: st) := by
  intro H locs ls hR hS hl
  have nn : ¬ z_i n < 0 := fun q => by
    have := (z_lt (a := n) (b := 0) ⟨by omega, by omega⟩ z_rg0).mp q
    omega
  refine va_newaK (atype := .int) (N := n.toNat) C.1 C.2.1 (C.2.2.2.2.1 _ hm) rfl hd rfl nn (z_cl0 h0 (by omega)) (by show _ * 4 ≤ _; omega) h1 h2 rfl fun H1 cA e1 z1 o1 hAr hNm => ?_
  have hcA : cA = ks.1 := by
    have h := (C.2.2.2.2.2.1.2 0 _ rfl).2
    exact Option.some.inj (hNm.symm.trans h)
  subst hcA
  have hat : va_at D z_cl (H.size, z_ar ks.1 n.toNat (fun _ => 0)) H1 := by
    show H1[H.size]? = some (vp_cell _ _)
    rw [e1, vp_cell_i]
    rfl
  obtain ⟨g1, g2, g3⟩ := hR.new (C.2.2.2.2.2.2.2.2 _ hS.1) hat o1
  exact kk H.size g2 g3 H1 locs ls g1 (z_S.new hS z1 o1) hl
theorem z_newA (C : z_C p s m args meth c cc nL own D A ks) {n : Int} {E : String} {cA : ClassId} {idx : Nat} (t0 : Nat) (ht : (z_tys ks)[t0]? = some (cA, .object E)) (hov : va_AO E s) (hm : Cond.classLink own idx E ∈ z_tbl) (h0 : 0 ≤ n) (h3 : n < 100000) (h1 : cells + 1 ≤ R.cells) (h2 : slots + n.toNat ≤ R.slots) (hd : decode cc pc = .ok (.anewarray idx, 3))
    (kk : ∀ q, Y q = none → (∀ x y, Y x = some y → x ≠ q) → z_V p l e R s m args below meth c Q D A N ad nL S (va_up Y q (some (z_rr cA n.toNat (fun _ => none)))) (cells + 1) (slots + n.toNat) (pc + 3) L (.ref q :: st)) : z_V p l e R s m args below meth c Q D A N ad nL S Y cells slots pc L (z_v n :: st) := by
  intro H locs ls hR hS hl
  have nn : ¬ z_i n < 0 := fun q => by
    have := (z_lt (a := n) (b := 0) ⟨by omega, by omega⟩ z_rg0).mp q
    omega
  have hN : (z_i n).toNatClampNeg = n.toNat := z_cl0 h0 (by omega)
  refine W.anew C.1 C.2.1 C.2.2.2.1 (C.2.2.2.2.1 _ hm) (va_AO.use hov) rfl hd rfl nn (by rw [hN]; omega) h1 (by rw [hN]; exact h2) fun cB kA comp f1 f2 f3 f4 => ?_
  rw [hN]
  have hcA : cB = cA := by
    obtain ⟨_, _, _, _, _, h⟩ := (C.2.2.2.2.2.1.2 t0 _ ht).2
    exact Option.some.inj (f1.symm.trans h)
  subst hcA
  generalize hH1 : H.push ({ cls := cB, slots := Array.replicate n.toNat .null, vm := .none } : Cell) = H1
  have z1 : H1.size = H.size + 1 := by rw [← hH1, Array.size_push]
  have e1 : H1[H.size]? = some (arrV cB n.toNat (fun _ => .null)) := by rw [← hH1, Array.getElem?_push_size, ← arrV_new]
  have o1 : ∀ q : Nat, q < H.size → H1[q]? = H[q]? := fun q hq => by rw [← hH1, Array.getElem?_push, if_neg (Nat.ne_of_lt hq)]
  have hat : va_at D z_cl (H.size, z_rr cB n.toNat (fun _ => none)) H1 := by
    show H1[H.size]? = some (vp_cell _ _)
    rw [e1, vp_cell_q]
    rfl
  obtain ⟨g1, g2, g3⟩ := hR.new (C.2.2.2.2.2.2.2.2 _ hS.1) hat o1
  exact kk H.size g2 g3 H1 locs ls g1 (z_S.new hS z1 o1) hl
/-- Object.<init> -/
theorem z_obj (C : z_C p s m args meth c cc nL own D A ks) {idx q : Nat} (hm : ∀ w ∈ [Cond.methodLink own idx Lib.objectInit, Cond.instanceMethod Lib.objectInit, Cond.code Lib.objectInit ⟨#[0xb1]⟩ 1 none], w ∈ z_tbl) (hfr : 1 ≤ R.frames) (hlo : (st.map fun v => v.category).sum + 12 ≤ R.locals) (hd : decode cc pc = .ok (.invokespecial idx, 3))
    (kk : z_V p l e R s m args below meth c Q D A N ad nL S Y cells slots (pc + 3) L st) : z_V p l e R s m args below meth c Q D A N ad nL S Y cells slots pc L (.ref q :: st) := by
  intro H locs ls hR hS hl
  exact W.objInit C.1 C.2.1 C.2.2.2.1 (C.2.2.2.2.1 _ (hm _ (by simp))) (C.2.2.2.2.1 _ (hm _ (by simp))) (C.2.2.2.2.1 _ (hm _ (by simp))) rfl (hl.1.trans C.2.2.1.symm) rfl hd hfr (by show 2 * 0 + _ + _ ≤ _; omega) (kk H locs ls hR hS hl)
end ZHEAP
end
section
section ZCALL
variable {p : Program} {l : Launch} {e : Env} {R : Room} {s : State} {m : MethodId} {args : Array Value} {below : List Frame} {meth : Method} {c : Code} {Q : State → Prop} {D : va_G} {A : Nat → Prop} {N : Nat} {ad : Nat → Nat} {nL : Nat} {S S' : Nat → va_E} {Y Y' : Nat → Option va_E} {cells slots pc : Nat} {L : List (Nat × Value)} {st st0 : List Value} {cc : ByteArray} {own : String} {ks : z_Ks} {post : Option Value → (Nat → va_E) → (Nat → Option va_E) → Prop} {mc ms fr lo mL idx : Nat} {y : MethodName} {b : ByteArray} {ret : Option FieldType} {As : List Value}
theorem z_go {a : Array Value} (hr : ∀ H locs ls, z_R D A N ad S Y H → va_S A s.heap H locs → lv_has ls nL L → va_Run p l e R s m args below meth c H locs cells slots mc ms (F0 m pc ls st0) st (z_Q D A N ad post a) A)
    (kk : ∀ r S' Y', post r S' Y' → z_V p l e R s m args below meth c Q D A N ad nL S' Y' (cells + mc) (slots + ms) (pc + 3) L (r.toList ++ st)) : z_V p l e R s m args below meth c Q D A N ad nL S Y cells slots pc L st0 := by
  intro H locs ls hR hS hl T hT X
  obtain ⟨v, st₀, t, T', Lo, h0, X', hL, e1, e2, ⟨⟨r, S', Y', hv, hp, hR'⟩, hz, hk⟩, stp⟩ := hr H locs ls hR hS hl T hT X
  cases hv
  rw [h0] at hz hk
  obtain ⟨t2, a1, b1⟩ := kk v S' Y' hp T'.heap (locs ++ Lo) ls (by rw [e1]; exact hR') ⟨Nat.le_trans hS.1 (by rw [e1]; exact hz), fun q h1 h2 => by rw [e1, hk q (Nat.lt_of_lt_of_le h1 hS.1) h2]; exact hS.2.1 q h1 h2, fun q hq => by
      rcases List.mem_append.mp hq with h | h
      · exact hS.2.2 q h
      · exact hL q h⟩ hl T' rfl X'
  exact ⟨t2, stp t2 a1, b1⟩
theorem z_blind {av : List Value} : FrameBlind (va_Pc av (z_P D A N ad ks S Y)) := by
  intro a U g mk q
  obtain ⟨q0, q1, q2, q3, q4⟩ := q
  exact ⟨q0, q1, va_K.moved (u := U) (U := U.calling g mk a) (Vm.Alike.refl U.vm) q2, z_X.same (s := U) (U := U.calling g mk a) rfl q3, q4⟩
theorem z_goodIn (h : Cond.code y b mL ret ∈ z_tbl) : GoodIn z_tbl (z_w y b mL ret) := by
  intro w hw
  have hm : w ∈ z_tbl := by
    rcases List.mem_cons.mp hw with rfl | hw
    · exact h
    · exact hw
  exact ⟨hm, good_of_word (z_good w hm)⟩
theorem z_callB (C : z_C p s m args meth c cc nL own D A ks) (n : Nat) (hc : Cond.code y b mL ret ∈ z_tbl) (hi : Cond.initialized y.cls ∈ z_tbl) (hk : Cond.methodLink own idx y ∈ z_tbl) (hd : y.cls ≠ "java/lang/invoke/MethodHandle" ∧ y.cls ≠ "java/lang/invoke/VarHandle" ∧ (parseMethodDescriptor y.desc).map (fun d => d.parameters.length) = some n) (hr : fr + 1 ≤ R.frames ∧ 8 + (mL + 11) + lo ≤ R.locals) : CallB R s args own idx y b mL ret (z_w y b mL ret) { frames := fr, cells := mc, slots := ms, locals := lo } mc ms n :=
  callB_of n C.2.2.2.2.1 (z_goodIn hc) rfl rfl rfl (C.2.2.2.2.1 _ hi) (C.2.2.2.2.1 _ hk) hd hr
theorem z_pre (C : z_C p s m args meth c cc nL own D A ks) {H : Heap} {locs : List Loc} (hR : z_R D A N ad S Y H) (hS : va_S A s.heap H locs) {av : List Value} : ∀ U : State, U.heap = H → s.WarmedH U.vm → va_Pc av (z_P D A N ad ks S Y) av.toArray U := by
  intro U hU hW
  exact ⟨rfl, by rw [hU]; exact hR, va_K.moved hW.alike C.2.2.2.2.2.1, C.2.2.2.2.2.2.1.warm hW, fun q h => C.2.2.2.2.2.2.2.2 q (by rw [hU] at h; exact Nat.le_trans hS.1 h)⟩
/-- what is called is an object of the world, of class y.cls -/
def z_at (N : Nat) (ad : Nat → Nat) (S : Nat → va_E) (Y : Nat → Option va_E) (q : Nat) (nm : String) : Prop := ∃ (ci : Nat) (r : vw_C) (fs : List Value), z_cl[ci]? = some r ∧ r.1 = nm ∧ ((∃ k, k < N ∧ q = ad k ∧ S k = .inr (ci, fs)) ∨ Y q = some (.inr (ci, fs)))
theorem z_atS (k ci : Nat) {nm : String} {r : vw_C} {fs : List Value} (hk : k < N) (he : S k = .inr (ci, fs)) (hc : z_cl[ci]? = some r) (hr : r.1 = nm) : z_at N ad S Y (ad k) nm := ⟨ci, r, fs, hc, hr, Or.inl ⟨k, hk, rfl, he⟩⟩
theorem z_atY (ci : Nat) {q : Nat} {nm : String} {r : vw_C} {fs : List Value} (he : Y q = some (.inr (ci, fs))) (hc : z_cl[ci]? = some r) (hr : r.1 = nm) : z_at N ad S Y q nm := ⟨ci, r, fs, hc, hr, Or.inr he⟩
theorem z_recv (C : z_C p s m args meth c cc nL own D A ks) {H : Heap} {q : Nat} {nm : String} (hR : z_R D A N ad S Y H) (h : z_at N ad S Y q nm) : ∃ cell : Cell, H[q]? = some cell ∧ cell.vm.isStatics = false ∧ s.vm.findClass nm = some cell.cls := by
  obtain ⟨ci, r, fs, hc, rfl, ⟨k, hk, rfl, he⟩ | he⟩ := h
  · obtain ⟨hP, -⟩ := hR.one hk
    rw [he] at hP
    exact va_recv C.2.2.2.2.2.1 hP hc (q0 := 0) rfl
  · obtain ⟨hP, -⟩ := hR.dyn he
    exact va_recv C.2.2.2.2.2.1 hP hc (q0 := 0) rfl
theorem z_callV (C : z_C p s m args meth c cc nL own D A ks) {q : Nat} (hM : z_Met l y b mL ret fr lo mc ms D A N ad ks (.ref q :: As) S Y post) (hm : ∀ w ∈ [Cond.methodLink own idx y, Cond.instanceMethod y, Cond.selects y.cls y y, Cond.initialized y.cls, Cond.code y b mL ret], w ∈ z_tbl) (ht : z_at N ad S Y q y.cls) (hdy : y.cls ≠ "java/lang/invoke/MethodHandle" ∧ y.cls ≠ "java/lang/invoke/VarHandle" ∧ (parseMethodDescriptor y.desc).map (fun d => d.parameters.length) = some As.length) (hr : fr + 1 ≤ R.frames ∧ 8 + (mL + 11) + lo ≤ R.locals) (hf : cells + mc ≤ R.cells ∧ slots + ms ≤ R.slots) (hst : st0 = As.reverse ++ .ref q :: st) (hW : (st.map fun v => v.category).sum ≤ 8) (hd : decode cc pc = .ok (.invokevirtual idx, 3))
    (kk : ∀ r S' Y', post r S' Y' → z_V p l e R s m args below meth c Q D A N ad nL S' Y' (cells + mc) (slots + ms) (pc + 3) L (r.toList ++ st)) : z_V p l e R s m args below meth c Q D A N ad nL S Y cells slots pc L st0 := by
  subst hst
  refine z_go (a := (Value.ref q :: As).toArray) ?_ kk
  intro H locs ls hR hS hl
  exact va_runV (Ts := z_tbl) ⟨C.1, C.2.1, C.2.2.1, C.2.2.2.1, C.2.2.2.2.1⟩ hM ⟨z_callB C As.length (hm _ (by simp)) (hm _ (by simp)) (hm _ (by simp)) hdy hr, C.2.2.2.2.1 _ (hm _ (by simp)), C.2.2.2.2.1 _ (hm _ (by simp))⟩ ⟨z_blind, z_recv C hR ht, z_pre C hR hS⟩ rfl rfl hl.1 rfl (lv_room hW) hd hf
theorem z_callS (C : z_C p s m args meth c cc nL own D A ks) (hM : z_Met l y b mL ret fr lo mc ms D A N ad ks As S Y post) (hm : ∀ w ∈ [Cond.methodLink own idx y, Cond.static y, Cond.initialized y.cls, Cond.code y b mL ret], w ∈ z_tbl) (hdy : y.cls ≠ "java/lang/invoke/MethodHandle" ∧ y.cls ≠ "java/lang/invoke/VarHandle" ∧ (parseMethodDescriptor y.desc).map (fun d => d.parameters.length) = some As.length) (hr : fr + 1 ≤ R.frames ∧ 8 + (mL + 11) + lo ≤ R.locals) (hf : cells + mc ≤ R.cells ∧ slots + ms ≤ R.slots) (hst : st0 = As.reverse ++ st) (hW : (st.map fun v => v.category).sum ≤ 8) (hd : decode cc pc = .ok (.invokestatic idx, 3))
    (kk : ∀ r S' Y', post r S' Y' → z_V p l e R s m args below meth c Q D A N ad nL S' Y' (cells + mc) (slots + ms) (pc + 3) L (r.toList ++ st)) : z_V p l e R s m args below meth c Q D A N ad nL S Y cells slots pc L st0 := by
  subst hst
  refine z_go (a := As.toArray) ?_ kk
  intro H locs ls hR hS hl
  exact va_runS (Ts := z_tbl) ⟨C.1, C.2.1, C.2.2.1, C.2.2.2.1, C.2.2.2.2.1⟩ hM ⟨z_callB C As.length (hm _ (by simp)) (hm _ (by simp)) (hm _ (by simp)) hdy hr, C.2.2.2.2.1 _ (hm _ (by simp))⟩ ⟨z_blind, z_pre C hR hS⟩ rfl rfl hl.1 rfl (lv_room hW) hd hf
theorem z_callI (C : z_C p s m args meth c cc nL own D A ks) {q : Nat} (hM : z_Met l y b mL none fr lo mc ms D A N ad ks (.ref q :: As) S Y post) (hm : ∀ w ∈ [Cond.methodLink own idx y, Cond.instanceMethod y, Cond.initialized y.cls, Cond.code y b mL none], w ∈ z_tbl) (hy1 : y.name = "<init>") (hdy : y.cls ≠ "java/lang/invoke/MethodHandle" ∧ y.cls ≠ "java/lang/invoke/VarHandle" ∧ (parseMethodDescriptor y.desc).map (fun d => d.parameters.length) = some As.length) (hr : fr + 1 ≤ R.frames ∧ 8 + (mL + 11) + lo ≤ R.locals) (hf : cells + mc ≤ R.cells ∧ slots + ms ≤ R.slots) (hst : st0 = As.reverse ++ .ref q :: st) (hW : (st.map fun v => v.category).sum ≤ 8) (hd : decode cc pc = .ok (.invokespecial idx, 3))
    (kk : ∀ r S' Y', post r S' Y' → z_V p l e R s m args below meth c Q D A N ad nL S' Y' (cells + mc) (slots + ms) (pc + 3) L (r.toList ++ st)) : z_V p l e R s m args below meth c Q D A N ad nL S Y cells slots pc L st0 := by
  subst hst
  refine z_go (a := (Value.ref q :: As).toArray) ?_ kk
  intro H locs ls hR hS hl
  exact va_runI (Ts := z_tbl) ⟨C.1, C.2.1, C.2.2.1, C.2.2.2.1, C.2.2.2.2.1⟩ hM ⟨z_callB C As.length (hm _ (by simp)) (hm _ (by simp)) (hm _ (by simp)) hdy hr, hy1, C.2.2.2.2.1 _ (hm _ (by simp))⟩ ⟨z_blind, z_pre C hR hS⟩ rfl rfl hl.1 rfl (lv_room hW) hd hf
theorem z_callN (C : z_C p s m args meth c cc nL own D A ks) {q : Nat} {host : String} (hM : z_Met l y b mL none fr lo mc ms D A N ad ks (.ref q :: As) S Y post) (hl0 : va_Nw (.methodLinkNest own idx y host) s) (hm : ∀ w ∈ [Cond.instanceMethod y, Cond.initialized y.cls, Cond.code y b mL none], w ∈ z_tbl) (hy1 : y.name = "<init>") (hdy : y.cls ≠ "java/lang/invoke/MethodHandle" ∧ y.cls ≠ "java/lang/invoke/VarHandle" ∧ (parseMethodDescriptor y.desc).map (fun d => d.parameters.length) = some As.length) (hr : fr + 1 ≤ R.frames ∧ 8 + (mL + 11) + lo ≤ R.locals) (hf : cells + mc ≤ R.cells ∧ slots + ms ≤ R.slots) (hst : st0 = As.reverse ++ .ref q :: st) (hW : (st.map fun v => v.category).sum ≤ 8) (hd : decode cc pc = .ok (.invokespecial idx, 3))
    (kk : ∀ r S' Y', post r S' Y' → z_V p l e R s m args below meth c Q D A N ad nL S' Y' (cells + mc) (slots + ms) (pc + 3) L (r.toList ++ st)) : z_V p l e R s m args below meth c Q D A N ad nL S Y cells slots pc L st0 := by
  subst hst
  refine z_go (a := (Value.ref q :: As).toArray) ?_ kk
  intro H locs ls hR hS hl
  exact va_runIN (Ts := z_tbl) ⟨C.1, C.2.1, C.2.2.1, C.2.2.2.1, C.2.2.2.2.1⟩ hM ⟨va_cnB As.length C.2.2.2.2.1 (z_goodIn (hm _ (by simp))) rfl rfl rfl hl0 (C.2.2.2.2.1 _ (hm _ (by simp))) hdy hr, hy1, C.2.2.2.2.1 _ (hm _ (by simp))⟩ ⟨z_blind, z_pre C hR hS⟩ rfl rfl hl.1 rfl (lv_room hW) hd hf
/-- returns -/
theorem z_ret {v : Option Value} (hW : ∀ (H : Heap) (locs : List Loc) (ls : Array Slot) (Qc : Array Value → State → Outcome → State → Prop) (k n : Nat), (∀ t : State, t.heap = H → s.WarmedH t.vm → Qc args s (.returned v) t) → (∀ q ∈ locs, A q.base) → W p l e R s m args below meth c H locs k n (MQ below Qc args s k n A) (F0 m pc ls st)) (hp : post v S Y) (h1 : cells ≤ mc) (h2 : slots ≤ ms) : z_V p l e R s m args below meth c (MQ below (z_Q D A N ad post) args s mc ms A) D A N ad nL S Y cells slots pc L st := by
  intro H locs ls hR hS hl
  refine W.widen h1 h2 (hW H locs ls _ mc ms ?_ hS.2.2)
  intro t ht _
  exact ⟨⟨v, S, Y, rfl, hp, by rw [ht]; exact hR⟩, hS.F ht⟩
theorem z_iret (C : z_C p s m args meth c cc nL own D A ks) {z : Int} (hr : meth.sig.returnType = some .int) (hd : decode cc pc = .ok (.ireturn, 1)) (hp : post (some (z_v z)) S Y) (h1 : cells ≤ mc) (h2 : slots ≤ ms) : z_V p l e R s m args below meth c (MQ below (z_Q D A N ad post) args s mc ms A) D A N ad nL S Y cells slots pc L [z_v z] :=
  z_ret (v := some (z_v z)) (fun H locs ls Qc k n hq hf => W.iret C.1 C.2.1 hr hq hf hd C.2.2.2.2.2.2.2.1) hp h1 h2
theorem z_zret (C : z_C p s m args meth c cc nL own D A ks) {z : Int} (hr : meth.sig.returnType = some .boolean) (hz : z = 0 ∨ z = 1) (hd : decode cc pc = .ok (.ireturn, 1)) (hp : post (some (z_v z)) S Y) (h1 : cells ≤ mc) (h2 : slots ≤ ms) : z_V p l e R s m args below meth c (MQ below (z_Q D A N ad post) args s mc ms A) D A N ad nL S Y cells slots pc L [z_v z] :=
  z_ret (v := some (z_v z)) (fun H locs ls Qc k n hq hf => W.zret C.1 C.2.1 hr (by rcases hz with rfl | rfl <;> rfl) hq hf hd C.2.2.2.2.2.2.2.1) hp h1 h2
theorem z_lret (C : z_C p s m args meth c cc nL own D A ks) {w : Int64} (hr : meth.sig.returnType = some .long) (hd : decode cc pc = .ok (.lreturn, 1)) (hp : post (some (.long w)) S Y) (h1 : cells ≤ mc) (h2 : slots ≤ ms) : z_V p l e R s m args below meth c (MQ below (z_Q D A N ad post) args s mc ms A) D A N ad nL S Y cells slots pc L [.long w] :=
  z_ret (v := some (.long w)) (fun H locs ls Qc k n hq hf => W.lret C.1 C.2.1 hr hq hf hd C.2.2.2.2.2.2.2.1) hp h1 h2
theorem z_aret (C : z_C p s m args meth c cc nL own D A ks) {v : Value} {E : String} (hr : meth.sig.returnType = some (.object E)) (hv : v = .null ∨ ∃ a, v = .ref a) (hd : decode cc pc = .ok (.areturn, 1)) (hp : post (some v) S Y) (h1 : cells ≤ mc) (h2 : slots ≤ ms) : z_V p l e R s m args below meth c (MQ below (z_Q D A N ad post) args s mc ms A) D A N ad nL S Y cells slots pc L [v] :=
  z_ret (v := some v) (fun H locs ls Qc k n hq hf => W.aret C.1 C.2.1 hr (Or.inl ⟨_, rfl⟩) hv hq hf hd C.2.2.2.2.2.2.2.1) hp h1 h2
theorem z_vret (C : z_C p s m args meth c cc nL own D A ks) (hr : meth.sig.returnType = none) (hd : decode cc pc = .ok (.return_, 1)) (hp : post none S Y) (h1 : cells ≤ mc) (h2 : slots ≤ ms) : z_V p l e R s m args below meth c (MQ below (z_Q D A N ad post) args s mc ms A) D A N ad nL S Y cells slots pc L [] :=
  z_ret (v := none) (fun H locs ls Qc k n hq hf => W.vret C.1 C.2.1 hr hq hf hd C.2.2.2.2.2.2.2.1) hp h1 h2
/-- a contract out of the walk from the entry -/
theorem z_start {av : List Value} (hy : plainName y.cls = true) (hlen : (lg_sl av).length ≤ mL)
    (body : ∀ p e s m below meth c, z_C p s m av.toArray meth c b mL y.cls D A ks → meth.sig.returnType = ret → meth.name = y.name → z_V p l e { frames := fr, cells := mc, slots := ms, locals := lo } s m av.toArray below meth c (MQ below (z_Q D A N ad post) av.toArray s mc ms A) D A N ad mL S Y 0 0 0 (lv_args 0 av) []) : z_Met l y b mL ret fr lo mc ms D A N ad ks av S Y post := by
  refine Met.ofW (cc := b) (maxL := mL) (ret := ret) hy rfl ?_
  intro p e s m args below meth c s₁ B hml hv
  obtain ⟨rfl, hR, hK, hX, hA⟩ := hv
  have hts := atoms_spec (ws := z_w y b mL ret) B.pre
  have hown : s.vm.findClass y.cls = some m.cls := findClass_of_methodNamed B.named
  have hname : meth.name = y.name := (name_of_methodNamed B.named B.method).1
  have hl := lv_entry av (n := mL) hlen
  rw [lg_entry_eq]
  exact body p e s m below meth c ⟨B.exec, B.bytes, hml, hown, fun w hw => hts w (List.mem_cons_of_mem _ hw), hK, hX, B.notSynchronized, hA⟩ B.returns hname s.heap [] _ hR va_S.rf hl
end ZCALL
end
section
theorem dX11_init_0 : decode cX11_init 0 = .ok (.aload_n 0, 1) := by decide +kernel
theorem dX11_init_1 : decode cX11_init 1 = .ok (.invokespecial 1, 3) := by decide +kernel
theorem dX11_init_4 : decode cX11_init 4 = .ok (.aload_n 0, 1) := by decide +kernel
theorem dX11_init_5 : decode cX11_init 5 = .ok (.bipush 20, 2) := by decide +kernel
theorem dX11_init_7 : decode cX11_init 7 = .ok (.newarray .int, 2) := by decide +kernel
theorem dX11_init_9 : decode cX11_init 9 = .ok (.putfield 7, 3) := by decide +kernel
theorem dX11_init_12 : decode cX11_init 12 = .ok (.aload_n 0, 1) := by decide +kernel
theorem dX11_init_13 : decode cX11_init 13 = .ok (.bipush 20, 2) := by decide +kernel
theorem dX11_init_15 : decode cX11_init 15 = .ok (.newarray .int, 2) := by decide +kernel
theorem dX11_init_17 : decode cX11_init 17 = .ok (.putfield 13, 3) := by decide +kernel
theorem dX11_init_20 : decode cX11_init 20 = .ok (.aload_n 0, 1) := by decide +kernel
theorem dX11_init_21 : decode cX11_init 21 = .ok (.bipush 20, 2) := by decide +kernel
theorem dX11_init_23 : decode cX11_init 23 = .ok (.newarray .int, 2) := by decide +kernel
theorem dX11_init_25 : decode cX11_init 25 = .ok (.putfield 16, 3) := by decide +kernel
theorem dX11_init_28 : decode cX11_init 28 = .ok (.aload_n 0, 1) := by decide +kernel
theorem dX11_init_29 : decode cX11_init 29 = .ok (.bipush 20, 2) := by decide +kernel
theorem dX11_init_31 : decode cX11_init 31 = .ok (.newarray .int, 2) := by decide +kernel
theorem dX11_init_33 : decode cX11_init 33 = .ok (.putfield 19, 3) := by decide +kernel
theorem dX11_init_36 : decode cX11_init 36 = .ok (.aload_n 0, 1) := by decide +kernel
theorem dX11_init_37 : decode cX11_init 37 = .ok (.bipush 20, 2) := by decide +kernel
theorem dX11_init_39 : decode cX11_init 39 = .ok (.newarray .int, 2) := by decide +kernel
theorem dX11_init_41 : decode cX11_init 41 = .ok (.putfield 22, 3) := by decide +kernel
theorem dX11_init_44 : decode cX11_init 44 = .ok (.aload_n 0, 1) := by decide +kernel
theorem dX11_init_45 : decode cX11_init 45 = .ok (.bipush 20, 2) := by decide +kernel
theorem dX11_init_47 : decode cX11_init 47 = .ok (.newarray .int, 2) := by decide +kernel
theorem dX11_init_49 : decode cX11_init 49 = .ok (.putfield 25, 3) := by decide +kernel
theorem dX11_init_52 : decode cX11_init 52 = .ok (.aload_n 0, 1) := by decide +kernel
theorem dX11_init_53 : decode cX11_init 53 = .ok (.bipush 120, 2) := by decide +kernel
theorem dX11_init_55 : decode cX11_init 55 = .ok (.newarray .int, 2) := by decide +kernel
theorem dX11_init_57 : decode cX11_init 57 = .ok (.putfield 28, 3) := by decide +kernel
theorem dX11_init_60 : decode cX11_init 60 = .ok (.aload_n 0, 1) := by decide +kernel
theorem dX11_init_61 : decode cX11_init 61 = .ok (.bipush 18, 2) := by decide +kernel
theorem dX11_init_63 : decode cX11_init 63 = .ok (.newarray .int, 2) := by decide +kernel
theorem dX11_init_65 : decode cX11_init 65 = .ok (.putfield 31, 3) := by decide +kernel
theorem dX11_init_68 : decode cX11_init 68 = .ok (.aload_n 0, 1) := by decide +kernel
theorem dX11_init_69 : decode cX11_init 69 = .ok (.bipush 108, 2) := by decide +kernel
theorem dX11_init_71 : decode cX11_init 71 = .ok (.newarray .int, 2) := by decide +kernel
theorem dX11_init_73 : decode cX11_init 73 = .ok (.putfield 34, 3) := by decide +kernel
theorem dX11_init_76 : decode cX11_init 76 = .ok (.aload_n 0, 1) := by decide +kernel
theorem dX11_init_77 : decode cX11_init 77 = .ok (.iconst 1, 1) := by decide +kernel
theorem dX11_init_78 : decode cX11_init 78 = .ok (.putfield 37, 3) := by decide +kernel
theorem dX11_init_81 : decode cX11_init 81 = .ok (.aload_n 0, 1) := by decide +kernel
theorem dX11_init_82 : decode cX11_init 82 = .ok (.sipush 360, 3) := by decide +kernel
theorem dX11_init_85 : decode cX11_init 85 = .ok (.newarray .int, 2) := by decide +kernel
theorem dX11_init_87 : decode cX11_init 87 = .ok (.putfield 41, 3) := by decide +kernel
theorem dX11_init_90 : decode cX11_init 90 = .ok (.aload_n 0, 1) := by decide +kernel
theorem dX11_init_91 : decode cX11_init 91 = .ok (.sipush 1920, 3) := by decide +kernel
theorem dX11_init_94 : decode cX11_init 94 = .ok (.newarray .int, 2) := by decide +kernel
theorem dX11_init_96 : decode cX11_init 96 = .ok (.putfield 44, 3) := by decide +kernel
theorem dX11_init_99 : decode cX11_init 99 = .ok (.aload_n 0, 1) := by decide +kernel
theorem dX11_init_100 : decode cX11_init 100 = .ok (.bipush 120, 2) := by decide +kernel
theorem dX11_init_102 : decode cX11_init 102 = .ok (.newarray .int, 2) := by decide +kernel
theorem dX11_init_104 : decode cX11_init 104 = .ok (.putfield 47, 3) := by decide +kernel
theorem dX11_init_107 : decode cX11_init 107 = .ok (.aload_n 0, 1) := by decide +kernel
theorem dX11_init_108 : decode cX11_init 108 = .ok (.bipush 120, 2) := by decide +kernel
theorem dX11_init_110 : decode cX11_init 110 = .ok (.newarray .int, 2) := by decide +kernel
theorem dX11_init_112 : decode cX11_init 112 = .ok (.putfield 50, 3) := by decide +kernel
theorem dX11_init_115 : decode cX11_init 115 = .ok (.aload_n 0, 1) := by decide +kernel
theorem dX11_init_116 : decode cX11_init 116 = .ok (.bipush 120, 2) := by decide +kernel
theorem dX11_init_118 : decode cX11_init 118 = .ok (.newarray .int, 2) := by decide +kernel
theorem dX11_init_120 : decode cX11_init 120 = .ok (.putfield 53, 3) := by decide +kernel
theorem dX11_init_123 : decode cX11_init 123 = .ok (.aload_n 0, 1) := by decide +kernel
theorem dX11_init_124 : decode cX11_init 124 = .ok (.bipush 120, 2) := by decide +kernel
theorem dX11_init_126 : decode cX11_init 126 = .ok (.newarray .int, 2) := by decide +kernel
theorem dX11_init_128 : decode cX11_init 128 = .ok (.putfield 56, 3) := by decide +kernel
theorem dX11_init_131 : decode cX11_init 131 = .ok (.aload_n 0, 1) := by decide +kernel
theorem dX11_init_132 : decode cX11_init 132 = .ok (.bipush 16, 2) := by decide +kernel
theorem dX11_init_134 : decode cX11_init 134 = .ok (.newarray .int, 2) := by decide +kernel
theorem dX11_init_136 : decode cX11_init 136 = .ok (.putfield 59, 3) := by decide +kernel
theorem dX11_init_139 : decode cX11_init 139 = .ok (.aload_n 0, 1) := by decide +kernel
theorem dX11_init_140 : decode cX11_init 140 = .ok (.bipush 16, 2) := by decide +kernel
theorem dX11_init_142 : decode cX11_init 142 = .ok (.newarray .int, 2) := by decide +kernel
theorem dX11_init_144 : decode cX11_init 144 = .ok (.putfield 62, 3) := by decide +kernel
theorem dX11_init_147 : decode cX11_init 147 = .ok (.aload_n 0, 1) := by decide +kernel
theorem dX11_init_148 : decode cX11_init 148 = .ok (.iconst 3, 1) := by decide +kernel
theorem dX11_init_149 : decode cX11_init 149 = .ok (.newarray .int, 2) := by decide +kernel
theorem dX11_init_151 : decode cX11_init 151 = .ok (.putfield 65, 3) := by decide +kernel
theorem dX11_init_154 : decode cX11_init 154 = .ok (.aload_n 0, 1) := by decide +kernel
theorem dX11_init_155 : decode cX11_init 155 = .ok (.iconst 4, 1) := by decide +kernel
theorem dX11_init_156 : decode cX11_init 156 = .ok (.newarray .int, 2) := by decide +kernel
theorem dX11_init_158 : decode cX11_init 158 = .ok (.putfield 68, 3) := by decide +kernel
theorem dX11_init_161 : decode cX11_init 161 = .ok (.aload_n 0, 1) := by decide +kernel
theorem dX11_init_162 : decode cX11_init 162 = .ok (.bipush 42, 2) := by decide +kernel
theorem dX11_init_164 : decode cX11_init 164 = .ok (.newarray .int, 2) := by decide +kernel
theorem dX11_init_166 : decode cX11_init 166 = .ok (.putfield 71, 3) := by decide +kernel
theorem dX11_init_169 : decode cX11_init 169 = .ok (.aload_n 0, 1) := by decide +kernel
theorem dX11_init_170 : decode cX11_init 170 = .ok (.bipush 42, 2) := by decide +kernel
theorem dX11_init_172 : decode cX11_init 172 = .ok (.newarray .int, 2) := by decide +kernel
theorem dX11_init_174 : decode cX11_init 174 = .ok (.putfield 74, 3) := by decide +kernel
theorem dX11_init_177 : decode cX11_init 177 = .ok (.aload_n 0, 1) := by decide +kernel
theorem dX11_init_178 : decode cX11_init 178 = .ok (.iconst 3, 1) := by decide +kernel
theorem dX11_init_179 : decode cX11_init 179 = .ok (.newarray .int, 2) := by decide +kernel
theorem dX11_init_181 : decode cX11_init 181 = .ok (.putfield 77, 3) := by decide +kernel
theorem dX11_init_184 : decode cX11_init 184 = .ok (.aload_n 0, 1) := by decide +kernel
theorem dX11_init_185 : decode cX11_init 185 = .ok (.iconst 4, 1) := by decide +kernel
theorem dX11_init_186 : decode cX11_init 186 = .ok (.newarray .int, 2) := by decide +kernel
theorem dX11_init_188 : decode cX11_init 188 = .ok (.putfield 80, 3) := by decide +kernel
theorem dX11_init_191 : decode cX11_init 191 = .ok (.aload_n 0, 1) := by decide +kernel
theorem dX11_init_192 : decode cX11_init 192 = .ok (.iconst 0, 1) := by decide +kernel
theorem dX11_init_193 : decode cX11_init 193 = .ok (.putfield 83, 3) := by decide +kernel
theorem dX11_init_196 : decode cX11_init 196 = .ok (.return_, 1) := by decide +kernel
theorem dX11_in_0 : decode cX11_in 0 = .ok (.iload_n 0, 1) := by decide +kernel
theorem dX11_in_1 : decode cX11_in 1 = .ok (.iload_n 1, 1) := by decide +kernel
theorem dX11_in_2 : decode cX11_in 2 = .ok (.if_icmp .lt 12, 3) := by decide +kernel
theorem dX11_in_5 : decode cX11_in 5 = .ok (.iload_n 0, 1) := by decide +kernel
theorem dX11_in_6 : decode cX11_in 6 = .ok (.iload_n 2, 1) := by decide +kernel
theorem dX11_in_7 : decode cX11_in 7 = .ok (.if_icmp .gt 7, 3) := by decide +kernel
theorem dX11_in_10 : decode cX11_in 10 = .ok (.iconst 1, 1) := by decide +kernel
theorem dX11_in_11 : decode cX11_in 11 = .ok (.goto 4, 3) := by decide +kernel
theorem dX11_in_14 : decode cX11_in 14 = .ok (.iconst 0, 1) := by decide +kernel
theorem dX11_in_15 : decode cX11_in 15 = .ok (.ireturn, 1) := by decide +kernel
theorem dX11_isMachine_0 : decode cX11_isMachine 0 = .ok (.iload_n 0, 1) := by decide +kernel
theorem dX11_isMachine_1 : decode cX11_isMachine 1 = .ok (.iconst 0, 1) := by decide +kernel
theorem dX11_isMachine_2 : decode cX11_isMachine 2 = .ok (.iconst 2, 1) := by decide +kernel
theorem dX11_isMachine_3 : decode cX11_isMachine 3 = .ok (.invokestatic 86, 3) := by decide +kernel
theorem dX11_isMachine_6 : decode cX11_isMachine 6 = .ok (.ireturn, 1) := by decide +kernel
theorem dX11_isPlace_0 : decode cX11_isPlace 0 = .ok (.iload_n 0, 1) := by decide +kernel
theorem dX11_isPlace_1 : decode cX11_isPlace 1 = .ok (.iconst 0, 1) := by decide +kernel
theorem dX11_isPlace_2 : decode cX11_isPlace 2 = .ok (.iconst 5, 1) := by decide +kernel
theorem dX11_isPlace_3 : decode cX11_isPlace 3 = .ok (.invokestatic 86, 3) := by decide +kernel
theorem dX11_isPlace_6 : decode cX11_isPlace 6 = .ok (.ireturn, 1) := by decide +kernel
theorem dX11_isClock_0 : decode cX11_isClock 0 = .ok (.iload_n 0, 1) := by decide +kernel
theorem dX11_isClock_1 : decode cX11_isClock 1 = .ok (.iconst 1, 1) := by decide +kernel
theorem dX11_isClock_2 : decode cX11_isClock 2 = .ok (.iconst 3, 1) := by decide +kernel
theorem dX11_isClock_3 : decode cX11_isClock 3 = .ok (.invokestatic 86, 3) := by decide +kernel
theorem dX11_isClock_6 : decode cX11_isClock 6 = .ok (.ireturn, 1) := by decide +kernel
theorem dX11_isEdge_0 : decode cX11_isEdge 0 = .ok (.iload_n 1, 1) := by decide +kernel
theorem dX11_isEdge_1 : decode cX11_isEdge 1 = .ok (.iconst 0, 1) := by decide +kernel
theorem dX11_isEdge_2 : decode cX11_isEdge 2 = .ok (.aload_n 0, 1) := by decide +kernel
theorem dX11_isEdge_3 : decode cX11_isEdge 3 = .ok (.getfield 90, 3) := by decide +kernel
theorem dX11_isEdge_6 : decode cX11_isEdge 6 = .ok (.iconst 1, 1) := by decide +kernel
theorem dX11_isEdge_7 : decode cX11_isEdge 7 = .ok (.isub, 1) := by decide +kernel
theorem dX11_isEdge_8 : decode cX11_isEdge 8 = .ok (.invokestatic 86, 3) := by decide +kernel
theorem dX11_isEdge_11 : decode cX11_isEdge 11 = .ok (.ireturn, 1) := by decide +kernel
theorem dX11_changed_0 : decode cX11_changed 0 = .ok (.aload_n 0, 1) := by decide +kernel
theorem dX11_changed_1 : decode cX11_changed 1 = .ok (.iconst 1, 1) := by decide +kernel
theorem dX11_changed_2 : decode cX11_changed 2 = .ok (.putfield 37, 3) := by decide +kernel
theorem dX11_changed_5 : decode cX11_changed 5 = .ok (.aload_n 0, 1) := by decide +kernel
theorem dX11_changed_6 : decode cX11_changed 6 = .ok (.iconst 0, 1) := by decide +kernel
theorem dX11_changed_7 : decode cX11_changed 7 = .ok (.putfield 94, 3) := by decide +kernel
theorem dX11_changed_10 : decode cX11_changed 10 = .ok (.aload_n 0, 1) := by decide +kernel
theorem dX11_changed_11 : decode cX11_changed 11 = .ok (.iconst 0, 1) := by decide +kernel
theorem dX11_changed_12 : decode cX11_changed 12 = .ok (.putfield 83, 3) := by decide +kernel
theorem dX11_changed_15 : decode cX11_changed 15 = .ok (.return_, 1) := by decide +kernel
theorem dX11_edge_0 : decode cX11_edge 0 = .ok (.iload_n 1, 1) := by decide +kernel
theorem dX11_edge_1 : decode cX11_edge 1 = .ok (.invokestatic 97, 3) := by decide +kernel
theorem dX11_edge_4 : decode cX11_edge 4 = .ok (.ifCond .eq 17, 3) := by decide +kernel
theorem dX11_edge_7 : decode cX11_edge 7 = .ok (.iload_n 2, 1) := by decide +kernel
theorem dX11_edge_8 : decode cX11_edge 8 = .ok (.invokestatic 101, 3) := by decide +kernel
theorem dX11_edge_11 : decode cX11_edge 11 = .ok (.ifCond .eq 10, 3) := by decide +kernel
theorem dX11_edge_14 : decode cX11_edge 14 = .ok (.iload_n 3, 1) := by decide +kernel
theorem dX11_edge_15 : decode cX11_edge 15 = .ok (.invokestatic 101, 3) := by decide +kernel
theorem dX11_edge_18 : decode cX11_edge 18 = .ok (.ifCond .ne 6, 3) := by decide +kernel
theorem dX11_edge_21 : decode cX11_edge 21 = .ok (.bipush (-101), 2) := by decide +kernel
theorem dX11_edge_23 : decode cX11_edge 23 = .ok (.ireturn, 1) := by decide +kernel
theorem dX11_edge_24 : decode cX11_edge 24 = .ok (.iload 4, 2) := by decide +kernel
theorem dX11_edge_26 : decode cX11_edge 26 = .ok (.bipush (-4), 2) := by decide +kernel
theorem dX11_edge_28 : decode cX11_edge 28 = .ok (.iconst 4, 1) := by decide +kernel
theorem dX11_edge_29 : decode cX11_edge 29 = .ok (.invokestatic 86, 3) := by decide +kernel
theorem dX11_edge_32 : decode cX11_edge 32 = .ok (.ifCond .eq 11, 3) := by decide +kernel
theorem dX11_edge_35 : decode cX11_edge 35 = .ok (.iload 5, 2) := by decide +kernel
theorem dX11_edge_37 : decode cX11_edge 37 = .ok (.bipush (-15), 2) := by decide +kernel
theorem dX11_edge_39 : decode cX11_edge 39 = .ok (.iand, 1) := by decide +kernel
theorem dX11_edge_40 : decode cX11_edge 40 = .ok (.ifCond .eq 6, 3) := by decide +kernel
theorem dX11_edge_43 : decode cX11_edge 43 = .ok (.bipush (-102), 2) := by decide +kernel
theorem dX11_edge_45 : decode cX11_edge 45 = .ok (.ireturn, 1) := by decide +kernel
theorem dX11_edge_46 : decode cX11_edge 46 = .ok (.aload_n 0, 1) := by decide +kernel
theorem dX11_edge_47 : decode cX11_edge 47 = .ok (.getfield 90, 3) := by decide +kernel
theorem dX11_edge_50 : decode cX11_edge 50 = .ok (.bipush 20, 2) := by decide +kernel
theorem dX11_edge_52 : decode cX11_edge 52 = .ok (.if_icmp .ne 6, 3) := by decide +kernel
theorem dX11_edge_55 : decode cX11_edge 55 = .ok (.bipush (-104), 2) := by decide +kernel
theorem dX11_edge_57 : decode cX11_edge 57 = .ok (.ireturn, 1) := by decide +kernel
theorem dX11_edge_58 : decode cX11_edge 58 = .ok (.aload_n 0, 1) := by decide +kernel
theorem dX11_edge_59 : decode cX11_edge 59 = .ok (.getfield 7, 3) := by decide +kernel
theorem dX11_edge_62 : decode cX11_edge 62 = .ok (.aload_n 0, 1) := by decide +kernel
theorem dX11_edge_63 : decode cX11_edge 63 = .ok (.getfield 90, 3) := by decide +kernel
theorem dX11_edge_66 : decode cX11_edge 66 = .ok (.iload_n 1, 1) := by decide +kernel
theorem dX11_edge_67 : decode cX11_edge 67 = .ok (.iastore, 1) := by decide +kernel
theorem dX11_edge_68 : decode cX11_edge 68 = .ok (.aload_n 0, 1) := by decide +kernel
theorem dX11_edge_69 : decode cX11_edge 69 = .ok (.getfield 13, 3) := by decide +kernel
theorem dX11_edge_72 : decode cX11_edge 72 = .ok (.aload_n 0, 1) := by decide +kernel
theorem dX11_edge_73 : decode cX11_edge 73 = .ok (.getfield 90, 3) := by decide +kernel
theorem dX11_edge_76 : decode cX11_edge 76 = .ok (.iload_n 2, 1) := by decide +kernel
theorem dX11_edge_77 : decode cX11_edge 77 = .ok (.iastore, 1) := by decide +kernel
theorem dX11_edge_78 : decode cX11_edge 78 = .ok (.aload_n 0, 1) := by decide +kernel
theorem dX11_edge_79 : decode cX11_edge 79 = .ok (.getfield 16, 3) := by decide +kernel
theorem dX11_edge_82 : decode cX11_edge 82 = .ok (.aload_n 0, 1) := by decide +kernel
theorem dX11_edge_83 : decode cX11_edge 83 = .ok (.getfield 90, 3) := by decide +kernel
theorem dX11_edge_86 : decode cX11_edge 86 = .ok (.iload_n 3, 1) := by decide +kernel
theorem dX11_edge_87 : decode cX11_edge 87 = .ok (.iastore, 1) := by decide +kernel
theorem dX11_edge_88 : decode cX11_edge 88 = .ok (.aload_n 0, 1) := by decide +kernel
theorem dX11_edge_89 : decode cX11_edge 89 = .ok (.getfield 19, 3) := by decide +kernel
theorem dX11_edge_92 : decode cX11_edge 92 = .ok (.aload_n 0, 1) := by decide +kernel
theorem dX11_edge_93 : decode cX11_edge 93 = .ok (.getfield 90, 3) := by decide +kernel
theorem dX11_edge_96 : decode cX11_edge 96 = .ok (.iload 4, 2) := by decide +kernel
theorem dX11_edge_98 : decode cX11_edge 98 = .ok (.iastore, 1) := by decide +kernel
theorem dX11_edge_99 : decode cX11_edge 99 = .ok (.aload_n 0, 1) := by decide +kernel
theorem dX11_edge_100 : decode cX11_edge 100 = .ok (.getfield 22, 3) := by decide +kernel
theorem dX11_edge_103 : decode cX11_edge 103 = .ok (.aload_n 0, 1) := by decide +kernel
theorem dX11_edge_104 : decode cX11_edge 104 = .ok (.getfield 90, 3) := by decide +kernel
theorem dX11_edge_107 : decode cX11_edge 107 = .ok (.iload 5, 2) := by decide +kernel
theorem dX11_edge_109 : decode cX11_edge 109 = .ok (.iastore, 1) := by decide +kernel
theorem dX11_edge_110 : decode cX11_edge 110 = .ok (.aload_n 0, 1) := by decide +kernel
theorem dX11_edge_111 : decode cX11_edge 111 = .ok (.getfield 25, 3) := by decide +kernel
theorem dX11_edge_114 : decode cX11_edge 114 = .ok (.aload_n 0, 1) := by decide +kernel
theorem dX11_edge_115 : decode cX11_edge 115 = .ok (.getfield 90, 3) := by decide +kernel
theorem dX11_edge_118 : decode cX11_edge 118 = .ok (.iconst 0, 1) := by decide +kernel
theorem dX11_edge_119 : decode cX11_edge 119 = .ok (.iastore, 1) := by decide +kernel
theorem dX11_edge_120 : decode cX11_edge 120 = .ok (.aload_n 0, 1) := by decide +kernel
theorem dX11_edge_121 : decode cX11_edge 121 = .ok (.dup, 1) := by decide +kernel
theorem dX11_edge_122 : decode cX11_edge 122 = .ok (.getfield 90, 3) := by decide +kernel
theorem dX11_edge_125 : decode cX11_edge 125 = .ok (.iconst 1, 1) := by decide +kernel
theorem dX11_edge_126 : decode cX11_edge 126 = .ok (.iadd, 1) := by decide +kernel
theorem dX11_edge_127 : decode cX11_edge 127 = .ok (.putfield 90, 3) := by decide +kernel
theorem dX11_edge_130 : decode cX11_edge 130 = .ok (.aload_n 0, 1) := by decide +kernel
theorem dX11_edge_131 : decode cX11_edge 131 = .ok (.invokevirtual 104, 3) := by decide +kernel
theorem dX11_edge_134 : decode cX11_edge 134 = .ok (.aload_n 0, 1) := by decide +kernel
theorem dX11_edge_135 : decode cX11_edge 135 = .ok (.getfield 90, 3) := by decide +kernel
theorem dX11_edge_138 : decode cX11_edge 138 = .ok (.iconst 1, 1) := by decide +kernel
theorem dX11_edge_139 : decode cX11_edge 139 = .ok (.isub, 1) := by decide +kernel
theorem dX11_edge_140 : decode cX11_edge 140 = .ok (.ireturn, 1) := by decide +kernel
theorem dX11_guard_0 : decode cX11_guard 0 = .ok (.aload_n 0, 1) := by decide +kernel
theorem dX11_guard_1 : decode cX11_guard 1 = .ok (.iload_n 1, 1) := by decide +kernel
theorem dX11_guard_2 : decode cX11_guard 2 = .ok (.invokevirtual 107, 3) := by decide +kernel
theorem dX11_guard_5 : decode cX11_guard 5 = .ok (.ifCond .eq 10, 3) := by decide +kernel
theorem dX11_guard_8 : decode cX11_guard 8 = .ok (.iload_n 2, 1) := by decide +kernel
theorem dX11_guard_9 : decode cX11_guard 9 = .ok (.invokestatic 110, 3) := by decide +kernel
theorem dX11_guard_12 : decode cX11_guard 12 = .ok (.ifCond .ne 6, 3) := by decide +kernel
theorem dX11_guard_15 : decode cX11_guard 15 = .ok (.bipush (-101), 2) := by decide +kernel
theorem dX11_guard_17 : decode cX11_guard 17 = .ok (.ireturn, 1) := by decide +kernel
theorem dX11_guard_18 : decode cX11_guard 18 = .ok (.iload_n 3, 1) := by decide +kernel
theorem dX11_guard_19 : decode cX11_guard 19 = .ok (.iconst 0, 1) := by decide +kernel
theorem dX11_guard_20 : decode cX11_guard 20 = .ok (.iconst 4, 1) := by decide +kernel
theorem dX11_guard_21 : decode cX11_guard 21 = .ok (.invokestatic 86, 3) := by decide +kernel
theorem dX11_guard_24 : decode cX11_guard 24 = .ok (.ifCond .eq 15, 3) := by decide +kernel
theorem dX11_guard_27 : decode cX11_guard 27 = .ok (.iload 4, 2) := by decide +kernel
theorem dX11_guard_29 : decode cX11_guard 29 = .ok (.iconst 0, 1) := by decide +kernel
theorem dX11_guard_30 : decode cX11_guard 30 = .ok (.sipush 1000, 3) := by decide +kernel
theorem dX11_guard_33 : decode cX11_guard 33 = .ok (.invokestatic 86, 3) := by decide +kernel
theorem dX11_guard_36 : decode cX11_guard 36 = .ok (.ifCond .ne 6, 3) := by decide +kernel
theorem dX11_guard_39 : decode cX11_guard 39 = .ok (.bipush (-102), 2) := by decide +kernel
theorem dX11_guard_41 : decode cX11_guard 41 = .ok (.ireturn, 1) := by decide +kernel
theorem dX11_guard_42 : decode cX11_guard 42 = .ok (.aload_n 0, 1) := by decide +kernel
theorem dX11_guard_43 : decode cX11_guard 43 = .ok (.getfield 25, 3) := by decide +kernel
theorem dX11_guard_46 : decode cX11_guard 46 = .ok (.iload_n 1, 1) := by decide +kernel
theorem dX11_guard_47 : decode cX11_guard 47 = .ok (.iaload, 1) := by decide +kernel
theorem dX11_guard_48 : decode cX11_guard 48 = .ok (.iconst 2, 1) := by decide +kernel
theorem dX11_guard_49 : decode cX11_guard 49 = .ok (.if_icmp .ne 6, 3) := by decide +kernel
theorem dX11_guard_52 : decode cX11_guard 52 = .ok (.bipush (-104), 2) := by decide +kernel
theorem dX11_guard_54 : decode cX11_guard 54 = .ok (.ireturn, 1) := by decide +kernel
theorem dX11_guard_55 : decode cX11_guard 55 = .ok (.bipush 6, 2) := by decide +kernel
theorem dX11_guard_57 : decode cX11_guard 57 = .ok (.iload_n 1, 1) := by decide +kernel
theorem dX11_guard_58 : decode cX11_guard 58 = .ok (.imul, 1) := by decide +kernel
theorem dX11_guard_59 : decode cX11_guard 59 = .ok (.iconst 3, 1) := by decide +kernel
theorem dX11_guard_60 : decode cX11_guard 60 = .ok (.aload_n 0, 1) := by decide +kernel
theorem dX11_guard_61 : decode cX11_guard 61 = .ok (.getfield 25, 3) := by decide +kernel
theorem dX11_guard_64 : decode cX11_guard 64 = .ok (.iload_n 1, 1) := by decide +kernel
theorem dX11_guard_65 : decode cX11_guard 65 = .ok (.iaload, 1) := by decide +kernel
theorem dX11_guard_66 : decode cX11_guard 66 = .ok (.imul, 1) := by decide +kernel
theorem dX11_guard_67 : decode cX11_guard 67 = .ok (.iadd, 1) := by decide +kernel
theorem dX11_guard_68 : decode cX11_guard 68 = .ok (.istore 5, 2) := by decide +kernel
theorem dX11_guard_70 : decode cX11_guard 70 = .ok (.aload_n 0, 1) := by decide +kernel
theorem dX11_guard_71 : decode cX11_guard 71 = .ok (.getfield 28, 3) := by decide +kernel
theorem dX11_guard_74 : decode cX11_guard 74 = .ok (.iload 5, 2) := by decide +kernel
theorem dX11_guard_76 : decode cX11_guard 76 = .ok (.iload_n 2, 1) := by decide +kernel
theorem dX11_guard_77 : decode cX11_guard 77 = .ok (.iastore, 1) := by decide +kernel
theorem dX11_guard_78 : decode cX11_guard 78 = .ok (.aload_n 0, 1) := by decide +kernel
theorem dX11_guard_79 : decode cX11_guard 79 = .ok (.getfield 28, 3) := by decide +kernel
theorem dX11_guard_82 : decode cX11_guard 82 = .ok (.iload 5, 2) := by decide +kernel
theorem dX11_guard_84 : decode cX11_guard 84 = .ok (.iconst 1, 1) := by decide +kernel
theorem dX11_guard_85 : decode cX11_guard 85 = .ok (.iadd, 1) := by decide +kernel
theorem dX11_guard_86 : decode cX11_guard 86 = .ok (.iload_n 3, 1) := by decide +kernel
theorem dX11_guard_87 : decode cX11_guard 87 = .ok (.iastore, 1) := by decide +kernel
theorem dX11_guard_88 : decode cX11_guard 88 = .ok (.aload_n 0, 1) := by decide +kernel
theorem dX11_guard_89 : decode cX11_guard 89 = .ok (.getfield 28, 3) := by decide +kernel
theorem dX11_guard_92 : decode cX11_guard 92 = .ok (.iload 5, 2) := by decide +kernel
theorem dX11_guard_94 : decode cX11_guard 94 = .ok (.iconst 2, 1) := by decide +kernel
theorem dX11_guard_95 : decode cX11_guard 95 = .ok (.iadd, 1) := by decide +kernel
theorem dX11_guard_96 : decode cX11_guard 96 = .ok (.iload 4, 2) := by decide +kernel
theorem dX11_guard_98 : decode cX11_guard 98 = .ok (.iastore, 1) := by decide +kernel
theorem dX11_guard_99 : decode cX11_guard 99 = .ok (.aload_n 0, 1) := by decide +kernel
theorem dX11_guard_100 : decode cX11_guard 100 = .ok (.getfield 25, 3) := by decide +kernel
theorem dX11_guard_103 : decode cX11_guard 103 = .ok (.iload_n 1, 1) := by decide +kernel
theorem dX11_guard_104 : decode cX11_guard 104 = .ok (.dup2, 1) := by decide +kernel
theorem dX11_guard_105 : decode cX11_guard 105 = .ok (.iaload, 1) := by decide +kernel
theorem dX11_guard_106 : decode cX11_guard 106 = .ok (.iconst 1, 1) := by decide +kernel
theorem dX11_guard_107 : decode cX11_guard 107 = .ok (.iadd, 1) := by decide +kernel
theorem dX11_guard_108 : decode cX11_guard 108 = .ok (.iastore, 1) := by decide +kernel
theorem dX11_guard_109 : decode cX11_guard 109 = .ok (.aload_n 0, 1) := by decide +kernel
theorem dX11_guard_110 : decode cX11_guard 110 = .ok (.invokevirtual 104, 3) := by decide +kernel
theorem dX11_guard_113 : decode cX11_guard 113 = .ok (.aload_n 0, 1) := by decide +kernel
theorem dX11_guard_114 : decode cX11_guard 114 = .ok (.getfield 25, 3) := by decide +kernel
theorem dX11_guard_117 : decode cX11_guard 117 = .ok (.iload_n 1, 1) := by decide +kernel
theorem dX11_guard_118 : decode cX11_guard 118 = .ok (.iaload, 1) := by decide +kernel
theorem dX11_guard_119 : decode cX11_guard 119 = .ok (.ireturn, 1) := by decide +kernel
theorem dX11_limit_0 : decode cX11_limit 0 = .ok (.iload_n 1, 1) := by decide +kernel
theorem dX11_limit_1 : decode cX11_limit 1 = .ok (.invokestatic 97, 3) := by decide +kernel
theorem dX11_limit_4 : decode cX11_limit 4 = .ok (.ifCond .eq 17, 3) := by decide +kernel
theorem dX11_limit_7 : decode cX11_limit 7 = .ok (.iload_n 2, 1) := by decide +kernel
theorem dX11_limit_8 : decode cX11_limit 8 = .ok (.invokestatic 101, 3) := by decide +kernel
theorem dX11_limit_11 : decode cX11_limit 11 = .ok (.ifCond .eq 10, 3) := by decide +kernel
theorem dX11_limit_14 : decode cX11_limit 14 = .ok (.iload_n 3, 1) := by decide +kernel
theorem dX11_limit_15 : decode cX11_limit 15 = .ok (.invokestatic 110, 3) := by decide +kernel
theorem dX11_limit_18 : decode cX11_limit 18 = .ok (.ifCond .ne 6, 3) := by decide +kernel
theorem dX11_limit_21 : decode cX11_limit 21 = .ok (.bipush (-101), 2) := by decide +kernel
theorem dX11_limit_23 : decode cX11_limit 23 = .ok (.ireturn, 1) := by decide +kernel
theorem dX11_limit_24 : decode cX11_limit 24 = .ok (.iload 4, 2) := by decide +kernel
theorem dX11_limit_26 : decode cX11_limit 26 = .ok (.iconst 0, 1) := by decide +kernel
theorem dX11_limit_27 : decode cX11_limit 27 = .ok (.iconst 1, 1) := by decide +kernel
theorem dX11_limit_28 : decode cX11_limit 28 = .ok (.invokestatic 86, 3) := by decide +kernel
theorem dX11_limit_31 : decode cX11_limit 31 = .ok (.ifCond .eq 15, 3) := by decide +kernel
theorem dX11_limit_34 : decode cX11_limit 34 = .ok (.iload 5, 2) := by decide +kernel
theorem dX11_limit_36 : decode cX11_limit 36 = .ok (.iconst 0, 1) := by decide +kernel
theorem dX11_limit_37 : decode cX11_limit 37 = .ok (.sipush 1000, 3) := by decide +kernel
theorem dX11_limit_40 : decode cX11_limit 40 = .ok (.invokestatic 86, 3) := by decide +kernel
theorem dX11_limit_43 : decode cX11_limit 43 = .ok (.ifCond .ne 6, 3) := by decide +kernel
theorem dX11_limit_46 : decode cX11_limit 46 = .ok (.bipush (-102), 2) := by decide +kernel
theorem dX11_limit_48 : decode cX11_limit 48 = .ok (.ireturn, 1) := by decide +kernel
theorem dX11_limit_49 : decode cX11_limit 49 = .ok (.bipush 6, 2) := by decide +kernel
theorem dX11_limit_51 : decode cX11_limit 51 = .ok (.iload_n 1, 1) := by decide +kernel
theorem dX11_limit_52 : decode cX11_limit 52 = .ok (.imul, 1) := by decide +kernel
theorem dX11_limit_53 : decode cX11_limit 53 = .ok (.iload_n 2, 1) := by decide +kernel
theorem dX11_limit_54 : decode cX11_limit 54 = .ok (.iadd, 1) := by decide +kernel
theorem dX11_limit_55 : decode cX11_limit 55 = .ok (.istore 6, 2) := by decide +kernel
theorem dX11_limit_57 : decode cX11_limit 57 = .ok (.aload_n 0, 1) := by decide +kernel
theorem dX11_limit_58 : decode cX11_limit 58 = .ok (.getfield 31, 3) := by decide +kernel
theorem dX11_limit_61 : decode cX11_limit 61 = .ok (.iload 6, 2) := by decide +kernel
theorem dX11_limit_63 : decode cX11_limit 63 = .ok (.iaload, 1) := by decide +kernel
theorem dX11_limit_64 : decode cX11_limit 64 = .ok (.iconst 2, 1) := by decide +kernel
theorem dX11_limit_65 : decode cX11_limit 65 = .ok (.if_icmp .ne 6, 3) := by decide +kernel
theorem dX11_limit_68 : decode cX11_limit 68 = .ok (.bipush (-104), 2) := by decide +kernel
theorem dX11_limit_70 : decode cX11_limit 70 = .ok (.ireturn, 1) := by decide +kernel
theorem dX11_limit_71 : decode cX11_limit 71 = .ok (.bipush 6, 2) := by decide +kernel
theorem dX11_limit_73 : decode cX11_limit 73 = .ok (.iload 6, 2) := by decide +kernel
theorem dX11_limit_75 : decode cX11_limit 75 = .ok (.imul, 1) := by decide +kernel
theorem dX11_limit_76 : decode cX11_limit 76 = .ok (.iconst 3, 1) := by decide +kernel
theorem dX11_limit_77 : decode cX11_limit 77 = .ok (.aload_n 0, 1) := by decide +kernel
theorem dX11_limit_78 : decode cX11_limit 78 = .ok (.getfield 31, 3) := by decide +kernel
theorem dX11_limit_81 : decode cX11_limit 81 = .ok (.iload 6, 2) := by decide +kernel
theorem dX11_limit_83 : decode cX11_limit 83 = .ok (.iaload, 1) := by decide +kernel
theorem dX11_limit_84 : decode cX11_limit 84 = .ok (.imul, 1) := by decide +kernel
theorem dX11_limit_85 : decode cX11_limit 85 = .ok (.iadd, 1) := by decide +kernel
theorem dX11_limit_86 : decode cX11_limit 86 = .ok (.istore 7, 2) := by decide +kernel
theorem dX11_limit_88 : decode cX11_limit 88 = .ok (.aload_n 0, 1) := by decide +kernel
theorem dX11_limit_89 : decode cX11_limit 89 = .ok (.getfield 34, 3) := by decide +kernel
theorem dX11_limit_92 : decode cX11_limit 92 = .ok (.iload 7, 2) := by decide +kernel
theorem dX11_limit_94 : decode cX11_limit 94 = .ok (.iload_n 3, 1) := by decide +kernel
theorem dX11_limit_95 : decode cX11_limit 95 = .ok (.iastore, 1) := by decide +kernel
theorem dX11_limit_96 : decode cX11_limit 96 = .ok (.aload_n 0, 1) := by decide +kernel
theorem dX11_limit_97 : decode cX11_limit 97 = .ok (.getfield 34, 3) := by decide +kernel
theorem dX11_limit_100 : decode cX11_limit 100 = .ok (.iload 7, 2) := by decide +kernel
theorem dX11_limit_102 : decode cX11_limit 102 = .ok (.iconst 1, 1) := by decide +kernel
theorem dX11_limit_103 : decode cX11_limit 103 = .ok (.iadd, 1) := by decide +kernel
theorem dX11_limit_104 : decode cX11_limit 104 = .ok (.iload 4, 2) := by decide +kernel
theorem dX11_limit_106 : decode cX11_limit 106 = .ok (.iastore, 1) := by decide +kernel
theorem dX11_limit_107 : decode cX11_limit 107 = .ok (.aload_n 0, 1) := by decide +kernel
theorem dX11_limit_108 : decode cX11_limit 108 = .ok (.getfield 34, 3) := by decide +kernel
theorem dX11_limit_111 : decode cX11_limit 111 = .ok (.iload 7, 2) := by decide +kernel
theorem dX11_limit_113 : decode cX11_limit 113 = .ok (.iconst 2, 1) := by decide +kernel
theorem dX11_limit_114 : decode cX11_limit 114 = .ok (.iadd, 1) := by decide +kernel
theorem dX11_limit_115 : decode cX11_limit 115 = .ok (.iload 5, 2) := by decide +kernel
theorem dX11_limit_117 : decode cX11_limit 117 = .ok (.iastore, 1) := by decide +kernel
theorem dX11_limit_118 : decode cX11_limit 118 = .ok (.aload_n 0, 1) := by decide +kernel
theorem dX11_limit_119 : decode cX11_limit 119 = .ok (.getfield 31, 3) := by decide +kernel
theorem dX11_limit_122 : decode cX11_limit 122 = .ok (.iload 6, 2) := by decide +kernel
theorem dX11_limit_124 : decode cX11_limit 124 = .ok (.dup2, 1) := by decide +kernel
theorem dX11_limit_125 : decode cX11_limit 125 = .ok (.iaload, 1) := by decide +kernel
theorem dX11_limit_126 : decode cX11_limit 126 = .ok (.iconst 1, 1) := by decide +kernel
theorem dX11_limit_127 : decode cX11_limit 127 = .ok (.iadd, 1) := by decide +kernel
theorem dX11_limit_128 : decode cX11_limit 128 = .ok (.iastore, 1) := by decide +kernel
theorem dX11_limit_129 : decode cX11_limit 129 = .ok (.aload_n 0, 1) := by decide +kernel
theorem dX11_limit_130 : decode cX11_limit 130 = .ok (.invokevirtual 104, 3) := by decide +kernel
theorem dX11_limit_133 : decode cX11_limit 133 = .ok (.aload_n 0, 1) := by decide +kernel
theorem dX11_limit_134 : decode cX11_limit 134 = .ok (.getfield 31, 3) := by decide +kernel
theorem dX11_limit_137 : decode cX11_limit 137 = .ok (.iload 6, 2) := by decide +kernel
theorem dX11_limit_139 : decode cX11_limit 139 = .ok (.iaload, 1) := by decide +kernel
theorem dX11_limit_140 : decode cX11_limit 140 = .ok (.ireturn, 1) := by decide +kernel
theorem dX11_wipe_0 : decode cX11_wipe 0 = .ok (.aload_n 0, 1) := by decide +kernel
theorem dX11_wipe_1 : decode cX11_wipe 1 = .ok (.getfield 90, 3) := by decide +kernel
theorem dX11_wipe_4 : decode cX11_wipe 4 = .ok (.istore_n 1, 1) := by decide +kernel
theorem dX11_wipe_5 : decode cX11_wipe 5 = .ok (.aload_n 0, 1) := by decide +kernel
theorem dX11_wipe_6 : decode cX11_wipe 6 = .ok (.iconst 0, 1) := by decide +kernel
theorem dX11_wipe_7 : decode cX11_wipe 7 = .ok (.putfield 90, 3) := by decide +kernel
theorem dX11_wipe_10 : decode cX11_wipe 10 = .ok (.iconst 0, 1) := by decide +kernel
theorem dX11_wipe_11 : decode cX11_wipe 11 = .ok (.istore_n 2, 1) := by decide +kernel
theorem dX11_wipe_12 : decode cX11_wipe 12 = .ok (.iload_n 2, 1) := by decide +kernel
theorem dX11_wipe_13 : decode cX11_wipe 13 = .ok (.bipush 18, 2) := by decide +kernel
theorem dX11_wipe_15 : decode cX11_wipe 15 = .ok (.if_icmp .ge 16, 3) := by decide +kernel
theorem dX11_wipe_18 : decode cX11_wipe 18 = .ok (.aload_n 0, 1) := by decide +kernel
theorem dX11_wipe_19 : decode cX11_wipe 19 = .ok (.getfield 31, 3) := by decide +kernel
theorem dX11_wipe_22 : decode cX11_wipe 22 = .ok (.iload_n 2, 1) := by decide +kernel
theorem dX11_wipe_23 : decode cX11_wipe 23 = .ok (.iconst 0, 1) := by decide +kernel
theorem dX11_wipe_24 : decode cX11_wipe 24 = .ok (.iastore, 1) := by decide +kernel
theorem dX11_wipe_25 : decode cX11_wipe 25 = .ok (.iinc 2 1, 3) := by decide +kernel
theorem dX11_wipe_28 : decode cX11_wipe 28 = .ok (.goto (-16), 3) := by decide +kernel
theorem dX11_wipe_31 : decode cX11_wipe 31 = .ok (.aload_n 0, 1) := by decide +kernel
theorem dX11_wipe_32 : decode cX11_wipe 32 = .ok (.invokevirtual 104, 3) := by decide +kernel
theorem dX11_wipe_35 : decode cX11_wipe 35 = .ok (.iload_n 1, 1) := by decide +kernel
theorem dX11_wipe_36 : decode cX11_wipe 36 = .ok (.ireturn, 1) := by decide +kernel
theorem dX11_sum_0 : decode cX11_sum 0 = .ok (.iload_n 0, 1) := by decide +kernel
theorem dX11_sum_1 : decode cX11_sum 1 = .ok (.ldc 113, 2) := by decide +kernel
theorem dX11_sum_3 : decode cX11_sum 3 = .ok (.if_icmp .eq 9, 3) := by decide +kernel
theorem dX11_sum_6 : decode cX11_sum 6 = .ok (.iload_n 1, 1) := by decide +kernel
theorem dX11_sum_7 : decode cX11_sum 7 = .ok (.ldc 113, 2) := by decide +kernel
theorem dX11_sum_9 : decode cX11_sum 9 = .ok (.if_icmp .ne 6, 3) := by decide +kernel
theorem dX11_sum_12 : decode cX11_sum 12 = .ok (.ldc 113, 2) := by decide +kernel
theorem dX11_sum_14 : decode cX11_sum 14 = .ok (.ireturn, 1) := by decide +kernel
theorem dX11_sum_15 : decode cX11_sum 15 = .ok (.iconst 2, 1) := by decide +kernel
theorem dX11_sum_16 : decode cX11_sum 16 = .ok (.iload_n 0, 1) := by decide +kernel
theorem dX11_sum_17 : decode cX11_sum 17 = .ok (.iconst 1, 1) := by decide +kernel
theorem dX11_sum_18 : decode cX11_sum 18 = .ok (.ishr, 1) := by decide +kernel
theorem dX11_sum_19 : decode cX11_sum 19 = .ok (.iload_n 1, 1) := by decide +kernel
theorem dX11_sum_20 : decode cX11_sum 20 = .ok (.iconst 1, 1) := by decide +kernel
theorem dX11_sum_21 : decode cX11_sum 21 = .ok (.ishr, 1) := by decide +kernel
theorem dX11_sum_22 : decode cX11_sum 22 = .ok (.iadd, 1) := by decide +kernel
theorem dX11_sum_23 : decode cX11_sum 23 = .ok (.imul, 1) := by decide +kernel
theorem dX11_sum_24 : decode cX11_sum 24 = .ok (.iload_n 0, 1) := by decide +kernel
theorem dX11_sum_25 : decode cX11_sum 25 = .ok (.iload_n 1, 1) := by decide +kernel
theorem dX11_sum_26 : decode cX11_sum 26 = .ok (.iand, 1) := by decide +kernel
theorem dX11_sum_27 : decode cX11_sum 27 = .ok (.iconst 1, 1) := by decide +kernel
theorem dX11_sum_28 : decode cX11_sum 28 = .ok (.iand, 1) := by decide +kernel
theorem dX11_sum_29 : decode cX11_sum 29 = .ok (.iadd, 1) := by decide +kernel
theorem dX11_sum_30 : decode cX11_sum 30 = .ok (.ireturn, 1) := by decide +kernel
theorem dX11_close_0 : decode cX11_close 0 = .ok (.iconst 0, 1) := by decide +kernel
theorem dX11_close_1 : decode cX11_close 1 = .ok (.istore_n 1, 1) := by decide +kernel
theorem dX11_close_2 : decode cX11_close 2 = .ok (.iload_n 1, 1) := by decide +kernel
theorem dX11_close_3 : decode cX11_close 3 = .ok (.iconst 4, 1) := by decide +kernel
theorem dX11_close_4 : decode cX11_close 4 = .ok (.if_icmp .ge 100, 3) := by decide +kernel
theorem dX11_close_7 : decode cX11_close 7 = .ok (.iconst 0, 1) := by decide +kernel
theorem dX11_close_8 : decode cX11_close 8 = .ok (.istore_n 2, 1) := by decide +kernel
theorem dX11_close_9 : decode cX11_close 9 = .ok (.iload_n 2, 1) := by decide +kernel
theorem dX11_close_10 : decode cX11_close 10 = .ok (.iconst 4, 1) := by decide +kernel
theorem dX11_close_11 : decode cX11_close 11 = .ok (.if_icmp .ge 87, 3) := by decide +kernel
theorem dX11_close_14 : decode cX11_close 14 = .ok (.iconst 0, 1) := by decide +kernel
theorem dX11_close_15 : decode cX11_close 15 = .ok (.istore_n 3, 1) := by decide +kernel
theorem dX11_close_16 : decode cX11_close 16 = .ok (.iload_n 3, 1) := by decide +kernel
theorem dX11_close_17 : decode cX11_close 17 = .ok (.iconst 4, 1) := by decide +kernel
theorem dX11_close_18 : decode cX11_close 18 = .ok (.if_icmp .ge 74, 3) := by decide +kernel
theorem dX11_close_21 : decode cX11_close 21 = .ok (.aload_n 0, 1) := by decide +kernel
theorem dX11_close_22 : decode cX11_close 22 = .ok (.getfield 59, 3) := by decide +kernel
theorem dX11_close_25 : decode cX11_close 25 = .ok (.iconst 4, 1) := by decide +kernel
theorem dX11_close_26 : decode cX11_close 26 = .ok (.iload_n 2, 1) := by decide +kernel
theorem dX11_close_27 : decode cX11_close 27 = .ok (.imul, 1) := by decide +kernel
theorem dX11_close_28 : decode cX11_close 28 = .ok (.iload_n 1, 1) := by decide +kernel
theorem dX11_close_29 : decode cX11_close 29 = .ok (.iadd, 1) := by decide +kernel
theorem dX11_close_30 : decode cX11_close 30 = .ok (.iaload, 1) := by decide +kernel
theorem dX11_close_31 : decode cX11_close 31 = .ok (.aload_n 0, 1) := by decide +kernel
theorem dX11_close_32 : decode cX11_close 32 = .ok (.getfield 59, 3) := by decide +kernel
theorem dX11_close_35 : decode cX11_close 35 = .ok (.iconst 4, 1) := by decide +kernel
theorem dX11_close_36 : decode cX11_close 36 = .ok (.iload_n 1, 1) := by decide +kernel
theorem dX11_close_37 : decode cX11_close 37 = .ok (.imul, 1) := by decide +kernel
theorem dX11_close_38 : decode cX11_close 38 = .ok (.iload_n 3, 1) := by decide +kernel
theorem dX11_close_39 : decode cX11_close 39 = .ok (.iadd, 1) := by decide +kernel
theorem dX11_close_40 : decode cX11_close 40 = .ok (.iaload, 1) := by decide +kernel
theorem dX11_close_41 : decode cX11_close 41 = .ok (.invokestatic 114, 3) := by decide +kernel
theorem dX11_close_44 : decode cX11_close 44 = .ok (.istore 4, 2) := by decide +kernel
theorem dX11_close_46 : decode cX11_close 46 = .ok (.aload_n 0, 1) := by decide +kernel
theorem dX11_close_47 : decode cX11_close 47 = .ok (.getfield 59, 3) := by decide +kernel
theorem dX11_close_50 : decode cX11_close 50 = .ok (.iconst 4, 1) := by decide +kernel
theorem dX11_close_51 : decode cX11_close 51 = .ok (.iload_n 2, 1) := by decide +kernel
theorem dX11_close_52 : decode cX11_close 52 = .ok (.imul, 1) := by decide +kernel
theorem dX11_close_53 : decode cX11_close 53 = .ok (.iload_n 3, 1) := by decide +kernel
theorem dX11_close_54 : decode cX11_close 54 = .ok (.iadd, 1) := by decide +kernel
theorem dX11_close_55 : decode cX11_close 55 = .ok (.iload 4, 2) := by decide +kernel
theorem dX11_close_57 : decode cX11_close 57 = .ok (.aload_n 0, 1) := by decide +kernel
theorem dX11_close_58 : decode cX11_close 58 = .ok (.getfield 59, 3) := by decide +kernel
theorem dX11_close_61 : decode cX11_close 61 = .ok (.iconst 4, 1) := by decide +kernel
theorem dX11_close_62 : decode cX11_close 62 = .ok (.iload_n 2, 1) := by decide +kernel
theorem dX11_close_63 : decode cX11_close 63 = .ok (.imul, 1) := by decide +kernel
theorem dX11_close_64 : decode cX11_close 64 = .ok (.iload_n 3, 1) := by decide +kernel
theorem dX11_close_65 : decode cX11_close 65 = .ok (.iadd, 1) := by decide +kernel
theorem dX11_close_66 : decode cX11_close 66 = .ok (.iaload, 1) := by decide +kernel
theorem dX11_close_67 : decode cX11_close 67 = .ok (.if_icmp .ge 8, 3) := by decide +kernel
theorem dX11_close_70 : decode cX11_close 70 = .ok (.iload 4, 2) := by decide +kernel
theorem dX11_close_72 : decode cX11_close 72 = .ok (.goto 13, 3) := by decide +kernel
theorem dX11_close_75 : decode cX11_close 75 = .ok (.aload_n 0, 1) := by decide +kernel
theorem dX11_close_76 : decode cX11_close 76 = .ok (.getfield 59, 3) := by decide +kernel
theorem dX11_close_79 : decode cX11_close 79 = .ok (.iconst 4, 1) := by decide +kernel
theorem dX11_close_80 : decode cX11_close 80 = .ok (.iload_n 2, 1) := by decide +kernel
theorem dX11_close_81 : decode cX11_close 81 = .ok (.imul, 1) := by decide +kernel
theorem dX11_close_82 : decode cX11_close 82 = .ok (.iload_n 3, 1) := by decide +kernel
theorem dX11_close_83 : decode cX11_close 83 = .ok (.iadd, 1) := by decide +kernel
theorem dX11_close_84 : decode cX11_close 84 = .ok (.iaload, 1) := by decide +kernel
theorem dX11_close_85 : decode cX11_close 85 = .ok (.iastore, 1) := by decide +kernel
theorem dX11_close_86 : decode cX11_close 86 = .ok (.iinc 3 1, 3) := by decide +kernel
theorem dX11_close_89 : decode cX11_close 89 = .ok (.goto (-73), 3) := by decide +kernel
theorem dX11_close_92 : decode cX11_close 92 = .ok (.iinc 2 1, 3) := by decide +kernel
theorem dX11_close_95 : decode cX11_close 95 = .ok (.goto (-86), 3) := by decide +kernel
theorem dX11_close_98 : decode cX11_close 98 = .ok (.iinc 1 1, 3) := by decide +kernel
theorem dX11_close_101 : decode cX11_close 101 = .ok (.goto (-99), 3) := by decide +kernel
theorem dX11_close_104 : decode cX11_close 104 = .ok (.iconst 1, 1) := by decide +kernel
theorem dX11_close_105 : decode cX11_close 105 = .ok (.istore_n 1, 1) := by decide +kernel
theorem dX11_close_106 : decode cX11_close 106 = .ok (.iconst 0, 1) := by decide +kernel
theorem dX11_close_107 : decode cX11_close 107 = .ok (.istore_n 2, 1) := by decide +kernel
theorem dX11_close_108 : decode cX11_close 108 = .ok (.iload_n 2, 1) := by decide +kernel
theorem dX11_close_109 : decode cX11_close 109 = .ok (.iconst 4, 1) := by decide +kernel
theorem dX11_close_110 : decode cX11_close 110 = .ok (.if_icmp .ge 31, 3) := by decide +kernel
theorem dX11_close_113 : decode cX11_close 113 = .ok (.iload_n 1, 1) := by decide +kernel
theorem dX11_close_114 : decode cX11_close 114 = .ok (.ifCond .eq 19, 3) := by decide +kernel
theorem dX11_close_117 : decode cX11_close 117 = .ok (.aload_n 0, 1) := by decide +kernel
theorem dX11_close_118 : decode cX11_close 118 = .ok (.getfield 59, 3) := by decide +kernel
theorem dX11_close_121 : decode cX11_close 121 = .ok (.iconst 5, 1) := by decide +kernel
theorem dX11_close_122 : decode cX11_close 122 = .ok (.iload_n 2, 1) := by decide +kernel
theorem dX11_close_123 : decode cX11_close 123 = .ok (.imul, 1) := by decide +kernel
theorem dX11_close_124 : decode cX11_close 124 = .ok (.iaload, 1) := by decide +kernel
theorem dX11_close_125 : decode cX11_close 125 = .ok (.iconst 1, 1) := by decide +kernel
theorem dX11_close_126 : decode cX11_close 126 = .ok (.if_icmp .ne 7, 3) := by decide +kernel
theorem dX11_close_129 : decode cX11_close 129 = .ok (.iconst 1, 1) := by decide +kernel
theorem dX11_close_130 : decode cX11_close 130 = .ok (.goto 4, 3) := by decide +kernel
theorem dX11_close_133 : decode cX11_close 133 = .ok (.iconst 0, 1) := by decide +kernel
theorem dX11_close_134 : decode cX11_close 134 = .ok (.istore_n 1, 1) := by decide +kernel
theorem dX11_close_135 : decode cX11_close 135 = .ok (.iinc 2 1, 3) := by decide +kernel
theorem dX11_close_138 : decode cX11_close 138 = .ok (.goto (-30), 3) := by decide +kernel
theorem dX11_close_141 : decode cX11_close 141 = .ok (.iload_n 1, 1) := by decide +kernel
theorem dX11_close_142 : decode cX11_close 142 = .ok (.ireturn, 1) := by decide +kernel
theorem dX11_bind_0 : decode cX11_bind 0 = .ok (.aload_n 0, 1) := by decide +kernel
theorem dX11_bind_1 : decode cX11_bind 1 = .ok (.getfield 59, 3) := by decide +kernel
theorem dX11_bind_4 : decode cX11_bind 4 = .ok (.iconst 4, 1) := by decide +kernel
theorem dX11_bind_5 : decode cX11_bind 5 = .ok (.iload_n 1, 1) := by decide +kernel
theorem dX11_bind_6 : decode cX11_bind 6 = .ok (.imul, 1) := by decide +kernel
theorem dX11_bind_7 : decode cX11_bind 7 = .ok (.iload_n 2, 1) := by decide +kernel
theorem dX11_bind_8 : decode cX11_bind 8 = .ok (.iadd, 1) := by decide +kernel
theorem dX11_bind_9 : decode cX11_bind 9 = .ok (.iload_n 3, 1) := by decide +kernel
theorem dX11_bind_10 : decode cX11_bind 10 = .ok (.aload_n 0, 1) := by decide +kernel
theorem dX11_bind_11 : decode cX11_bind 11 = .ok (.getfield 59, 3) := by decide +kernel
theorem dX11_bind_14 : decode cX11_bind 14 = .ok (.iconst 4, 1) := by decide +kernel
theorem dX11_bind_15 : decode cX11_bind 15 = .ok (.iload_n 1, 1) := by decide +kernel
theorem dX11_bind_16 : decode cX11_bind 16 = .ok (.imul, 1) := by decide +kernel
theorem dX11_bind_17 : decode cX11_bind 17 = .ok (.iload_n 2, 1) := by decide +kernel
theorem dX11_bind_18 : decode cX11_bind 18 = .ok (.iadd, 1) := by decide +kernel
theorem dX11_bind_19 : decode cX11_bind 19 = .ok (.iaload, 1) := by decide +kernel
theorem dX11_bind_20 : decode cX11_bind 20 = .ok (.if_icmp .ge 7, 3) := by decide +kernel
theorem dX11_bind_23 : decode cX11_bind 23 = .ok (.iload_n 3, 1) := by decide +kernel
theorem dX11_bind_24 : decode cX11_bind 24 = .ok (.goto 13, 3) := by decide +kernel
theorem dX11_bind_27 : decode cX11_bind 27 = .ok (.aload_n 0, 1) := by decide +kernel
theorem dX11_bind_28 : decode cX11_bind 28 = .ok (.getfield 59, 3) := by decide +kernel
theorem dX11_bind_31 : decode cX11_bind 31 = .ok (.iconst 4, 1) := by decide +kernel
theorem dX11_bind_32 : decode cX11_bind 32 = .ok (.iload_n 1, 1) := by decide +kernel
theorem dX11_bind_33 : decode cX11_bind 33 = .ok (.imul, 1) := by decide +kernel
theorem dX11_bind_34 : decode cX11_bind 34 = .ok (.iload_n 2, 1) := by decide +kernel
theorem dX11_bind_35 : decode cX11_bind 35 = .ok (.iadd, 1) := by decide +kernel
theorem dX11_bind_36 : decode cX11_bind 36 = .ok (.iaload, 1) := by decide +kernel
theorem dX11_bind_37 : decode cX11_bind 37 = .ok (.iastore, 1) := by decide +kernel
theorem dX11_bind_38 : decode cX11_bind 38 = .ok (.return_, 1) := by decide +kernel
theorem dX11_test_0 : decode cX11_test 0 = .ok (.iload_n 2, 1) := by decide +kernel
theorem dX11_test_1 : decode cX11_test 1 = .ok (.iconst 3, 1) := by decide +kernel
theorem dX11_test_2 : decode cX11_test 2 = .ok (.if_icmp .ge 22, 3) := by decide +kernel
theorem dX11_test_5 : decode cX11_test 5 = .ok (.aload_n 0, 1) := by decide +kernel
theorem dX11_test_6 : decode cX11_test 6 = .ok (.iload_n 1, 1) := by decide +kernel
theorem dX11_test_7 : decode cX11_test 7 = .ok (.iconst 0, 1) := by decide +kernel
theorem dX11_test_8 : decode cX11_test 8 = .ok (.iconst 2, 1) := by decide +kernel
theorem dX11_test_9 : decode cX11_test 9 = .ok (.iload_n 3, 1) := by decide +kernel
theorem dX11_test_10 : decode cX11_test 10 = .ok (.imul, 1) := by decide +kernel
theorem dX11_test_11 : decode cX11_test 11 = .ok (.iload_n 2, 1) := by decide +kernel
theorem dX11_test_12 : decode cX11_test 12 = .ok (.ifCond .ne 7, 3) := by decide +kernel
theorem dX11_test_15 : decode cX11_test 15 = .ok (.iconst 0, 1) := by decide +kernel
theorem dX11_test_16 : decode cX11_test 16 = .ok (.goto 4, 3) := by decide +kernel
theorem dX11_test_19 : decode cX11_test 19 = .ok (.iconst 1, 1) := by decide +kernel
theorem dX11_test_20 : decode cX11_test 20 = .ok (.iadd, 1) := by decide +kernel
theorem dX11_test_21 : decode cX11_test 21 = .ok (.invokevirtual 118, 3) := by decide +kernel
theorem dX11_test_24 : decode cX11_test 24 = .ok (.iload_n 2, 1) := by decide +kernel
theorem dX11_test_25 : decode cX11_test 25 = .ok (.iconst 1, 1) := by decide +kernel
theorem dX11_test_26 : decode cX11_test 26 = .ok (.if_icmp .le 24, 3) := by decide +kernel
theorem dX11_test_29 : decode cX11_test 29 = .ok (.aload_n 0, 1) := by decide +kernel
theorem dX11_test_30 : decode cX11_test 30 = .ok (.iconst 0, 1) := by decide +kernel
theorem dX11_test_31 : decode cX11_test 31 = .ok (.iload_n 1, 1) := by decide +kernel
theorem dX11_test_32 : decode cX11_test 32 = .ok (.bipush (-2), 2) := by decide +kernel
theorem dX11_test_34 : decode cX11_test 34 = .ok (.iload_n 3, 1) := by decide +kernel
theorem dX11_test_35 : decode cX11_test 35 = .ok (.imul, 1) := by decide +kernel
theorem dX11_test_36 : decode cX11_test 36 = .ok (.iload_n 2, 1) := by decide +kernel
theorem dX11_test_37 : decode cX11_test 37 = .ok (.iconst 4, 1) := by decide +kernel
theorem dX11_test_38 : decode cX11_test 38 = .ok (.if_icmp .ne 7, 3) := by decide +kernel
theorem dX11_test_41 : decode cX11_test 41 = .ok (.iconst 0, 1) := by decide +kernel
theorem dX11_test_42 : decode cX11_test 42 = .ok (.goto 4, 3) := by decide +kernel
theorem dX11_test_45 : decode cX11_test 45 = .ok (.iconst 1, 1) := by decide +kernel
theorem dX11_test_46 : decode cX11_test 46 = .ok (.iadd, 1) := by decide +kernel
theorem dX11_test_47 : decode cX11_test 47 = .ok (.invokevirtual 118, 3) := by decide +kernel
theorem dX11_test_50 : decode cX11_test 50 = .ok (.return_, 1) := by decide +kernel
theorem dX11_keepLimits_0 : decode cX11_keepLimits 0 = .ok (.iconst 0, 1) := by decide +kernel
theorem dX11_keepLimits_1 : decode cX11_keepLimits 1 = .ok (.istore_n 1, 1) := by decide +kernel
theorem dX11_keepLimits_2 : decode cX11_keepLimits 2 = .ok (.iload_n 1, 1) := by decide +kernel
theorem dX11_keepLimits_3 : decode cX11_keepLimits 3 = .ok (.iconst 3, 1) := by decide +kernel
theorem dX11_keepLimits_4 : decode cX11_keepLimits 4 = .ok (.if_icmp .ge 78, 3) := by decide +kernel
theorem dX11_keepLimits_7 : decode cX11_keepLimits 7 = .ok (.bipush 6, 2) := by decide +kernel
theorem dX11_keepLimits_9 : decode cX11_keepLimits 9 = .ok (.iload_n 1, 1) := by decide +kernel
theorem dX11_keepLimits_10 : decode cX11_keepLimits 10 = .ok (.imul, 1) := by decide +kernel
theorem dX11_keepLimits_11 : decode cX11_keepLimits 11 = .ok (.aload_n 0, 1) := by decide +kernel
theorem dX11_keepLimits_12 : decode cX11_keepLimits 12 = .ok (.getfield 65, 3) := by decide +kernel
theorem dX11_keepLimits_15 : decode cX11_keepLimits 15 = .ok (.iload_n 1, 1) := by decide +kernel
theorem dX11_keepLimits_16 : decode cX11_keepLimits 16 = .ok (.iaload, 1) := by decide +kernel
theorem dX11_keepLimits_17 : decode cX11_keepLimits 17 = .ok (.iadd, 1) := by decide +kernel
theorem dX11_keepLimits_18 : decode cX11_keepLimits 18 = .ok (.istore_n 2, 1) := by decide +kernel
theorem dX11_keepLimits_19 : decode cX11_keepLimits 19 = .ok (.iconst 0, 1) := by decide +kernel
theorem dX11_keepLimits_20 : decode cX11_keepLimits 20 = .ok (.istore_n 3, 1) := by decide +kernel
theorem dX11_keepLimits_21 : decode cX11_keepLimits 21 = .ok (.iload_n 3, 1) := by decide +kernel
theorem dX11_keepLimits_22 : decode cX11_keepLimits 22 = .ok (.aload_n 0, 1) := by decide +kernel
theorem dX11_keepLimits_23 : decode cX11_keepLimits 23 = .ok (.getfield 31, 3) := by decide +kernel
theorem dX11_keepLimits_26 : decode cX11_keepLimits 26 = .ok (.iload_n 2, 1) := by decide +kernel
theorem dX11_keepLimits_27 : decode cX11_keepLimits 27 = .ok (.iaload, 1) := by decide +kernel
theorem dX11_keepLimits_28 : decode cX11_keepLimits 28 = .ok (.if_icmp .ge 48, 3) := by decide +kernel
theorem dX11_keepLimits_31 : decode cX11_keepLimits 31 = .ok (.bipush 6, 2) := by decide +kernel
theorem dX11_keepLimits_33 : decode cX11_keepLimits 33 = .ok (.iload_n 2, 1) := by decide +kernel
theorem dX11_keepLimits_34 : decode cX11_keepLimits 34 = .ok (.imul, 1) := by decide +kernel
theorem dX11_keepLimits_35 : decode cX11_keepLimits 35 = .ok (.iconst 3, 1) := by decide +kernel
theorem dX11_keepLimits_36 : decode cX11_keepLimits 36 = .ok (.iload_n 3, 1) := by decide +kernel
theorem dX11_keepLimits_37 : decode cX11_keepLimits 37 = .ok (.imul, 1) := by decide +kernel
theorem dX11_keepLimits_38 : decode cX11_keepLimits 38 = .ok (.iadd, 1) := by decide +kernel
theorem dX11_keepLimits_39 : decode cX11_keepLimits 39 = .ok (.istore 4, 2) := by decide +kernel
theorem dX11_keepLimits_41 : decode cX11_keepLimits 41 = .ok (.aload_n 0, 1) := by decide +kernel
theorem dX11_keepLimits_42 : decode cX11_keepLimits 42 = .ok (.aload_n 0, 1) := by decide +kernel
theorem dX11_keepLimits_43 : decode cX11_keepLimits 43 = .ok (.getfield 34, 3) := by decide +kernel
theorem dX11_keepLimits_46 : decode cX11_keepLimits 46 = .ok (.iload 4, 2) := by decide +kernel
theorem dX11_keepLimits_48 : decode cX11_keepLimits 48 = .ok (.iaload, 1) := by decide +kernel
theorem dX11_keepLimits_49 : decode cX11_keepLimits 49 = .ok (.aload_n 0, 1) := by decide +kernel
theorem dX11_keepLimits_50 : decode cX11_keepLimits 50 = .ok (.getfield 34, 3) := by decide +kernel
theorem dX11_keepLimits_53 : decode cX11_keepLimits 53 = .ok (.iload 4, 2) := by decide +kernel
theorem dX11_keepLimits_55 : decode cX11_keepLimits 55 = .ok (.iconst 1, 1) := by decide +kernel
theorem dX11_keepLimits_56 : decode cX11_keepLimits 56 = .ok (.iadd, 1) := by decide +kernel
theorem dX11_keepLimits_57 : decode cX11_keepLimits 57 = .ok (.iaload, 1) := by decide +kernel
theorem dX11_keepLimits_58 : decode cX11_keepLimits 58 = .ok (.aload_n 0, 1) := by decide +kernel
theorem dX11_keepLimits_59 : decode cX11_keepLimits 59 = .ok (.getfield 34, 3) := by decide +kernel
theorem dX11_keepLimits_62 : decode cX11_keepLimits 62 = .ok (.iload 4, 2) := by decide +kernel
theorem dX11_keepLimits_64 : decode cX11_keepLimits 64 = .ok (.iconst 2, 1) := by decide +kernel
theorem dX11_keepLimits_65 : decode cX11_keepLimits 65 = .ok (.iadd, 1) := by decide +kernel
theorem dX11_keepLimits_66 : decode cX11_keepLimits 66 = .ok (.iaload, 1) := by decide +kernel
theorem dX11_keepLimits_67 : decode cX11_keepLimits 67 = .ok (.invokevirtual 122, 3) := by decide +kernel
theorem dX11_keepLimits_70 : decode cX11_keepLimits 70 = .ok (.iinc 3 1, 3) := by decide +kernel
theorem dX11_keepLimits_73 : decode cX11_keepLimits 73 = .ok (.goto (-52), 3) := by decide +kernel
theorem dX11_keepLimits_76 : decode cX11_keepLimits 76 = .ok (.iinc 1 1, 3) := by decide +kernel
theorem dX11_keepLimits_79 : decode cX11_keepLimits 79 = .ok (.goto (-77), 3) := by decide +kernel
theorem dX11_keepLimits_82 : decode cX11_keepLimits 82 = .ok (.aload_n 0, 1) := by decide +kernel
theorem dX11_keepLimits_83 : decode cX11_keepLimits 83 = .ok (.invokevirtual 125, 3) := by decide +kernel
theorem dX11_keepLimits_86 : decode cX11_keepLimits 86 = .ok (.ireturn, 1) := by decide +kernel
theorem dX11_keepGuards_0 : decode cX11_keepGuards 0 = .ok (.iconst 0, 1) := by decide +kernel
theorem dX11_keepGuards_1 : decode cX11_keepGuards 1 = .ok (.istore_n 2, 1) := by decide +kernel
theorem dX11_keepGuards_2 : decode cX11_keepGuards 2 = .ok (.iload_n 2, 1) := by decide +kernel
theorem dX11_keepGuards_3 : decode cX11_keepGuards 3 = .ok (.aload_n 0, 1) := by decide +kernel
theorem dX11_keepGuards_4 : decode cX11_keepGuards 4 = .ok (.getfield 25, 3) := by decide +kernel
theorem dX11_keepGuards_7 : decode cX11_keepGuards 7 = .ok (.iload_n 1, 1) := by decide +kernel
theorem dX11_keepGuards_8 : decode cX11_keepGuards 8 = .ok (.iaload, 1) := by decide +kernel
theorem dX11_keepGuards_9 : decode cX11_keepGuards 9 = .ok (.if_icmp .ge 44, 3) := by decide +kernel
theorem dX11_keepGuards_12 : decode cX11_keepGuards 12 = .ok (.bipush 6, 2) := by decide +kernel
theorem dX11_keepGuards_14 : decode cX11_keepGuards 14 = .ok (.iload_n 1, 1) := by decide +kernel
theorem dX11_keepGuards_15 : decode cX11_keepGuards 15 = .ok (.imul, 1) := by decide +kernel
theorem dX11_keepGuards_16 : decode cX11_keepGuards 16 = .ok (.iconst 3, 1) := by decide +kernel
theorem dX11_keepGuards_17 : decode cX11_keepGuards 17 = .ok (.iload_n 2, 1) := by decide +kernel
theorem dX11_keepGuards_18 : decode cX11_keepGuards 18 = .ok (.imul, 1) := by decide +kernel
theorem dX11_keepGuards_19 : decode cX11_keepGuards 19 = .ok (.iadd, 1) := by decide +kernel
theorem dX11_keepGuards_20 : decode cX11_keepGuards 20 = .ok (.istore_n 3, 1) := by decide +kernel
theorem dX11_keepGuards_21 : decode cX11_keepGuards 21 = .ok (.aload_n 0, 1) := by decide +kernel
theorem dX11_keepGuards_22 : decode cX11_keepGuards 22 = .ok (.aload_n 0, 1) := by decide +kernel
theorem dX11_keepGuards_23 : decode cX11_keepGuards 23 = .ok (.getfield 28, 3) := by decide +kernel
theorem dX11_keepGuards_26 : decode cX11_keepGuards 26 = .ok (.iload_n 3, 1) := by decide +kernel
theorem dX11_keepGuards_27 : decode cX11_keepGuards 27 = .ok (.iaload, 1) := by decide +kernel
theorem dX11_keepGuards_28 : decode cX11_keepGuards 28 = .ok (.aload_n 0, 1) := by decide +kernel
theorem dX11_keepGuards_29 : decode cX11_keepGuards 29 = .ok (.getfield 28, 3) := by decide +kernel
theorem dX11_keepGuards_32 : decode cX11_keepGuards 32 = .ok (.iload_n 3, 1) := by decide +kernel
theorem dX11_keepGuards_33 : decode cX11_keepGuards 33 = .ok (.iconst 1, 1) := by decide +kernel
theorem dX11_keepGuards_34 : decode cX11_keepGuards 34 = .ok (.iadd, 1) := by decide +kernel
theorem dX11_keepGuards_35 : decode cX11_keepGuards 35 = .ok (.iaload, 1) := by decide +kernel
theorem dX11_keepGuards_36 : decode cX11_keepGuards 36 = .ok (.aload_n 0, 1) := by decide +kernel
theorem dX11_keepGuards_37 : decode cX11_keepGuards 37 = .ok (.getfield 28, 3) := by decide +kernel
theorem dX11_keepGuards_40 : decode cX11_keepGuards 40 = .ok (.iload_n 3, 1) := by decide +kernel
theorem dX11_keepGuards_41 : decode cX11_keepGuards 41 = .ok (.iconst 2, 1) := by decide +kernel
theorem dX11_keepGuards_42 : decode cX11_keepGuards 42 = .ok (.iadd, 1) := by decide +kernel
theorem dX11_keepGuards_43 : decode cX11_keepGuards 43 = .ok (.iaload, 1) := by decide +kernel
theorem dX11_keepGuards_44 : decode cX11_keepGuards 44 = .ok (.invokevirtual 122, 3) := by decide +kernel
theorem dX11_keepGuards_47 : decode cX11_keepGuards 47 = .ok (.iinc 2 1, 3) := by decide +kernel
theorem dX11_keepGuards_50 : decode cX11_keepGuards 50 = .ok (.goto (-48), 3) := by decide +kernel
theorem dX11_keepGuards_53 : decode cX11_keepGuards 53 = .ok (.aload_n 0, 1) := by decide +kernel
theorem dX11_keepGuards_54 : decode cX11_keepGuards 54 = .ok (.invokevirtual 125, 3) := by decide +kernel
theorem dX11_keepGuards_57 : decode cX11_keepGuards 57 = .ok (.ireturn, 1) := by decide +kernel
theorem dX11_set_0 : decode cX11_set 0 = .ok (.iconst 1, 1) := by decide +kernel
theorem dX11_set_1 : decode cX11_set 1 = .ok (.istore_n 2, 1) := by decide +kernel
theorem dX11_set_2 : decode cX11_set 2 = .ok (.iload_n 2, 1) := by decide +kernel
theorem dX11_set_3 : decode cX11_set 3 = .ok (.iconst 4, 1) := by decide +kernel
theorem dX11_set_4 : decode cX11_set 4 = .ok (.if_icmp .ge 74, 3) := by decide +kernel
theorem dX11_set_7 : decode cX11_set 7 = .ok (.iload_n 1, 1) := by decide +kernel
theorem dX11_set_8 : decode cX11_set 8 = .ok (.iload_n 2, 1) := by decide +kernel
theorem dX11_set_9 : decode cX11_set 9 = .ok (.ishr, 1) := by decide +kernel
theorem dX11_set_10 : decode cX11_set 10 = .ok (.iconst 1, 1) := by decide +kernel
theorem dX11_set_11 : decode cX11_set 11 = .ok (.iand, 1) := by decide +kernel
theorem dX11_set_12 : decode cX11_set 12 = .ok (.iconst 1, 1) := by decide +kernel
theorem dX11_set_13 : decode cX11_set 13 = .ok (.if_icmp .ne 59, 3) := by decide +kernel
theorem dX11_set_16 : decode cX11_set 16 = .ok (.iconst 0, 1) := by decide +kernel
theorem dX11_set_17 : decode cX11_set 17 = .ok (.istore_n 3, 1) := by decide +kernel
theorem dX11_set_18 : decode cX11_set 18 = .ok (.iload_n 3, 1) := by decide +kernel
theorem dX11_set_19 : decode cX11_set 19 = .ok (.iconst 4, 1) := by decide +kernel
theorem dX11_set_20 : decode cX11_set 20 = .ok (.if_icmp .ge 43, 3) := by decide +kernel
theorem dX11_set_23 : decode cX11_set 23 = .ok (.aload_n 0, 1) := by decide +kernel
theorem dX11_set_24 : decode cX11_set 24 = .ok (.getfield 59, 3) := by decide +kernel
theorem dX11_set_27 : decode cX11_set 27 = .ok (.iconst 4, 1) := by decide +kernel
theorem dX11_set_28 : decode cX11_set 28 = .ok (.iload_n 2, 1) := by decide +kernel
theorem dX11_set_29 : decode cX11_set 29 = .ok (.imul, 1) := by decide +kernel
theorem dX11_set_30 : decode cX11_set 30 = .ok (.iload_n 3, 1) := by decide +kernel
theorem dX11_set_31 : decode cX11_set 31 = .ok (.iadd, 1) := by decide +kernel
theorem dX11_set_32 : decode cX11_set 32 = .ok (.aload_n 0, 1) := by decide +kernel
theorem dX11_set_33 : decode cX11_set 33 = .ok (.getfield 59, 3) := by decide +kernel
theorem dX11_set_36 : decode cX11_set 36 = .ok (.iload_n 3, 1) := by decide +kernel
theorem dX11_set_37 : decode cX11_set 37 = .ok (.iaload, 1) := by decide +kernel
theorem dX11_set_38 : decode cX11_set 38 = .ok (.iastore, 1) := by decide +kernel
theorem dX11_set_39 : decode cX11_set 39 = .ok (.aload_n 0, 1) := by decide +kernel
theorem dX11_set_40 : decode cX11_set 40 = .ok (.getfield 59, 3) := by decide +kernel
theorem dX11_set_43 : decode cX11_set 43 = .ok (.iconst 4, 1) := by decide +kernel
theorem dX11_set_44 : decode cX11_set 44 = .ok (.iload_n 3, 1) := by decide +kernel
theorem dX11_set_45 : decode cX11_set 45 = .ok (.imul, 1) := by decide +kernel
theorem dX11_set_46 : decode cX11_set 46 = .ok (.iload_n 2, 1) := by decide +kernel
theorem dX11_set_47 : decode cX11_set 47 = .ok (.iadd, 1) := by decide +kernel
theorem dX11_set_48 : decode cX11_set 48 = .ok (.aload_n 0, 1) := by decide +kernel
theorem dX11_set_49 : decode cX11_set 49 = .ok (.getfield 59, 3) := by decide +kernel
theorem dX11_set_52 : decode cX11_set 52 = .ok (.iconst 4, 1) := by decide +kernel
theorem dX11_set_53 : decode cX11_set 53 = .ok (.iload_n 3, 1) := by decide +kernel
theorem dX11_set_54 : decode cX11_set 54 = .ok (.imul, 1) := by decide +kernel
theorem dX11_set_55 : decode cX11_set 55 = .ok (.iaload, 1) := by decide +kernel
theorem dX11_set_56 : decode cX11_set 56 = .ok (.iastore, 1) := by decide +kernel
theorem dX11_set_57 : decode cX11_set 57 = .ok (.iinc 3 1, 3) := by decide +kernel
theorem dX11_set_60 : decode cX11_set 60 = .ok (.goto (-42), 3) := by decide +kernel
theorem dX11_set_63 : decode cX11_set 63 = .ok (.aload_n 0, 1) := by decide +kernel
theorem dX11_set_64 : decode cX11_set 64 = .ok (.getfield 59, 3) := by decide +kernel
theorem dX11_set_67 : decode cX11_set 67 = .ok (.iconst 5, 1) := by decide +kernel
theorem dX11_set_68 : decode cX11_set 68 = .ok (.iload_n 2, 1) := by decide +kernel
theorem dX11_set_69 : decode cX11_set 69 = .ok (.imul, 1) := by decide +kernel
theorem dX11_set_70 : decode cX11_set 70 = .ok (.iconst 1, 1) := by decide +kernel
theorem dX11_set_71 : decode cX11_set 71 = .ok (.iastore, 1) := by decide +kernel
theorem dX11_set_72 : decode cX11_set 72 = .ok (.iinc 2 1, 3) := by decide +kernel
theorem dX11_set_75 : decode cX11_set 75 = .ok (.goto (-73), 3) := by decide +kernel
theorem dX11_set_78 : decode cX11_set 78 = .ok (.return_, 1) := by decide +kernel
theorem dX11_greatestOf_0 : decode cX11_greatestOf 0 = .ok (.iconst 0, 1) := by decide +kernel
theorem dX11_greatestOf_1 : decode cX11_greatestOf 1 = .ok (.istore_n 2, 1) := by decide +kernel
theorem dX11_greatestOf_2 : decode cX11_greatestOf 2 = .ok (.iconst 0, 1) := by decide +kernel
theorem dX11_greatestOf_3 : decode cX11_greatestOf 3 = .ok (.istore_n 3, 1) := by decide +kernel
theorem dX11_greatestOf_4 : decode cX11_greatestOf 4 = .ok (.iload_n 3, 1) := by decide +kernel
theorem dX11_greatestOf_5 : decode cX11_greatestOf 5 = .ok (.aload_n 0, 1) := by decide +kernel
theorem dX11_greatestOf_6 : decode cX11_greatestOf 6 = .ok (.getfield 90, 3) := by decide +kernel
theorem dX11_greatestOf_9 : decode cX11_greatestOf 9 = .ok (.if_icmp .ge 78, 3) := by decide +kernel
theorem dX11_greatestOf_12 : decode cX11_greatestOf 12 = .ok (.iconst 0, 1) := by decide +kernel
theorem dX11_greatestOf_13 : decode cX11_greatestOf 13 = .ok (.istore 4, 2) := by decide +kernel
theorem dX11_greatestOf_15 : decode cX11_greatestOf 15 = .ok (.iload 4, 2) := by decide +kernel
theorem dX11_greatestOf_17 : decode cX11_greatestOf 17 = .ok (.aload_n 0, 1) := by decide +kernel
theorem dX11_greatestOf_18 : decode cX11_greatestOf 18 = .ok (.getfield 25, 3) := by decide +kernel
theorem dX11_greatestOf_21 : decode cX11_greatestOf 21 = .ok (.iload_n 3, 1) := by decide +kernel
theorem dX11_greatestOf_22 : decode cX11_greatestOf 22 = .ok (.iaload, 1) := by decide +kernel
theorem dX11_greatestOf_23 : decode cX11_greatestOf 23 = .ok (.if_icmp .ge 58, 3) := by decide +kernel
theorem dX11_greatestOf_26 : decode cX11_greatestOf 26 = .ok (.bipush 6, 2) := by decide +kernel
theorem dX11_greatestOf_28 : decode cX11_greatestOf 28 = .ok (.iload_n 3, 1) := by decide +kernel
theorem dX11_greatestOf_29 : decode cX11_greatestOf 29 = .ok (.imul, 1) := by decide +kernel
theorem dX11_greatestOf_30 : decode cX11_greatestOf 30 = .ok (.iconst 3, 1) := by decide +kernel
theorem dX11_greatestOf_31 : decode cX11_greatestOf 31 = .ok (.iload 4, 2) := by decide +kernel
theorem dX11_greatestOf_33 : decode cX11_greatestOf 33 = .ok (.imul, 1) := by decide +kernel
theorem dX11_greatestOf_34 : decode cX11_greatestOf 34 = .ok (.iadd, 1) := by decide +kernel
theorem dX11_greatestOf_35 : decode cX11_greatestOf 35 = .ok (.istore 5, 2) := by decide +kernel
theorem dX11_greatestOf_37 : decode cX11_greatestOf 37 = .ok (.aload_n 0, 1) := by decide +kernel
theorem dX11_greatestOf_38 : decode cX11_greatestOf 38 = .ok (.getfield 28, 3) := by decide +kernel
theorem dX11_greatestOf_41 : decode cX11_greatestOf 41 = .ok (.iload 5, 2) := by decide +kernel
theorem dX11_greatestOf_43 : decode cX11_greatestOf 43 = .ok (.iaload, 1) := by decide +kernel
theorem dX11_greatestOf_44 : decode cX11_greatestOf 44 = .ok (.iload_n 1, 1) := by decide +kernel
theorem dX11_greatestOf_45 : decode cX11_greatestOf 45 = .ok (.if_icmp .ne 28, 3) := by decide +kernel
theorem dX11_greatestOf_48 : decode cX11_greatestOf 48 = .ok (.aload_n 0, 1) := by decide +kernel
theorem dX11_greatestOf_49 : decode cX11_greatestOf 49 = .ok (.getfield 28, 3) := by decide +kernel
theorem dX11_greatestOf_52 : decode cX11_greatestOf 52 = .ok (.iload 5, 2) := by decide +kernel
theorem dX11_greatestOf_54 : decode cX11_greatestOf 54 = .ok (.iconst 2, 1) := by decide +kernel
theorem dX11_greatestOf_55 : decode cX11_greatestOf 55 = .ok (.iadd, 1) := by decide +kernel
theorem dX11_greatestOf_56 : decode cX11_greatestOf 56 = .ok (.iaload, 1) := by decide +kernel
theorem dX11_greatestOf_57 : decode cX11_greatestOf 57 = .ok (.iload_n 2, 1) := by decide +kernel
theorem dX11_greatestOf_58 : decode cX11_greatestOf 58 = .ok (.if_icmp .le 15, 3) := by decide +kernel
theorem dX11_greatestOf_61 : decode cX11_greatestOf 61 = .ok (.aload_n 0, 1) := by decide +kernel
theorem dX11_greatestOf_62 : decode cX11_greatestOf 62 = .ok (.getfield 28, 3) := by decide +kernel
theorem dX11_greatestOf_65 : decode cX11_greatestOf 65 = .ok (.iload 5, 2) := by decide +kernel
theorem dX11_greatestOf_67 : decode cX11_greatestOf 67 = .ok (.iconst 2, 1) := by decide +kernel
theorem dX11_greatestOf_68 : decode cX11_greatestOf 68 = .ok (.iadd, 1) := by decide +kernel
theorem dX11_greatestOf_69 : decode cX11_greatestOf 69 = .ok (.iaload, 1) := by decide +kernel
theorem dX11_greatestOf_70 : decode cX11_greatestOf 70 = .ok (.goto 4, 3) := by decide +kernel
theorem dX11_greatestOf_73 : decode cX11_greatestOf 73 = .ok (.iload_n 2, 1) := by decide +kernel
theorem dX11_greatestOf_74 : decode cX11_greatestOf 74 = .ok (.istore_n 2, 1) := by decide +kernel
theorem dX11_greatestOf_75 : decode cX11_greatestOf 75 = .ok (.iinc 4 1, 3) := by decide +kernel
theorem dX11_greatestOf_78 : decode cX11_greatestOf 78 = .ok (.goto (-63), 3) := by decide +kernel
theorem dX11_greatestOf_81 : decode cX11_greatestOf 81 = .ok (.iinc 3 1, 3) := by decide +kernel
theorem dX11_greatestOf_84 : decode cX11_greatestOf 84 = .ok (.goto (-80), 3) := by decide +kernel
theorem dX11_greatestOf_87 : decode cX11_greatestOf 87 = .ok (.iconst 0, 1) := by decide +kernel
theorem dX11_greatestOf_88 : decode cX11_greatestOf 88 = .ok (.istore_n 3, 1) := by decide +kernel
theorem dX11_greatestOf_89 : decode cX11_greatestOf 89 = .ok (.iload_n 3, 1) := by decide +kernel
theorem dX11_greatestOf_90 : decode cX11_greatestOf 90 = .ok (.bipush 18, 2) := by decide +kernel
theorem dX11_greatestOf_92 : decode cX11_greatestOf 92 = .ok (.if_icmp .ge 78, 3) := by decide +kernel
theorem dX11_greatestOf_95 : decode cX11_greatestOf 95 = .ok (.iconst 0, 1) := by decide +kernel
theorem dX11_greatestOf_96 : decode cX11_greatestOf 96 = .ok (.istore 4, 2) := by decide +kernel
theorem dX11_greatestOf_98 : decode cX11_greatestOf 98 = .ok (.iload 4, 2) := by decide +kernel
theorem dX11_greatestOf_100 : decode cX11_greatestOf 100 = .ok (.aload_n 0, 1) := by decide +kernel
theorem dX11_greatestOf_101 : decode cX11_greatestOf 101 = .ok (.getfield 31, 3) := by decide +kernel
theorem dX11_greatestOf_104 : decode cX11_greatestOf 104 = .ok (.iload_n 3, 1) := by decide +kernel
theorem dX11_greatestOf_105 : decode cX11_greatestOf 105 = .ok (.iaload, 1) := by decide +kernel
theorem dX11_greatestOf_106 : decode cX11_greatestOf 106 = .ok (.if_icmp .ge 58, 3) := by decide +kernel
theorem dX11_greatestOf_109 : decode cX11_greatestOf 109 = .ok (.bipush 6, 2) := by decide +kernel
theorem dX11_greatestOf_111 : decode cX11_greatestOf 111 = .ok (.iload_n 3, 1) := by decide +kernel
theorem dX11_greatestOf_112 : decode cX11_greatestOf 112 = .ok (.imul, 1) := by decide +kernel
theorem dX11_greatestOf_113 : decode cX11_greatestOf 113 = .ok (.iconst 3, 1) := by decide +kernel
theorem dX11_greatestOf_114 : decode cX11_greatestOf 114 = .ok (.iload 4, 2) := by decide +kernel
theorem dX11_greatestOf_116 : decode cX11_greatestOf 116 = .ok (.imul, 1) := by decide +kernel
theorem dX11_greatestOf_117 : decode cX11_greatestOf 117 = .ok (.iadd, 1) := by decide +kernel
theorem dX11_greatestOf_118 : decode cX11_greatestOf 118 = .ok (.istore 5, 2) := by decide +kernel
theorem dX11_greatestOf_120 : decode cX11_greatestOf 120 = .ok (.aload_n 0, 1) := by decide +kernel
theorem dX11_greatestOf_121 : decode cX11_greatestOf 121 = .ok (.getfield 34, 3) := by decide +kernel
theorem dX11_greatestOf_124 : decode cX11_greatestOf 124 = .ok (.iload 5, 2) := by decide +kernel
theorem dX11_greatestOf_126 : decode cX11_greatestOf 126 = .ok (.iaload, 1) := by decide +kernel
theorem dX11_greatestOf_127 : decode cX11_greatestOf 127 = .ok (.iload_n 1, 1) := by decide +kernel
theorem dX11_greatestOf_128 : decode cX11_greatestOf 128 = .ok (.if_icmp .ne 28, 3) := by decide +kernel
theorem dX11_greatestOf_131 : decode cX11_greatestOf 131 = .ok (.aload_n 0, 1) := by decide +kernel
theorem dX11_greatestOf_132 : decode cX11_greatestOf 132 = .ok (.getfield 34, 3) := by decide +kernel
theorem dX11_greatestOf_135 : decode cX11_greatestOf 135 = .ok (.iload 5, 2) := by decide +kernel
theorem dX11_greatestOf_137 : decode cX11_greatestOf 137 = .ok (.iconst 2, 1) := by decide +kernel
theorem dX11_greatestOf_138 : decode cX11_greatestOf 138 = .ok (.iadd, 1) := by decide +kernel
theorem dX11_greatestOf_139 : decode cX11_greatestOf 139 = .ok (.iaload, 1) := by decide +kernel
theorem dX11_greatestOf_140 : decode cX11_greatestOf 140 = .ok (.iload_n 2, 1) := by decide +kernel
theorem dX11_greatestOf_141 : decode cX11_greatestOf 141 = .ok (.if_icmp .le 15, 3) := by decide +kernel
theorem dX11_greatestOf_144 : decode cX11_greatestOf 144 = .ok (.aload_n 0, 1) := by decide +kernel
theorem dX11_greatestOf_145 : decode cX11_greatestOf 145 = .ok (.getfield 34, 3) := by decide +kernel
theorem dX11_greatestOf_148 : decode cX11_greatestOf 148 = .ok (.iload 5, 2) := by decide +kernel
theorem dX11_greatestOf_150 : decode cX11_greatestOf 150 = .ok (.iconst 2, 1) := by decide +kernel
theorem dX11_greatestOf_151 : decode cX11_greatestOf 151 = .ok (.iadd, 1) := by decide +kernel
theorem dX11_greatestOf_152 : decode cX11_greatestOf 152 = .ok (.iaload, 1) := by decide +kernel
theorem dX11_greatestOf_153 : decode cX11_greatestOf 153 = .ok (.goto 4, 3) := by decide +kernel
theorem dX11_greatestOf_156 : decode cX11_greatestOf 156 = .ok (.iload_n 2, 1) := by decide +kernel
theorem dX11_greatestOf_157 : decode cX11_greatestOf 157 = .ok (.istore_n 2, 1) := by decide +kernel
theorem dX11_greatestOf_158 : decode cX11_greatestOf 158 = .ok (.iinc 4 1, 3) := by decide +kernel
theorem dX11_greatestOf_161 : decode cX11_greatestOf 161 = .ok (.goto (-63), 3) := by decide +kernel
theorem dX11_greatestOf_164 : decode cX11_greatestOf 164 = .ok (.iinc 3 1, 3) := by decide +kernel
theorem dX11_greatestOf_167 : decode cX11_greatestOf 167 = .ok (.goto (-78), 3) := by decide +kernel
theorem dX11_greatestOf_170 : decode cX11_greatestOf 170 = .ok (.iload_n 2, 1) := by decide +kernel
theorem dX11_greatestOf_171 : decode cX11_greatestOf 171 = .ok (.ireturn, 1) := by decide +kernel
theorem dX11_widen_0 : decode cX11_widen 0 = .ok (.iconst 0, 1) := by decide +kernel
theorem dX11_widen_1 : decode cX11_widen 1 = .ok (.istore_n 1, 1) := by decide +kernel
theorem dX11_widen_2 : decode cX11_widen 2 = .ok (.iload_n 1, 1) := by decide +kernel
theorem dX11_widen_3 : decode cX11_widen 3 = .ok (.bipush 16, 2) := by decide +kernel
theorem dX11_widen_5 : decode cX11_widen 5 = .ok (.if_icmp .ge 21, 3) := by decide +kernel
theorem dX11_widen_8 : decode cX11_widen 8 = .ok (.aload_n 0, 1) := by decide +kernel
theorem dX11_widen_9 : decode cX11_widen 9 = .ok (.getfield 62, 3) := by decide +kernel
theorem dX11_widen_12 : decode cX11_widen 12 = .ok (.iload_n 1, 1) := by decide +kernel
theorem dX11_widen_13 : decode cX11_widen 13 = .ok (.aload_n 0, 1) := by decide +kernel
theorem dX11_widen_14 : decode cX11_widen 14 = .ok (.getfield 59, 3) := by decide +kernel
theorem dX11_widen_17 : decode cX11_widen 17 = .ok (.iload_n 1, 1) := by decide +kernel
theorem dX11_widen_18 : decode cX11_widen 18 = .ok (.iaload, 1) := by decide +kernel
theorem dX11_widen_19 : decode cX11_widen 19 = .ok (.iastore, 1) := by decide +kernel
theorem dX11_widen_20 : decode cX11_widen 20 = .ok (.iinc 1 1, 3) := by decide +kernel
theorem dX11_widen_23 : decode cX11_widen 23 = .ok (.goto (-21), 3) := by decide +kernel
theorem dX11_widen_26 : decode cX11_widen 26 = .ok (.iconst 1, 1) := by decide +kernel
theorem dX11_widen_27 : decode cX11_widen 27 = .ok (.istore_n 1, 1) := by decide +kernel
theorem dX11_widen_28 : decode cX11_widen 28 = .ok (.iload_n 1, 1) := by decide +kernel
theorem dX11_widen_29 : decode cX11_widen 29 = .ok (.iconst 4, 1) := by decide +kernel
theorem dX11_widen_30 : decode cX11_widen 30 = .ok (.if_icmp .ge 114, 3) := by decide +kernel
theorem dX11_widen_33 : decode cX11_widen 33 = .ok (.aload_n 0, 1) := by decide +kernel
theorem dX11_widen_34 : decode cX11_widen 34 = .ok (.iload_n 1, 1) := by decide +kernel
theorem dX11_widen_35 : decode cX11_widen 35 = .ok (.invokevirtual 129, 3) := by decide +kernel
theorem dX11_widen_38 : decode cX11_widen 38 = .ok (.istore_n 2, 1) := by decide +kernel
theorem dX11_widen_39 : decode cX11_widen 39 = .ok (.iconst 0, 1) := by decide +kernel
theorem dX11_widen_40 : decode cX11_widen 40 = .ok (.istore_n 3, 1) := by decide +kernel
theorem dX11_widen_41 : decode cX11_widen 41 = .ok (.iload_n 3, 1) := by decide +kernel
theorem dX11_widen_42 : decode cX11_widen 42 = .ok (.iconst 4, 1) := by decide +kernel
theorem dX11_widen_43 : decode cX11_widen 43 = .ok (.if_icmp .ge 95, 3) := by decide +kernel
theorem dX11_widen_46 : decode cX11_widen 46 = .ok (.iload_n 3, 1) := by decide +kernel
theorem dX11_widen_47 : decode cX11_widen 47 = .ok (.iload_n 1, 1) := by decide +kernel
theorem dX11_widen_48 : decode cX11_widen 48 = .ok (.if_icmp .eq 84, 3) := by decide +kernel
theorem dX11_widen_51 : decode cX11_widen 51 = .ok (.aload_n 0, 1) := by decide +kernel
theorem dX11_widen_52 : decode cX11_widen 52 = .ok (.getfield 62, 3) := by decide +kernel
theorem dX11_widen_55 : decode cX11_widen 55 = .ok (.iconst 4, 1) := by decide +kernel
theorem dX11_widen_56 : decode cX11_widen 56 = .ok (.iload_n 1, 1) := by decide +kernel
theorem dX11_widen_57 : decode cX11_widen 57 = .ok (.imul, 1) := by decide +kernel
theorem dX11_widen_58 : decode cX11_widen 58 = .ok (.iload_n 3, 1) := by decide +kernel
theorem dX11_widen_59 : decode cX11_widen 59 = .ok (.iadd, 1) := by decide +kernel
theorem dX11_widen_60 : decode cX11_widen 60 = .ok (.iaload, 1) := by decide +kernel
theorem dX11_widen_61 : decode cX11_widen 61 = .ok (.istore 4, 2) := by decide +kernel
theorem dX11_widen_63 : decode cX11_widen 63 = .ok (.iload 4, 2) := by decide +kernel
theorem dX11_widen_65 : decode cX11_widen 65 = .ok (.ldc 113, 2) := by decide +kernel
theorem dX11_widen_67 : decode cX11_widen 67 = .ok (.if_icmp .eq 23, 3) := by decide +kernel
theorem dX11_widen_70 : decode cX11_widen 70 = .ok (.iload 4, 2) := by decide +kernel
theorem dX11_widen_72 : decode cX11_widen 72 = .ok (.iconst 1, 1) := by decide +kernel
theorem dX11_widen_73 : decode cX11_widen 73 = .ok (.ishr, 1) := by decide +kernel
theorem dX11_widen_74 : decode cX11_widen 74 = .ok (.iload_n 2, 1) := by decide +kernel
theorem dX11_widen_75 : decode cX11_widen 75 = .ok (.if_icmp .le 15, 3) := by decide +kernel
theorem dX11_widen_78 : decode cX11_widen 78 = .ok (.aload_n 0, 1) := by decide +kernel
theorem dX11_widen_79 : decode cX11_widen 79 = .ok (.getfield 59, 3) := by decide +kernel
theorem dX11_widen_82 : decode cX11_widen 82 = .ok (.iconst 4, 1) := by decide +kernel
theorem dX11_widen_83 : decode cX11_widen 83 = .ok (.iload_n 1, 1) := by decide +kernel
theorem dX11_widen_84 : decode cX11_widen 84 = .ok (.imul, 1) := by decide +kernel
theorem dX11_widen_85 : decode cX11_widen 85 = .ok (.iload_n 3, 1) := by decide +kernel
theorem dX11_widen_86 : decode cX11_widen 86 = .ok (.iadd, 1) := by decide +kernel
theorem dX11_widen_87 : decode cX11_widen 87 = .ok (.ldc 113, 2) := by decide +kernel
theorem dX11_widen_89 : decode cX11_widen 89 = .ok (.iastore, 1) := by decide +kernel
theorem dX11_widen_90 : decode cX11_widen 90 = .ok (.aload_n 0, 1) := by decide +kernel
theorem dX11_widen_91 : decode cX11_widen 91 = .ok (.getfield 62, 3) := by decide +kernel
theorem dX11_widen_94 : decode cX11_widen 94 = .ok (.iconst 4, 1) := by decide +kernel
theorem dX11_widen_95 : decode cX11_widen 95 = .ok (.iload_n 3, 1) := by decide +kernel
theorem dX11_widen_96 : decode cX11_widen 96 = .ok (.imul, 1) := by decide +kernel
theorem dX11_widen_97 : decode cX11_widen 97 = .ok (.iload_n 1, 1) := by decide +kernel
theorem dX11_widen_98 : decode cX11_widen 98 = .ok (.iadd, 1) := by decide +kernel
theorem dX11_widen_99 : decode cX11_widen 99 = .ok (.iaload, 1) := by decide +kernel
theorem dX11_widen_100 : decode cX11_widen 100 = .ok (.istore 5, 2) := by decide +kernel
theorem dX11_widen_102 : decode cX11_widen 102 = .ok (.iload 5, 2) := by decide +kernel
theorem dX11_widen_104 : decode cX11_widen 104 = .ok (.ldc 113, 2) := by decide +kernel
theorem dX11_widen_106 : decode cX11_widen 106 = .ok (.if_icmp .eq 26, 3) := by decide +kernel
theorem dX11_widen_109 : decode cX11_widen 109 = .ok (.iload 5, 2) := by decide +kernel
theorem dX11_widen_111 : decode cX11_widen 111 = .ok (.iconst 1, 1) := by decide +kernel
theorem dX11_widen_112 : decode cX11_widen 112 = .ok (.ishr, 1) := by decide +kernel
theorem dX11_widen_113 : decode cX11_widen 113 = .ok (.iload_n 2, 1) := by decide +kernel
theorem dX11_widen_114 : decode cX11_widen 114 = .ok (.ineg, 1) := by decide +kernel
theorem dX11_widen_115 : decode cX11_widen 115 = .ok (.if_icmp .ge 17, 3) := by decide +kernel
theorem dX11_widen_118 : decode cX11_widen 118 = .ok (.aload_n 0, 1) := by decide +kernel
theorem dX11_widen_119 : decode cX11_widen 119 = .ok (.getfield 59, 3) := by decide +kernel
theorem dX11_widen_122 : decode cX11_widen 122 = .ok (.iconst 4, 1) := by decide +kernel
theorem dX11_widen_123 : decode cX11_widen 123 = .ok (.iload_n 3, 1) := by decide +kernel
theorem dX11_widen_124 : decode cX11_widen 124 = .ok (.imul, 1) := by decide +kernel
theorem dX11_widen_125 : decode cX11_widen 125 = .ok (.iload_n 1, 1) := by decide +kernel
theorem dX11_widen_126 : decode cX11_widen 126 = .ok (.iadd, 1) := by decide +kernel
theorem dX11_widen_127 : decode cX11_widen 127 = .ok (.bipush (-2), 2) := by decide +kernel
theorem dX11_widen_129 : decode cX11_widen 129 = .ok (.iload_n 2, 1) := by decide +kernel
theorem dX11_widen_130 : decode cX11_widen 130 = .ok (.imul, 1) := by decide +kernel
theorem dX11_widen_131 : decode cX11_widen 131 = .ok (.iastore, 1) := by decide +kernel
theorem dX11_widen_132 : decode cX11_widen 132 = .ok (.iinc 3 1, 3) := by decide +kernel
theorem dX11_widen_135 : decode cX11_widen 135 = .ok (.goto (-94), 3) := by decide +kernel
theorem dX11_widen_138 : decode cX11_widen 138 = .ok (.iinc 1 1, 3) := by decide +kernel
theorem dX11_widen_141 : decode cX11_widen 141 = .ok (.goto (-113), 3) := by decide +kernel
theorem dX11_widen_144 : decode cX11_widen 144 = .ok (.aload_n 0, 1) := by decide +kernel
theorem dX11_widen_145 : decode cX11_widen 145 = .ok (.invokevirtual 125, 3) := by decide +kernel
theorem dX11_widen_148 : decode cX11_widen 148 = .ok (.ireturn, 1) := by decide +kernel
theorem dX11_later_0 : decode cX11_later 0 = .ok (.iconst 1, 1) := by decide +kernel
theorem dX11_later_1 : decode cX11_later 1 = .ok (.istore_n 1, 1) := by decide +kernel
theorem dX11_later_2 : decode cX11_later 2 = .ok (.iload_n 1, 1) := by decide +kernel
theorem dX11_later_3 : decode cX11_later 3 = .ok (.iconst 4, 1) := by decide +kernel
theorem dX11_later_4 : decode cX11_later 4 = .ok (.if_icmp .ge 19, 3) := by decide +kernel
theorem dX11_later_7 : decode cX11_later 7 = .ok (.aload_n 0, 1) := by decide +kernel
theorem dX11_later_8 : decode cX11_later 8 = .ok (.getfield 59, 3) := by decide +kernel
theorem dX11_later_11 : decode cX11_later 11 = .ok (.iconst 4, 1) := by decide +kernel
theorem dX11_later_12 : decode cX11_later 12 = .ok (.iload_n 1, 1) := by decide +kernel
theorem dX11_later_13 : decode cX11_later 13 = .ok (.imul, 1) := by decide +kernel
theorem dX11_later_14 : decode cX11_later 14 = .ok (.ldc 113, 2) := by decide +kernel
theorem dX11_later_16 : decode cX11_later 16 = .ok (.iastore, 1) := by decide +kernel
theorem dX11_later_17 : decode cX11_later 17 = .ok (.iinc 1 1, 3) := by decide +kernel
theorem dX11_later_20 : decode cX11_later 20 = .ok (.goto (-18), 3) := by decide +kernel
theorem dX11_later_23 : decode cX11_later 23 = .ok (.aload_n 0, 1) := by decide +kernel
theorem dX11_later_24 : decode cX11_later 24 = .ok (.invokevirtual 133, 3) := by decide +kernel
theorem dX11_later_27 : decode cX11_later 27 = .ok (.ifCond .eq 14, 3) := by decide +kernel
theorem dX11_later_30 : decode cX11_later 30 = .ok (.aload_n 0, 1) := by decide +kernel
theorem dX11_later_31 : decode cX11_later 31 = .ok (.invokevirtual 136, 3) := by decide +kernel
theorem dX11_later_34 : decode cX11_later 34 = .ok (.ifCond .eq 7, 3) := by decide +kernel
theorem dX11_later_37 : decode cX11_later 37 = .ok (.iconst 1, 1) := by decide +kernel
theorem dX11_later_38 : decode cX11_later 38 = .ok (.goto 4, 3) := by decide +kernel
theorem dX11_later_41 : decode cX11_later 41 = .ok (.iconst 0, 1) := by decide +kernel
theorem dX11_later_42 : decode cX11_later 42 = .ok (.ireturn, 1) := by decide +kernel
theorem dX11_isMove_0 : decode cX11_isMove 0 = .ok (.iload_n 2, 1) := by decide +kernel
theorem dX11_isMove_1 : decode cX11_isMove 1 = .ok (.iconst (-1), 1) := by decide +kernel
theorem dX11_isMove_2 : decode cX11_isMove 2 = .ok (.if_icmp .ne 20, 3) := by decide +kernel
theorem dX11_isMove_5 : decode cX11_isMove 5 = .ok (.aload_n 0, 1) := by decide +kernel
theorem dX11_isMove_6 : decode cX11_isMove 6 = .ok (.getfield 19, 3) := by decide +kernel
theorem dX11_isMove_9 : decode cX11_isMove 9 = .ok (.iload_n 1, 1) := by decide +kernel
theorem dX11_isMove_10 : decode cX11_isMove 10 = .ok (.iaload, 1) := by decide +kernel
theorem dX11_isMove_11 : decode cX11_isMove 11 = .ok (.ifCond .ne 7, 3) := by decide +kernel
theorem dX11_isMove_14 : decode cX11_isMove 14 = .ok (.iconst 1, 1) := by decide +kernel
theorem dX11_isMove_15 : decode cX11_isMove 15 = .ok (.goto 52, 3) := by decide +kernel
theorem dX11_isMove_18 : decode cX11_isMove 18 = .ok (.iconst 0, 1) := by decide +kernel
theorem dX11_isMove_19 : decode cX11_isMove 19 = .ok (.goto 48, 3) := by decide +kernel
theorem dX11_isMove_22 : decode cX11_isMove 22 = .ok (.aload_n 0, 1) := by decide +kernel
theorem dX11_isMove_23 : decode cX11_isMove 23 = .ok (.getfield 19, 3) := by decide +kernel
theorem dX11_isMove_26 : decode cX11_isMove 26 = .ok (.iload_n 1, 1) := by decide +kernel
theorem dX11_isMove_27 : decode cX11_isMove 27 = .ok (.iaload, 1) := by decide +kernel
theorem dX11_isMove_28 : decode cX11_isMove 28 = .ok (.ifCond .le 38, 3) := by decide +kernel
theorem dX11_isMove_31 : decode cX11_isMove 31 = .ok (.aload_n 0, 1) := by decide +kernel
theorem dX11_isMove_32 : decode cX11_isMove 32 = .ok (.getfield 19, 3) := by decide +kernel
theorem dX11_isMove_35 : decode cX11_isMove 35 = .ok (.iload_n 2, 1) := by decide +kernel
theorem dX11_isMove_36 : decode cX11_isMove 36 = .ok (.iaload, 1) := by decide +kernel
theorem dX11_isMove_37 : decode cX11_isMove 37 = .ok (.aload_n 0, 1) := by decide +kernel
theorem dX11_isMove_38 : decode cX11_isMove 38 = .ok (.getfield 19, 3) := by decide +kernel
theorem dX11_isMove_41 : decode cX11_isMove 41 = .ok (.iload_n 1, 1) := by decide +kernel
theorem dX11_isMove_42 : decode cX11_isMove 42 = .ok (.iaload, 1) := by decide +kernel
theorem dX11_isMove_43 : decode cX11_isMove 43 = .ok (.ineg, 1) := by decide +kernel
theorem dX11_isMove_44 : decode cX11_isMove 44 = .ok (.if_icmp .ne 22, 3) := by decide +kernel
theorem dX11_isMove_47 : decode cX11_isMove 47 = .ok (.aload_n 0, 1) := by decide +kernel
theorem dX11_isMove_48 : decode cX11_isMove 48 = .ok (.getfield 7, 3) := by decide +kernel
theorem dX11_isMove_51 : decode cX11_isMove 51 = .ok (.iload_n 1, 1) := by decide +kernel
theorem dX11_isMove_52 : decode cX11_isMove 52 = .ok (.iaload, 1) := by decide +kernel
theorem dX11_isMove_53 : decode cX11_isMove 53 = .ok (.aload_n 0, 1) := by decide +kernel
theorem dX11_isMove_54 : decode cX11_isMove 54 = .ok (.getfield 7, 3) := by decide +kernel
theorem dX11_isMove_57 : decode cX11_isMove 57 = .ok (.iload_n 2, 1) := by decide +kernel
theorem dX11_isMove_58 : decode cX11_isMove 58 = .ok (.iaload, 1) := by decide +kernel
theorem dX11_isMove_59 : decode cX11_isMove 59 = .ok (.if_icmp .eq 7, 3) := by decide +kernel
theorem dX11_isMove_62 : decode cX11_isMove 62 = .ok (.iconst 1, 1) := by decide +kernel
theorem dX11_isMove_63 : decode cX11_isMove 63 = .ok (.goto 4, 3) := by decide +kernel
theorem dX11_isMove_66 : decode cX11_isMove 66 = .ok (.iconst 0, 1) := by decide +kernel
theorem dX11_isMove_67 : decode cX11_isMove 67 = .ok (.ireturn, 1) := by decide +kernel
theorem dX11_isMet_0 : decode cX11_isMet 0 = .ok (.iconst 0, 1) := by decide +kernel
theorem dX11_isMet_1 : decode cX11_isMet 1 = .ok (.istore_n 1, 1) := by decide +kernel
theorem dX11_isMet_2 : decode cX11_isMet 2 = .ok (.iload_n 1, 1) := by decide +kernel
theorem dX11_isMet_3 : decode cX11_isMet 3 = .ok (.aload_n 0, 1) := by decide +kernel
theorem dX11_isMet_4 : decode cX11_isMet 4 = .ok (.getfield 94, 3) := by decide +kernel
theorem dX11_isMet_7 : decode cX11_isMet 7 = .ok (.if_icmp .ge 103, 3) := by decide +kernel
theorem dX11_isMet_10 : decode cX11_isMet 10 = .ok (.iconst 1, 1) := by decide +kernel
theorem dX11_isMet_11 : decode cX11_isMet 11 = .ok (.istore_n 2, 1) := by decide +kernel
theorem dX11_isMet_12 : decode cX11_isMet 12 = .ok (.iconst 0, 1) := by decide +kernel
theorem dX11_isMet_13 : decode cX11_isMet 13 = .ok (.istore_n 3, 1) := by decide +kernel
theorem dX11_isMet_14 : decode cX11_isMet 14 = .ok (.iload_n 3, 1) := by decide +kernel
theorem dX11_isMet_15 : decode cX11_isMet 15 = .ok (.iconst 3, 1) := by decide +kernel
theorem dX11_isMet_16 : decode cX11_isMet 16 = .ok (.if_icmp .ge 38, 3) := by decide +kernel
theorem dX11_isMet_19 : decode cX11_isMet 19 = .ok (.iload_n 2, 1) := by decide +kernel
theorem dX11_isMet_20 : decode cX11_isMet 20 = .ok (.ifCond .eq 26, 3) := by decide +kernel
theorem dX11_isMet_23 : decode cX11_isMet 23 = .ok (.aload_n 0, 1) := by decide +kernel
theorem dX11_isMet_24 : decode cX11_isMet 24 = .ok (.getfield 41, 3) := by decide +kernel
theorem dX11_isMet_27 : decode cX11_isMet 27 = .ok (.iconst 3, 1) := by decide +kernel
theorem dX11_isMet_28 : decode cX11_isMet 28 = .ok (.iload_n 1, 1) := by decide +kernel
theorem dX11_isMet_29 : decode cX11_isMet 29 = .ok (.imul, 1) := by decide +kernel
theorem dX11_isMet_30 : decode cX11_isMet 30 = .ok (.iload_n 3, 1) := by decide +kernel
theorem dX11_isMet_31 : decode cX11_isMet 31 = .ok (.iadd, 1) := by decide +kernel
theorem dX11_isMet_32 : decode cX11_isMet 32 = .ok (.iaload, 1) := by decide +kernel
theorem dX11_isMet_33 : decode cX11_isMet 33 = .ok (.aload_n 0, 1) := by decide +kernel
theorem dX11_isMet_34 : decode cX11_isMet 34 = .ok (.getfield 65, 3) := by decide +kernel
theorem dX11_isMet_37 : decode cX11_isMet 37 = .ok (.iload_n 3, 1) := by decide +kernel
theorem dX11_isMet_38 : decode cX11_isMet 38 = .ok (.iaload, 1) := by decide +kernel
theorem dX11_isMet_39 : decode cX11_isMet 39 = .ok (.if_icmp .ne 7, 3) := by decide +kernel
theorem dX11_isMet_42 : decode cX11_isMet 42 = .ok (.iconst 1, 1) := by decide +kernel
theorem dX11_isMet_43 : decode cX11_isMet 43 = .ok (.goto 4, 3) := by decide +kernel
theorem dX11_isMet_46 : decode cX11_isMet 46 = .ok (.iconst 0, 1) := by decide +kernel
theorem dX11_isMet_47 : decode cX11_isMet 47 = .ok (.istore_n 2, 1) := by decide +kernel
theorem dX11_isMet_48 : decode cX11_isMet 48 = .ok (.iinc 3 1, 3) := by decide +kernel
theorem dX11_isMet_51 : decode cX11_isMet 51 = .ok (.goto (-37), 3) := by decide +kernel
theorem dX11_isMet_54 : decode cX11_isMet 54 = .ok (.iconst 0, 1) := by decide +kernel
theorem dX11_isMet_55 : decode cX11_isMet 55 = .ok (.istore_n 3, 1) := by decide +kernel
theorem dX11_isMet_56 : decode cX11_isMet 56 = .ok (.iload_n 3, 1) := by decide +kernel
theorem dX11_isMet_57 : decode cX11_isMet 57 = .ok (.bipush 16, 2) := by decide +kernel
theorem dX11_isMet_59 : decode cX11_isMet 59 = .ok (.if_icmp .ge 39, 3) := by decide +kernel
theorem dX11_isMet_62 : decode cX11_isMet 62 = .ok (.iload_n 2, 1) := by decide +kernel
theorem dX11_isMet_63 : decode cX11_isMet 63 = .ok (.ifCond .eq 27, 3) := by decide +kernel
theorem dX11_isMet_66 : decode cX11_isMet 66 = .ok (.aload_n 0, 1) := by decide +kernel
theorem dX11_isMet_67 : decode cX11_isMet 67 = .ok (.getfield 59, 3) := by decide +kernel
theorem dX11_isMet_70 : decode cX11_isMet 70 = .ok (.iload_n 3, 1) := by decide +kernel
theorem dX11_isMet_71 : decode cX11_isMet 71 = .ok (.iaload, 1) := by decide +kernel
theorem dX11_isMet_72 : decode cX11_isMet 72 = .ok (.aload_n 0, 1) := by decide +kernel
theorem dX11_isMet_73 : decode cX11_isMet 73 = .ok (.getfield 44, 3) := by decide +kernel
theorem dX11_isMet_76 : decode cX11_isMet 76 = .ok (.bipush 16, 2) := by decide +kernel
theorem dX11_isMet_78 : decode cX11_isMet 78 = .ok (.iload_n 1, 1) := by decide +kernel
theorem dX11_isMet_79 : decode cX11_isMet 79 = .ok (.imul, 1) := by decide +kernel
theorem dX11_isMet_80 : decode cX11_isMet 80 = .ok (.iload_n 3, 1) := by decide +kernel
theorem dX11_isMet_81 : decode cX11_isMet 81 = .ok (.iadd, 1) := by decide +kernel
theorem dX11_isMet_82 : decode cX11_isMet 82 = .ok (.iaload, 1) := by decide +kernel
theorem dX11_isMet_83 : decode cX11_isMet 83 = .ok (.if_icmp .gt 7, 3) := by decide +kernel
theorem dX11_isMet_86 : decode cX11_isMet 86 = .ok (.iconst 1, 1) := by decide +kernel
theorem dX11_isMet_87 : decode cX11_isMet 87 = .ok (.goto 4, 3) := by decide +kernel
theorem dX11_isMet_90 : decode cX11_isMet 90 = .ok (.iconst 0, 1) := by decide +kernel
theorem dX11_isMet_91 : decode cX11_isMet 91 = .ok (.istore_n 2, 1) := by decide +kernel
theorem dX11_isMet_92 : decode cX11_isMet 92 = .ok (.iinc 3 1, 3) := by decide +kernel
theorem dX11_isMet_95 : decode cX11_isMet 95 = .ok (.goto (-39), 3) := by decide +kernel
theorem dX11_isMet_98 : decode cX11_isMet 98 = .ok (.iload_n 2, 1) := by decide +kernel
theorem dX11_isMet_99 : decode cX11_isMet 99 = .ok (.ifCond .eq 5, 3) := by decide +kernel
theorem dX11_isMet_102 : decode cX11_isMet 102 = .ok (.iconst 1, 1) := by decide +kernel
theorem dX11_isMet_103 : decode cX11_isMet 103 = .ok (.ireturn, 1) := by decide +kernel
theorem dX11_isMet_104 : decode cX11_isMet 104 = .ok (.iinc 1 1, 3) := by decide +kernel
theorem dX11_isMet_107 : decode cX11_isMet 107 = .ok (.goto (-105), 3) := by decide +kernel
theorem dX11_isMet_110 : decode cX11_isMet 110 = .ok (.iconst 0, 1) := by decide +kernel
theorem dX11_isMet_111 : decode cX11_isMet 111 = .ok (.ireturn, 1) := by decide +kernel
theorem dX11_meet_0 : decode cX11_meet 0 = .ok (.iconst 0, 1) := by decide +kernel
theorem dX11_meet_1 : decode cX11_meet 1 = .ok (.istore 4, 2) := by decide +kernel
theorem dX11_meet_3 : decode cX11_meet 3 = .ok (.iload 4, 2) := by decide +kernel
theorem dX11_meet_5 : decode cX11_meet 5 = .ok (.iconst 3, 1) := by decide +kernel
theorem dX11_meet_6 : decode cX11_meet 6 = .ok (.if_icmp .ge 30, 3) := by decide +kernel
theorem dX11_meet_9 : decode cX11_meet 9 = .ok (.aload_n 0, 1) := by decide +kernel
theorem dX11_meet_10 : decode cX11_meet 10 = .ok (.getfield 41, 3) := by decide +kernel
theorem dX11_meet_13 : decode cX11_meet 13 = .ok (.iconst 3, 1) := by decide +kernel
theorem dX11_meet_14 : decode cX11_meet 14 = .ok (.aload_n 0, 1) := by decide +kernel
theorem dX11_meet_15 : decode cX11_meet 15 = .ok (.getfield 94, 3) := by decide +kernel
theorem dX11_meet_18 : decode cX11_meet 18 = .ok (.imul, 1) := by decide +kernel
theorem dX11_meet_19 : decode cX11_meet 19 = .ok (.iload 4, 2) := by decide +kernel
theorem dX11_meet_21 : decode cX11_meet 21 = .ok (.iadd, 1) := by decide +kernel
theorem dX11_meet_22 : decode cX11_meet 22 = .ok (.aload_n 0, 1) := by decide +kernel
theorem dX11_meet_23 : decode cX11_meet 23 = .ok (.getfield 65, 3) := by decide +kernel
theorem dX11_meet_26 : decode cX11_meet 26 = .ok (.iload 4, 2) := by decide +kernel
theorem dX11_meet_28 : decode cX11_meet 28 = .ok (.iaload, 1) := by decide +kernel
theorem dX11_meet_29 : decode cX11_meet 29 = .ok (.iastore, 1) := by decide +kernel
theorem dX11_meet_30 : decode cX11_meet 30 = .ok (.iinc 4 1, 3) := by decide +kernel
theorem dX11_meet_33 : decode cX11_meet 33 = .ok (.goto (-30), 3) := by decide +kernel
theorem dX11_meet_36 : decode cX11_meet 36 = .ok (.iconst 0, 1) := by decide +kernel
theorem dX11_meet_37 : decode cX11_meet 37 = .ok (.istore 4, 2) := by decide +kernel
theorem dX11_meet_39 : decode cX11_meet 39 = .ok (.iload 4, 2) := by decide +kernel
theorem dX11_meet_41 : decode cX11_meet 41 = .ok (.bipush 16, 2) := by decide +kernel
theorem dX11_meet_43 : decode cX11_meet 43 = .ok (.if_icmp .ge 31, 3) := by decide +kernel
theorem dX11_meet_46 : decode cX11_meet 46 = .ok (.aload_n 0, 1) := by decide +kernel
theorem dX11_meet_47 : decode cX11_meet 47 = .ok (.getfield 44, 3) := by decide +kernel
theorem dX11_meet_50 : decode cX11_meet 50 = .ok (.bipush 16, 2) := by decide +kernel
theorem dX11_meet_52 : decode cX11_meet 52 = .ok (.aload_n 0, 1) := by decide +kernel
theorem dX11_meet_53 : decode cX11_meet 53 = .ok (.getfield 94, 3) := by decide +kernel
theorem dX11_meet_56 : decode cX11_meet 56 = .ok (.imul, 1) := by decide +kernel
theorem dX11_meet_57 : decode cX11_meet 57 = .ok (.iload 4, 2) := by decide +kernel
theorem dX11_meet_59 : decode cX11_meet 59 = .ok (.iadd, 1) := by decide +kernel
theorem dX11_meet_60 : decode cX11_meet 60 = .ok (.aload_n 0, 1) := by decide +kernel
theorem dX11_meet_61 : decode cX11_meet 61 = .ok (.getfield 59, 3) := by decide +kernel
theorem dX11_meet_64 : decode cX11_meet 64 = .ok (.iload 4, 2) := by decide +kernel
theorem dX11_meet_66 : decode cX11_meet 66 = .ok (.iaload, 1) := by decide +kernel
theorem dX11_meet_67 : decode cX11_meet 67 = .ok (.iastore, 1) := by decide +kernel
theorem dX11_meet_68 : decode cX11_meet 68 = .ok (.iinc 4 1, 3) := by decide +kernel
theorem dX11_meet_71 : decode cX11_meet 71 = .ok (.goto (-32), 3) := by decide +kernel
theorem dX11_meet_74 : decode cX11_meet 74 = .ok (.aload_n 0, 1) := by decide +kernel
theorem dX11_meet_75 : decode cX11_meet 75 = .ok (.getfield 47, 3) := by decide +kernel
theorem dX11_meet_78 : decode cX11_meet 78 = .ok (.aload_n 0, 1) := by decide +kernel
theorem dX11_meet_79 : decode cX11_meet 79 = .ok (.getfield 94, 3) := by decide +kernel
theorem dX11_meet_82 : decode cX11_meet 82 = .ok (.iload_n 1, 1) := by decide +kernel
theorem dX11_meet_83 : decode cX11_meet 83 = .ok (.iastore, 1) := by decide +kernel
theorem dX11_meet_84 : decode cX11_meet 84 = .ok (.aload_n 0, 1) := by decide +kernel
theorem dX11_meet_85 : decode cX11_meet 85 = .ok (.getfield 50, 3) := by decide +kernel
theorem dX11_meet_88 : decode cX11_meet 88 = .ok (.aload_n 0, 1) := by decide +kernel
theorem dX11_meet_89 : decode cX11_meet 89 = .ok (.getfield 94, 3) := by decide +kernel
theorem dX11_meet_92 : decode cX11_meet 92 = .ok (.iload_n 2, 1) := by decide +kernel
theorem dX11_meet_93 : decode cX11_meet 93 = .ok (.iastore, 1) := by decide +kernel
theorem dX11_meet_94 : decode cX11_meet 94 = .ok (.aload_n 0, 1) := by decide +kernel
theorem dX11_meet_95 : decode cX11_meet 95 = .ok (.getfield 53, 3) := by decide +kernel
theorem dX11_meet_98 : decode cX11_meet 98 = .ok (.aload_n 0, 1) := by decide +kernel
theorem dX11_meet_99 : decode cX11_meet 99 = .ok (.getfield 94, 3) := by decide +kernel
theorem dX11_meet_102 : decode cX11_meet 102 = .ok (.iload_n 3, 1) := by decide +kernel
theorem dX11_meet_103 : decode cX11_meet 103 = .ok (.iastore, 1) := by decide +kernel
theorem dX11_meet_104 : decode cX11_meet 104 = .ok (.aload_n 0, 1) := by decide +kernel
theorem dX11_meet_105 : decode cX11_meet 105 = .ok (.getfield 56, 3) := by decide +kernel
theorem dX11_meet_108 : decode cX11_meet 108 = .ok (.aload_n 0, 1) := by decide +kernel
theorem dX11_meet_109 : decode cX11_meet 109 = .ok (.getfield 94, 3) := by decide +kernel
theorem dX11_meet_112 : decode cX11_meet 112 = .ok (.iload_n 1, 1) := by decide +kernel
theorem dX11_meet_113 : decode cX11_meet 113 = .ok (.iconst (-1), 1) := by decide +kernel
theorem dX11_meet_114 : decode cX11_meet 114 = .ok (.if_icmp .ne 7, 3) := by decide +kernel
theorem dX11_meet_117 : decode cX11_meet 117 = .ok (.iconst 0, 1) := by decide +kernel
theorem dX11_meet_118 : decode cX11_meet 118 = .ok (.goto 11, 3) := by decide +kernel
theorem dX11_meet_121 : decode cX11_meet 121 = .ok (.aload_n 0, 1) := by decide +kernel
theorem dX11_meet_122 : decode cX11_meet 122 = .ok (.getfield 56, 3) := by decide +kernel
theorem dX11_meet_125 : decode cX11_meet 125 = .ok (.iload_n 1, 1) := by decide +kernel
theorem dX11_meet_126 : decode cX11_meet 126 = .ok (.iaload, 1) := by decide +kernel
theorem dX11_meet_127 : decode cX11_meet 127 = .ok (.iconst 1, 1) := by decide +kernel
theorem dX11_meet_128 : decode cX11_meet 128 = .ok (.iadd, 1) := by decide +kernel
theorem dX11_meet_129 : decode cX11_meet 129 = .ok (.iastore, 1) := by decide +kernel
theorem dX11_meet_130 : decode cX11_meet 130 = .ok (.aload_n 0, 1) := by decide +kernel
theorem dX11_meet_131 : decode cX11_meet 131 = .ok (.dup, 1) := by decide +kernel
theorem dX11_meet_132 : decode cX11_meet 132 = .ok (.getfield 94, 3) := by decide +kernel
theorem dX11_meet_135 : decode cX11_meet 135 = .ok (.iconst 1, 1) := by decide +kernel
theorem dX11_meet_136 : decode cX11_meet 136 = .ok (.iadd, 1) := by decide +kernel
theorem dX11_meet_137 : decode cX11_meet 137 = .ok (.putfield 94, 3) := by decide +kernel
theorem dX11_meet_140 : decode cX11_meet 140 = .ok (.return_, 1) := by decide +kernel
theorem dX11_follows_0 : decode cX11_follows 0 = .ok (.iconst 0, 1) := by decide +kernel
theorem dX11_follows_1 : decode cX11_follows 1 = .ok (.istore 4, 2) := by decide +kernel
theorem dX11_follows_3 : decode cX11_follows 3 = .ok (.iload 4, 2) := by decide +kernel
theorem dX11_follows_5 : decode cX11_follows 5 = .ok (.iconst 3, 1) := by decide +kernel
theorem dX11_follows_6 : decode cX11_follows 6 = .ok (.if_icmp .ge 27, 3) := by decide +kernel
theorem dX11_follows_9 : decode cX11_follows 9 = .ok (.aload_n 0, 1) := by decide +kernel
theorem dX11_follows_10 : decode cX11_follows 10 = .ok (.getfield 65, 3) := by decide +kernel
theorem dX11_follows_13 : decode cX11_follows 13 = .ok (.iload 4, 2) := by decide +kernel
theorem dX11_follows_15 : decode cX11_follows 15 = .ok (.aload_n 0, 1) := by decide +kernel
theorem dX11_follows_16 : decode cX11_follows 16 = .ok (.getfield 41, 3) := by decide +kernel
theorem dX11_follows_19 : decode cX11_follows 19 = .ok (.iconst 3, 1) := by decide +kernel
theorem dX11_follows_20 : decode cX11_follows 20 = .ok (.iload_n 1, 1) := by decide +kernel
theorem dX11_follows_21 : decode cX11_follows 21 = .ok (.imul, 1) := by decide +kernel
theorem dX11_follows_22 : decode cX11_follows 22 = .ok (.iload 4, 2) := by decide +kernel
theorem dX11_follows_24 : decode cX11_follows 24 = .ok (.iadd, 1) := by decide +kernel
theorem dX11_follows_25 : decode cX11_follows 25 = .ok (.iaload, 1) := by decide +kernel
theorem dX11_follows_26 : decode cX11_follows 26 = .ok (.iastore, 1) := by decide +kernel
theorem dX11_follows_27 : decode cX11_follows 27 = .ok (.iinc 4 1, 3) := by decide +kernel
theorem dX11_follows_30 : decode cX11_follows 30 = .ok (.goto (-27), 3) := by decide +kernel
theorem dX11_follows_33 : decode cX11_follows 33 = .ok (.aload_n 0, 1) := by decide +kernel
theorem dX11_follows_34 : decode cX11_follows 34 = .ok (.getfield 65, 3) := by decide +kernel
theorem dX11_follows_37 : decode cX11_follows 37 = .ok (.aload_n 0, 1) := by decide +kernel
theorem dX11_follows_38 : decode cX11_follows 38 = .ok (.getfield 7, 3) := by decide +kernel
theorem dX11_follows_41 : decode cX11_follows 41 = .ok (.iload_n 2, 1) := by decide +kernel
theorem dX11_follows_42 : decode cX11_follows 42 = .ok (.iaload, 1) := by decide +kernel
theorem dX11_follows_43 : decode cX11_follows 43 = .ok (.iaload, 1) := by decide +kernel
theorem dX11_follows_44 : decode cX11_follows 44 = .ok (.aload_n 0, 1) := by decide +kernel
theorem dX11_follows_45 : decode cX11_follows 45 = .ok (.getfield 13, 3) := by decide +kernel
theorem dX11_follows_48 : decode cX11_follows 48 = .ok (.iload_n 2, 1) := by decide +kernel
theorem dX11_follows_49 : decode cX11_follows 49 = .ok (.iaload, 1) := by decide +kernel
theorem dX11_follows_50 : decode cX11_follows 50 = .ok (.if_icmp .ne 28, 3) := by decide +kernel
theorem dX11_follows_53 : decode cX11_follows 53 = .ok (.iload_n 3, 1) := by decide +kernel
theorem dX11_follows_54 : decode cX11_follows 54 = .ok (.iconst (-1), 1) := by decide +kernel
theorem dX11_follows_55 : decode cX11_follows 55 = .ok (.if_icmp .eq 25, 3) := by decide +kernel
theorem dX11_follows_58 : decode cX11_follows 58 = .ok (.aload_n 0, 1) := by decide +kernel
theorem dX11_follows_59 : decode cX11_follows 59 = .ok (.getfield 65, 3) := by decide +kernel
theorem dX11_follows_62 : decode cX11_follows 62 = .ok (.aload_n 0, 1) := by decide +kernel
theorem dX11_follows_63 : decode cX11_follows 63 = .ok (.getfield 7, 3) := by decide +kernel
theorem dX11_follows_66 : decode cX11_follows 66 = .ok (.iload_n 3, 1) := by decide +kernel
theorem dX11_follows_67 : decode cX11_follows 67 = .ok (.iaload, 1) := by decide +kernel
theorem dX11_follows_68 : decode cX11_follows 68 = .ok (.iaload, 1) := by decide +kernel
theorem dX11_follows_69 : decode cX11_follows 69 = .ok (.aload_n 0, 1) := by decide +kernel
theorem dX11_follows_70 : decode cX11_follows 70 = .ok (.getfield 13, 3) := by decide +kernel
theorem dX11_follows_73 : decode cX11_follows 73 = .ok (.iload_n 3, 1) := by decide +kernel
theorem dX11_follows_74 : decode cX11_follows 74 = .ok (.iaload, 1) := by decide +kernel
theorem dX11_follows_75 : decode cX11_follows 75 = .ok (.if_icmp .eq 5, 3) := by decide +kernel
theorem dX11_follows_78 : decode cX11_follows 78 = .ok (.iconst 0, 1) := by decide +kernel
theorem dX11_follows_79 : decode cX11_follows 79 = .ok (.ireturn, 1) := by decide +kernel
theorem dX11_follows_80 : decode cX11_follows 80 = .ok (.iconst 0, 1) := by decide +kernel
theorem dX11_follows_81 : decode cX11_follows 81 = .ok (.istore 4, 2) := by decide +kernel
theorem dX11_follows_83 : decode cX11_follows 83 = .ok (.iload 4, 2) := by decide +kernel
theorem dX11_follows_85 : decode cX11_follows 85 = .ok (.bipush 16, 2) := by decide +kernel
theorem dX11_follows_87 : decode cX11_follows 87 = .ok (.if_icmp .ge 28, 3) := by decide +kernel
theorem dX11_follows_90 : decode cX11_follows 90 = .ok (.aload_n 0, 1) := by decide +kernel
theorem dX11_follows_91 : decode cX11_follows 91 = .ok (.getfield 59, 3) := by decide +kernel
theorem dX11_follows_94 : decode cX11_follows 94 = .ok (.iload 4, 2) := by decide +kernel
theorem dX11_follows_96 : decode cX11_follows 96 = .ok (.aload_n 0, 1) := by decide +kernel
theorem dX11_follows_97 : decode cX11_follows 97 = .ok (.getfield 44, 3) := by decide +kernel
theorem dX11_follows_100 : decode cX11_follows 100 = .ok (.bipush 16, 2) := by decide +kernel
theorem dX11_follows_102 : decode cX11_follows 102 = .ok (.iload_n 1, 1) := by decide +kernel
theorem dX11_follows_103 : decode cX11_follows 103 = .ok (.imul, 1) := by decide +kernel
theorem dX11_follows_104 : decode cX11_follows 104 = .ok (.iload 4, 2) := by decide +kernel
theorem dX11_follows_106 : decode cX11_follows 106 = .ok (.iadd, 1) := by decide +kernel
theorem dX11_follows_107 : decode cX11_follows 107 = .ok (.iaload, 1) := by decide +kernel
theorem dX11_follows_108 : decode cX11_follows 108 = .ok (.iastore, 1) := by decide +kernel
theorem dX11_follows_109 : decode cX11_follows 109 = .ok (.iinc 4 1, 3) := by decide +kernel
theorem dX11_follows_112 : decode cX11_follows 112 = .ok (.goto (-29), 3) := by decide +kernel
theorem dX11_follows_115 : decode cX11_follows 115 = .ok (.aload_n 0, 1) := by decide +kernel
theorem dX11_follows_116 : decode cX11_follows 116 = .ok (.iload_n 2, 1) := by decide +kernel
theorem dX11_follows_117 : decode cX11_follows 117 = .ok (.invokevirtual 139, 3) := by decide +kernel
theorem dX11_follows_120 : decode cX11_follows 120 = .ok (.ifCond .eq 16, 3) := by decide +kernel
theorem dX11_follows_123 : decode cX11_follows 123 = .ok (.iload_n 3, 1) := by decide +kernel
theorem dX11_follows_124 : decode cX11_follows 124 = .ok (.iconst (-1), 1) := by decide +kernel
theorem dX11_follows_125 : decode cX11_follows 125 = .ok (.if_icmp .eq 13, 3) := by decide +kernel
theorem dX11_follows_128 : decode cX11_follows 128 = .ok (.aload_n 0, 1) := by decide +kernel
theorem dX11_follows_129 : decode cX11_follows 129 = .ok (.iload_n 3, 1) := by decide +kernel
theorem dX11_follows_130 : decode cX11_follows 130 = .ok (.invokevirtual 139, 3) := by decide +kernel
theorem dX11_follows_133 : decode cX11_follows 133 = .ok (.ifCond .ne 5, 3) := by decide +kernel
theorem dX11_follows_136 : decode cX11_follows 136 = .ok (.iconst 0, 1) := by decide +kernel
theorem dX11_follows_137 : decode cX11_follows 137 = .ok (.ireturn, 1) := by decide +kernel
theorem dX11_follows_138 : decode cX11_follows 138 = .ok (.aload_n 0, 1) := by decide +kernel
theorem dX11_follows_139 : decode cX11_follows 139 = .ok (.aload_n 0, 1) := by decide +kernel
theorem dX11_follows_140 : decode cX11_follows 140 = .ok (.getfield 22, 3) := by decide +kernel
theorem dX11_follows_143 : decode cX11_follows 143 = .ok (.iload_n 2, 1) := by decide +kernel
theorem dX11_follows_144 : decode cX11_follows 144 = .ok (.iaload, 1) := by decide +kernel
theorem dX11_follows_145 : decode cX11_follows 145 = .ok (.iload_n 3, 1) := by decide +kernel
theorem dX11_follows_146 : decode cX11_follows 146 = .ok (.iconst (-1), 1) := by decide +kernel
theorem dX11_follows_147 : decode cX11_follows 147 = .ok (.if_icmp .ne 7, 3) := by decide +kernel
theorem dX11_follows_150 : decode cX11_follows 150 = .ok (.iconst 0, 1) := by decide +kernel
theorem dX11_follows_151 : decode cX11_follows 151 = .ok (.goto 9, 3) := by decide +kernel
theorem dX11_follows_154 : decode cX11_follows 154 = .ok (.aload_n 0, 1) := by decide +kernel
theorem dX11_follows_155 : decode cX11_follows 155 = .ok (.getfield 22, 3) := by decide +kernel
theorem dX11_follows_158 : decode cX11_follows 158 = .ok (.iload_n 3, 1) := by decide +kernel
theorem dX11_follows_159 : decode cX11_follows 159 = .ok (.iaload, 1) := by decide +kernel
theorem dX11_follows_160 : decode cX11_follows 160 = .ok (.ior, 1) := by decide +kernel
theorem dX11_follows_161 : decode cX11_follows 161 = .ok (.invokevirtual 142, 3) := by decide +kernel
theorem dX11_follows_164 : decode cX11_follows 164 = .ok (.aload_n 0, 1) := by decide +kernel
theorem dX11_follows_165 : decode cX11_follows 165 = .ok (.getfield 65, 3) := by decide +kernel
theorem dX11_follows_168 : decode cX11_follows 168 = .ok (.aload_n 0, 1) := by decide +kernel
theorem dX11_follows_169 : decode cX11_follows 169 = .ok (.getfield 7, 3) := by decide +kernel
theorem dX11_follows_172 : decode cX11_follows 172 = .ok (.iload_n 2, 1) := by decide +kernel
theorem dX11_follows_173 : decode cX11_follows 173 = .ok (.iaload, 1) := by decide +kernel
theorem dX11_follows_174 : decode cX11_follows 174 = .ok (.aload_n 0, 1) := by decide +kernel
theorem dX11_follows_175 : decode cX11_follows 175 = .ok (.getfield 16, 3) := by decide +kernel
theorem dX11_follows_178 : decode cX11_follows 178 = .ok (.iload_n 2, 1) := by decide +kernel
theorem dX11_follows_179 : decode cX11_follows 179 = .ok (.iaload, 1) := by decide +kernel
theorem dX11_follows_180 : decode cX11_follows 180 = .ok (.iastore, 1) := by decide +kernel
theorem dX11_follows_181 : decode cX11_follows 181 = .ok (.iload_n 3, 1) := by decide +kernel
theorem dX11_follows_182 : decode cX11_follows 182 = .ok (.iconst (-1), 1) := by decide +kernel
theorem dX11_follows_183 : decode cX11_follows 183 = .ok (.if_icmp .eq 20, 3) := by decide +kernel
theorem dX11_follows_186 : decode cX11_follows 186 = .ok (.aload_n 0, 1) := by decide +kernel
theorem dX11_follows_187 : decode cX11_follows 187 = .ok (.getfield 65, 3) := by decide +kernel
theorem dX11_follows_190 : decode cX11_follows 190 = .ok (.aload_n 0, 1) := by decide +kernel
theorem dX11_follows_191 : decode cX11_follows 191 = .ok (.getfield 7, 3) := by decide +kernel
theorem dX11_follows_194 : decode cX11_follows 194 = .ok (.iload_n 3, 1) := by decide +kernel
theorem dX11_follows_195 : decode cX11_follows 195 = .ok (.iaload, 1) := by decide +kernel
theorem dX11_follows_196 : decode cX11_follows 196 = .ok (.aload_n 0, 1) := by decide +kernel
theorem dX11_follows_197 : decode cX11_follows 197 = .ok (.getfield 16, 3) := by decide +kernel
theorem dX11_follows_200 : decode cX11_follows 200 = .ok (.iload_n 3, 1) := by decide +kernel
theorem dX11_follows_201 : decode cX11_follows 201 = .ok (.iaload, 1) := by decide +kernel
theorem dX11_follows_202 : decode cX11_follows 202 = .ok (.iastore, 1) := by decide +kernel
theorem dX11_follows_203 : decode cX11_follows 203 = .ok (.aload_n 0, 1) := by decide +kernel
theorem dX11_follows_204 : decode cX11_follows 204 = .ok (.invokevirtual 133, 3) := by decide +kernel
theorem dX11_follows_207 : decode cX11_follows 207 = .ok (.ifCond .eq 14, 3) := by decide +kernel
theorem dX11_follows_210 : decode cX11_follows 210 = .ok (.aload_n 0, 1) := by decide +kernel
theorem dX11_follows_211 : decode cX11_follows 211 = .ok (.invokevirtual 146, 3) := by decide +kernel
theorem dX11_follows_214 : decode cX11_follows 214 = .ok (.ifCond .eq 7, 3) := by decide +kernel
theorem dX11_follows_217 : decode cX11_follows 217 = .ok (.iconst 1, 1) := by decide +kernel
theorem dX11_follows_218 : decode cX11_follows 218 = .ok (.goto 4, 3) := by decide +kernel
theorem dX11_follows_221 : decode cX11_follows 221 = .ok (.iconst 0, 1) := by decide +kernel
theorem dX11_follows_222 : decode cX11_follows 222 = .ok (.ireturn, 1) := by decide +kernel
theorem dX11_explore_0 : decode cX11_explore 0 = .ok (.iload_n 1, 1) := by decide +kernel
theorem dX11_explore_1 : decode cX11_explore 1 = .ok (.iconst 1, 1) := by decide +kernel
theorem dX11_explore_2 : decode cX11_explore 2 = .ok (.bipush 120, 2) := by decide +kernel
theorem dX11_explore_4 : decode cX11_explore 4 = .ok (.invokestatic 86, 3) := by decide +kernel
theorem dX11_explore_7 : decode cX11_explore 7 = .ok (.ifCond .ne 6, 3) := by decide +kernel
theorem dX11_explore_10 : decode cX11_explore 10 = .ok (.bipush (-102), 2) := by decide +kernel
theorem dX11_explore_12 : decode cX11_explore 12 = .ok (.ireturn, 1) := by decide +kernel
theorem dX11_explore_13 : decode cX11_explore 13 = .ok (.aload_n 0, 1) := by decide +kernel
theorem dX11_explore_14 : decode cX11_explore 14 = .ok (.getfield 149, 3) := by decide +kernel
theorem dX11_explore_17 : decode cX11_explore 17 = .ok (.bipush 40, 2) := by decide +kernel
theorem dX11_explore_19 : decode cX11_explore 19 = .ok (.if_icmp .ne 6, 3) := by decide +kernel
theorem dX11_explore_22 : decode cX11_explore 22 = .ok (.bipush (-104), 2) := by decide +kernel
theorem dX11_explore_24 : decode cX11_explore 24 = .ok (.ireturn, 1) := by decide +kernel
theorem dX11_explore_25 : decode cX11_explore 25 = .ok (.aload_n 0, 1) := by decide +kernel
theorem dX11_explore_26 : decode cX11_explore 26 = .ok (.dup, 1) := by decide +kernel
theorem dX11_explore_27 : decode cX11_explore 27 = .ok (.getfield 149, 3) := by decide +kernel
theorem dX11_explore_30 : decode cX11_explore 30 = .ok (.iconst 1, 1) := by decide +kernel
theorem dX11_explore_31 : decode cX11_explore 31 = .ok (.iadd, 1) := by decide +kernel
theorem dX11_explore_32 : decode cX11_explore 32 = .ok (.putfield 149, 3) := by decide +kernel
theorem dX11_explore_35 : decode cX11_explore 35 = .ok (.aload_n 0, 1) := by decide +kernel
theorem dX11_explore_36 : decode cX11_explore 36 = .ok (.iconst 0, 1) := by decide +kernel
theorem dX11_explore_37 : decode cX11_explore 37 = .ok (.putfield 37, 3) := by decide +kernel
theorem dX11_explore_40 : decode cX11_explore 40 = .ok (.aload_n 0, 1) := by decide +kernel
theorem dX11_explore_41 : decode cX11_explore 41 = .ok (.iconst 0, 1) := by decide +kernel
theorem dX11_explore_42 : decode cX11_explore 42 = .ok (.putfield 94, 3) := by decide +kernel
theorem dX11_explore_45 : decode cX11_explore 45 = .ok (.iconst 0, 1) := by decide +kernel
theorem dX11_explore_46 : decode cX11_explore 46 = .ok (.istore_n 2, 1) := by decide +kernel
theorem dX11_explore_47 : decode cX11_explore 47 = .ok (.iload_n 2, 1) := by decide +kernel
theorem dX11_explore_48 : decode cX11_explore 48 = .ok (.iconst 3, 1) := by decide +kernel
theorem dX11_explore_49 : decode cX11_explore 49 = .ok (.if_icmp .ge 16, 3) := by decide +kernel
theorem dX11_explore_52 : decode cX11_explore 52 = .ok (.aload_n 0, 1) := by decide +kernel
theorem dX11_explore_53 : decode cX11_explore 53 = .ok (.getfield 65, 3) := by decide +kernel
theorem dX11_explore_56 : decode cX11_explore 56 = .ok (.iload_n 2, 1) := by decide +kernel
theorem dX11_explore_57 : decode cX11_explore 57 = .ok (.iconst 0, 1) := by decide +kernel
theorem dX11_explore_58 : decode cX11_explore 58 = .ok (.iastore, 1) := by decide +kernel
theorem dX11_explore_59 : decode cX11_explore 59 = .ok (.iinc 2 1, 3) := by decide +kernel
theorem dX11_explore_62 : decode cX11_explore 62 = .ok (.goto (-15), 3) := by decide +kernel
theorem dX11_explore_65 : decode cX11_explore 65 = .ok (.iconst 0, 1) := by decide +kernel
theorem dX11_explore_66 : decode cX11_explore 66 = .ok (.istore_n 2, 1) := by decide +kernel
theorem dX11_explore_67 : decode cX11_explore 67 = .ok (.iload_n 2, 1) := by decide +kernel
theorem dX11_explore_68 : decode cX11_explore 68 = .ok (.bipush 16, 2) := by decide +kernel
theorem dX11_explore_70 : decode cX11_explore 70 = .ok (.if_icmp .ge 16, 3) := by decide +kernel
theorem dX11_explore_73 : decode cX11_explore 73 = .ok (.aload_n 0, 1) := by decide +kernel
theorem dX11_explore_74 : decode cX11_explore 74 = .ok (.getfield 59, 3) := by decide +kernel
theorem dX11_explore_77 : decode cX11_explore 77 = .ok (.iload_n 2, 1) := by decide +kernel
theorem dX11_explore_78 : decode cX11_explore 78 = .ok (.iconst 1, 1) := by decide +kernel
theorem dX11_explore_79 : decode cX11_explore 79 = .ok (.iastore, 1) := by decide +kernel
theorem dX11_explore_80 : decode cX11_explore 80 = .ok (.iinc 2 1, 3) := by decide +kernel
theorem dX11_explore_83 : decode cX11_explore 83 = .ok (.goto (-16), 3) := by decide +kernel
theorem dX11_explore_86 : decode cX11_explore 86 = .ok (.aload_n 0, 1) := by decide +kernel
theorem dX11_explore_87 : decode cX11_explore 87 = .ok (.invokevirtual 133, 3) := by decide +kernel
theorem dX11_explore_90 : decode cX11_explore 90 = .ok (.ifCond .eq 17, 3) := by decide +kernel
theorem dX11_explore_93 : decode cX11_explore 93 = .ok (.aload_n 0, 1) := by decide +kernel
theorem dX11_explore_94 : decode cX11_explore 94 = .ok (.invokevirtual 146, 3) := by decide +kernel
theorem dX11_explore_97 : decode cX11_explore 97 = .ok (.ifCond .eq 10, 3) := by decide +kernel
theorem dX11_explore_100 : decode cX11_explore 100 = .ok (.aload_n 0, 1) := by decide +kernel
theorem dX11_explore_101 : decode cX11_explore 101 = .ok (.iconst (-1), 1) := by decide +kernel
theorem dX11_explore_102 : decode cX11_explore 102 = .ok (.iconst (-1), 1) := by decide +kernel
theorem dX11_explore_103 : decode cX11_explore 103 = .ok (.iconst (-1), 1) := by decide +kernel
theorem dX11_explore_104 : decode cX11_explore 104 = .ok (.invokevirtual 152, 3) := by decide +kernel
theorem dX11_explore_107 : decode cX11_explore 107 = .ok (.iconst 0, 1) := by decide +kernel
theorem dX11_explore_108 : decode cX11_explore 108 = .ok (.istore_n 2, 1) := by decide +kernel
theorem dX11_explore_109 : decode cX11_explore 109 = .ok (.iload_n 2, 1) := by decide +kernel
theorem dX11_explore_110 : decode cX11_explore 110 = .ok (.aload_n 0, 1) := by decide +kernel
theorem dX11_explore_111 : decode cX11_explore 111 = .ok (.getfield 94, 3) := by decide +kernel
theorem dX11_explore_114 : decode cX11_explore 114 = .ok (.if_icmp .ge 102, 3) := by decide +kernel
theorem dX11_explore_117 : decode cX11_explore 117 = .ok (.iconst 0, 1) := by decide +kernel
theorem dX11_explore_118 : decode cX11_explore 118 = .ok (.istore_n 3, 1) := by decide +kernel
theorem dX11_explore_119 : decode cX11_explore 119 = .ok (.iload_n 3, 1) := by decide +kernel
theorem dX11_explore_120 : decode cX11_explore 120 = .ok (.aload_n 0, 1) := by decide +kernel
theorem dX11_explore_121 : decode cX11_explore 121 = .ok (.getfield 90, 3) := by decide +kernel
theorem dX11_explore_124 : decode cX11_explore 124 = .ok (.if_icmp .ge 86, 3) := by decide +kernel
theorem dX11_explore_127 : decode cX11_explore 127 = .ok (.aload_n 0, 1) := by decide +kernel
theorem dX11_explore_128 : decode cX11_explore 128 = .ok (.getfield 56, 3) := by decide +kernel
theorem dX11_explore_131 : decode cX11_explore 131 = .ok (.iload_n 2, 1) := by decide +kernel
theorem dX11_explore_132 : decode cX11_explore 132 = .ok (.iaload, 1) := by decide +kernel
theorem dX11_explore_133 : decode cX11_explore 133 = .ok (.bipush 40, 2) := by decide +kernel
theorem dX11_explore_135 : decode cX11_explore 135 = .ok (.if_icmp .ge 75, 3) := by decide +kernel
theorem dX11_explore_138 : decode cX11_explore 138 = .ok (.iconst (-1), 1) := by decide +kernel
theorem dX11_explore_139 : decode cX11_explore 139 = .ok (.istore 4, 2) := by decide +kernel
theorem dX11_explore_141 : decode cX11_explore 141 = .ok (.iload 4, 2) := by decide +kernel
theorem dX11_explore_143 : decode cX11_explore 143 = .ok (.aload_n 0, 1) := by decide +kernel
theorem dX11_explore_144 : decode cX11_explore 144 = .ok (.getfield 90, 3) := by decide +kernel
theorem dX11_explore_147 : decode cX11_explore 147 = .ok (.if_icmp .ge 57, 3) := by decide +kernel
theorem dX11_explore_150 : decode cX11_explore 150 = .ok (.aload_n 0, 1) := by decide +kernel
theorem dX11_explore_151 : decode cX11_explore 151 = .ok (.iload_n 3, 1) := by decide +kernel
theorem dX11_explore_152 : decode cX11_explore 152 = .ok (.iload 4, 2) := by decide +kernel
theorem dX11_explore_154 : decode cX11_explore 154 = .ok (.invokevirtual 155, 3) := by decide +kernel
theorem dX11_explore_157 : decode cX11_explore 157 = .ok (.ifCond .eq 41, 3) := by decide +kernel
theorem dX11_explore_160 : decode cX11_explore 160 = .ok (.aload_n 0, 1) := by decide +kernel
theorem dX11_explore_161 : decode cX11_explore 161 = .ok (.iload_n 2, 1) := by decide +kernel
theorem dX11_explore_162 : decode cX11_explore 162 = .ok (.iload_n 3, 1) := by decide +kernel
theorem dX11_explore_163 : decode cX11_explore 163 = .ok (.iload 4, 2) := by decide +kernel
theorem dX11_explore_165 : decode cX11_explore 165 = .ok (.invokevirtual 159, 3) := by decide +kernel
theorem dX11_explore_168 : decode cX11_explore 168 = .ok (.ifCond .eq 30, 3) := by decide +kernel
theorem dX11_explore_171 : decode cX11_explore 171 = .ok (.aload_n 0, 1) := by decide +kernel
theorem dX11_explore_172 : decode cX11_explore 172 = .ok (.invokevirtual 162, 3) := by decide +kernel
theorem dX11_explore_175 : decode cX11_explore 175 = .ok (.ifCond .ne 23, 3) := by decide +kernel
theorem dX11_explore_178 : decode cX11_explore 178 = .ok (.aload_n 0, 1) := by decide +kernel
theorem dX11_explore_179 : decode cX11_explore 179 = .ok (.getfield 94, 3) := by decide +kernel
theorem dX11_explore_182 : decode cX11_explore 182 = .ok (.iload_n 1, 1) := by decide +kernel
theorem dX11_explore_183 : decode cX11_explore 183 = .ok (.if_icmp .ne 7, 3) := by decide +kernel
theorem dX11_explore_186 : decode cX11_explore 186 = .ok (.iconst (-1), 1) := by decide +kernel
theorem dX11_explore_187 : decode cX11_explore 187 = .ok (.iload_n 1, 1) := by decide +kernel
theorem dX11_explore_188 : decode cX11_explore 188 = .ok (.isub, 1) := by decide +kernel
theorem dX11_explore_189 : decode cX11_explore 189 = .ok (.ireturn, 1) := by decide +kernel
theorem dX11_explore_190 : decode cX11_explore 190 = .ok (.aload_n 0, 1) := by decide +kernel
theorem dX11_explore_191 : decode cX11_explore 191 = .ok (.iload_n 2, 1) := by decide +kernel
theorem dX11_explore_192 : decode cX11_explore 192 = .ok (.iload_n 3, 1) := by decide +kernel
theorem dX11_explore_193 : decode cX11_explore 193 = .ok (.iload 4, 2) := by decide +kernel
theorem dX11_explore_195 : decode cX11_explore 195 = .ok (.invokevirtual 152, 3) := by decide +kernel
theorem dX11_explore_198 : decode cX11_explore 198 = .ok (.iinc 4 1, 3) := by decide +kernel
theorem dX11_explore_201 : decode cX11_explore 201 = .ok (.goto (-60), 3) := by decide +kernel
theorem dX11_explore_204 : decode cX11_explore 204 = .ok (.iinc 3 1, 3) := by decide +kernel
theorem dX11_explore_207 : decode cX11_explore 207 = .ok (.goto (-88), 3) := by decide +kernel
theorem dX11_explore_210 : decode cX11_explore 210 = .ok (.iinc 2 1, 3) := by decide +kernel
theorem dX11_explore_213 : decode cX11_explore 213 = .ok (.goto (-104), 3) := by decide +kernel
theorem dX11_explore_216 : decode cX11_explore 216 = .ok (.aload_n 0, 1) := by decide +kernel
theorem dX11_explore_217 : decode cX11_explore 217 = .ok (.getfield 94, 3) := by decide +kernel
theorem dX11_explore_220 : decode cX11_explore 220 = .ok (.ireturn, 1) := by decide +kernel
theorem dX11_isState_0 : decode cX11_isState 0 = .ok (.iload_n 1, 1) := by decide +kernel
theorem dX11_isState_1 : decode cX11_isState 1 = .ok (.iconst 0, 1) := by decide +kernel
theorem dX11_isState_2 : decode cX11_isState 2 = .ok (.aload_n 0, 1) := by decide +kernel
theorem dX11_isState_3 : decode cX11_isState 3 = .ok (.getfield 94, 3) := by decide +kernel
theorem dX11_isState_6 : decode cX11_isState 6 = .ok (.iconst 1, 1) := by decide +kernel
theorem dX11_isState_7 : decode cX11_isState 7 = .ok (.isub, 1) := by decide +kernel
theorem dX11_isState_8 : decode cX11_isState 8 = .ok (.invokestatic 86, 3) := by decide +kernel
theorem dX11_isState_11 : decode cX11_isState 11 = .ok (.ireturn, 1) := by decide +kernel
theorem dX11_state_0 : decode cX11_state 0 = .ok (.aload_n 0, 1) := by decide +kernel
theorem dX11_state_1 : decode cX11_state 1 = .ok (.getfield 37, 3) := by decide +kernel
theorem dX11_state_4 : decode cX11_state 4 = .ok (.ifCond .eq 6, 3) := by decide +kernel
theorem dX11_state_7 : decode cX11_state 7 = .ok (.bipush (-103), 2) := by decide +kernel
theorem dX11_state_9 : decode cX11_state 9 = .ok (.ireturn, 1) := by decide +kernel
theorem dX11_state_10 : decode cX11_state 10 = .ok (.aload_n 0, 1) := by decide +kernel
theorem dX11_state_11 : decode cX11_state 11 = .ok (.iload_n 1, 1) := by decide +kernel
theorem dX11_state_12 : decode cX11_state 12 = .ok (.invokevirtual 165, 3) := by decide +kernel
theorem dX11_state_15 : decode cX11_state 15 = .ok (.ifCond .ne 6, 3) := by decide +kernel
theorem dX11_state_18 : decode cX11_state 18 = .ok (.bipush (-101), 2) := by decide +kernel
theorem dX11_state_20 : decode cX11_state 20 = .ok (.ireturn, 1) := by decide +kernel
theorem dX11_state_21 : decode cX11_state 21 = .ok (.iload_n 2, 1) := by decide +kernel
theorem dX11_state_22 : decode cX11_state 22 = .ok (.iconst 0, 1) := by decide +kernel
theorem dX11_state_23 : decode cX11_state 23 = .ok (.bipush 6, 2) := by decide +kernel
theorem dX11_state_25 : decode cX11_state 25 = .ok (.invokestatic 86, 3) := by decide +kernel
theorem dX11_state_28 : decode cX11_state 28 = .ok (.ifCond .eq 12, 3) := by decide +kernel
theorem dX11_state_31 : decode cX11_state 31 = .ok (.aload_n 0, 1) := by decide +kernel
theorem dX11_state_32 : decode cX11_state 32 = .ok (.iload_n 1, 1) := by decide +kernel
theorem dX11_state_33 : decode cX11_state 33 = .ok (.iload_n 2, 1) := by decide +kernel
theorem dX11_state_34 : decode cX11_state 34 = .ok (.invokevirtual 168, 3) := by decide +kernel
theorem dX11_state_37 : decode cX11_state 37 = .ok (.goto 5, 3) := by decide +kernel
theorem dX11_state_40 : decode cX11_state 40 = .ok (.bipush (-102), 2) := by decide +kernel
theorem dX11_state_42 : decode cX11_state 42 = .ok (.ireturn, 1) := by decide +kernel
theorem dX11_tells_0 : decode cX11_tells 0 = .ok (.iload_n 2, 1) := by decide +kernel
theorem dX11_tells_1 : decode cX11_tells 1 = .ok (.iconst 3, 1) := by decide +kernel
theorem dX11_tells_2 : decode cX11_tells 2 = .ok (.if_icmp .ge 16, 3) := by decide +kernel
theorem dX11_tells_5 : decode cX11_tells 5 = .ok (.aload_n 0, 1) := by decide +kernel
theorem dX11_tells_6 : decode cX11_tells 6 = .ok (.getfield 41, 3) := by decide +kernel
theorem dX11_tells_9 : decode cX11_tells 9 = .ok (.iconst 3, 1) := by decide +kernel
theorem dX11_tells_10 : decode cX11_tells 10 = .ok (.iload_n 1, 1) := by decide +kernel
theorem dX11_tells_11 : decode cX11_tells 11 = .ok (.imul, 1) := by decide +kernel
theorem dX11_tells_12 : decode cX11_tells 12 = .ok (.iload_n 2, 1) := by decide +kernel
theorem dX11_tells_13 : decode cX11_tells 13 = .ok (.iadd, 1) := by decide +kernel
theorem dX11_tells_14 : decode cX11_tells 14 = .ok (.iaload, 1) := by decide +kernel
theorem dX11_tells_15 : decode cX11_tells 15 = .ok (.goto 51, 3) := by decide +kernel
theorem dX11_tells_18 : decode cX11_tells 18 = .ok (.iload_n 2, 1) := by decide +kernel
theorem dX11_tells_19 : decode cX11_tells 19 = .ok (.iconst 3, 1) := by decide +kernel
theorem dX11_tells_20 : decode cX11_tells 20 = .ok (.if_icmp .ne 12, 3) := by decide +kernel
theorem dX11_tells_23 : decode cX11_tells 23 = .ok (.aload_n 0, 1) := by decide +kernel
theorem dX11_tells_24 : decode cX11_tells 24 = .ok (.getfield 47, 3) := by decide +kernel
theorem dX11_tells_27 : decode cX11_tells 27 = .ok (.iload_n 1, 1) := by decide +kernel
theorem dX11_tells_28 : decode cX11_tells 28 = .ok (.iaload, 1) := by decide +kernel
theorem dX11_tells_29 : decode cX11_tells 29 = .ok (.goto 37, 3) := by decide +kernel
theorem dX11_tells_32 : decode cX11_tells 32 = .ok (.iload_n 2, 1) := by decide +kernel
theorem dX11_tells_33 : decode cX11_tells 33 = .ok (.iconst 4, 1) := by decide +kernel
theorem dX11_tells_34 : decode cX11_tells 34 = .ok (.if_icmp .ne 12, 3) := by decide +kernel
theorem dX11_tells_37 : decode cX11_tells 37 = .ok (.aload_n 0, 1) := by decide +kernel
theorem dX11_tells_38 : decode cX11_tells 38 = .ok (.getfield 50, 3) := by decide +kernel
theorem dX11_tells_41 : decode cX11_tells 41 = .ok (.iload_n 1, 1) := by decide +kernel
theorem dX11_tells_42 : decode cX11_tells 42 = .ok (.iaload, 1) := by decide +kernel
theorem dX11_tells_43 : decode cX11_tells 43 = .ok (.goto 23, 3) := by decide +kernel
theorem dX11_tells_46 : decode cX11_tells 46 = .ok (.iload_n 2, 1) := by decide +kernel
theorem dX11_tells_47 : decode cX11_tells 47 = .ok (.iconst 5, 1) := by decide +kernel
theorem dX11_tells_48 : decode cX11_tells 48 = .ok (.if_icmp .ne 12, 3) := by decide +kernel
theorem dX11_tells_51 : decode cX11_tells 51 = .ok (.aload_n 0, 1) := by decide +kernel
theorem dX11_tells_52 : decode cX11_tells 52 = .ok (.getfield 53, 3) := by decide +kernel
theorem dX11_tells_55 : decode cX11_tells 55 = .ok (.iload_n 1, 1) := by decide +kernel
theorem dX11_tells_56 : decode cX11_tells 56 = .ok (.iaload, 1) := by decide +kernel
theorem dX11_tells_57 : decode cX11_tells 57 = .ok (.goto 9, 3) := by decide +kernel
theorem dX11_tells_60 : decode cX11_tells 60 = .ok (.aload_n 0, 1) := by decide +kernel
theorem dX11_tells_61 : decode cX11_tells 61 = .ok (.getfield 56, 3) := by decide +kernel
theorem dX11_tells_64 : decode cX11_tells 64 = .ok (.iload_n 1, 1) := by decide +kernel
theorem dX11_tells_65 : decode cX11_tells 65 = .ok (.iaload, 1) := by decide +kernel
theorem dX11_tells_66 : decode cX11_tells 66 = .ok (.ireturn, 1) := by decide +kernel
theorem dX11_bound_0 : decode cX11_bound 0 = .ok (.aload_n 0, 1) := by decide +kernel
theorem dX11_bound_1 : decode cX11_bound 1 = .ok (.getfield 37, 3) := by decide +kernel
theorem dX11_bound_4 : decode cX11_bound 4 = .ok (.ifCond .eq 6, 3) := by decide +kernel
theorem dX11_bound_7 : decode cX11_bound 7 = .ok (.ldc 171, 2) := by decide +kernel
theorem dX11_bound_9 : decode cX11_bound 9 = .ok (.ireturn, 1) := by decide +kernel
theorem dX11_bound_10 : decode cX11_bound 10 = .ok (.aload_n 0, 1) := by decide +kernel
theorem dX11_bound_11 : decode cX11_bound 11 = .ok (.iload_n 1, 1) := by decide +kernel
theorem dX11_bound_12 : decode cX11_bound 12 = .ok (.invokevirtual 165, 3) := by decide +kernel
theorem dX11_bound_15 : decode cX11_bound 15 = .ok (.ifCond .eq 21, 3) := by decide +kernel
theorem dX11_bound_18 : decode cX11_bound 18 = .ok (.iload_n 2, 1) := by decide +kernel
theorem dX11_bound_19 : decode cX11_bound 19 = .ok (.iconst 0, 1) := by decide +kernel
theorem dX11_bound_20 : decode cX11_bound 20 = .ok (.iconst 3, 1) := by decide +kernel
theorem dX11_bound_21 : decode cX11_bound 21 = .ok (.invokestatic 86, 3) := by decide +kernel
theorem dX11_bound_24 : decode cX11_bound 24 = .ok (.ifCond .eq 12, 3) := by decide +kernel
theorem dX11_bound_27 : decode cX11_bound 27 = .ok (.iload_n 3, 1) := by decide +kernel
theorem dX11_bound_28 : decode cX11_bound 28 = .ok (.iconst 0, 1) := by decide +kernel
theorem dX11_bound_29 : decode cX11_bound 29 = .ok (.iconst 3, 1) := by decide +kernel
theorem dX11_bound_30 : decode cX11_bound 30 = .ok (.invokestatic 86, 3) := by decide +kernel
theorem dX11_bound_33 : decode cX11_bound 33 = .ok (.ifCond .ne 6, 3) := by decide +kernel
theorem dX11_bound_36 : decode cX11_bound 36 = .ok (.ldc 172, 2) := by decide +kernel
theorem dX11_bound_38 : decode cX11_bound 38 = .ok (.ireturn, 1) := by decide +kernel
theorem dX11_bound_39 : decode cX11_bound 39 = .ok (.aload_n 0, 1) := by decide +kernel
theorem dX11_bound_40 : decode cX11_bound 40 = .ok (.getfield 44, 3) := by decide +kernel
theorem dX11_bound_43 : decode cX11_bound 43 = .ok (.bipush 16, 2) := by decide +kernel
theorem dX11_bound_45 : decode cX11_bound 45 = .ok (.iload_n 1, 1) := by decide +kernel
theorem dX11_bound_46 : decode cX11_bound 46 = .ok (.imul, 1) := by decide +kernel
theorem dX11_bound_47 : decode cX11_bound 47 = .ok (.iconst 4, 1) := by decide +kernel
theorem dX11_bound_48 : decode cX11_bound 48 = .ok (.iload_n 2, 1) := by decide +kernel
theorem dX11_bound_49 : decode cX11_bound 49 = .ok (.imul, 1) := by decide +kernel
theorem dX11_bound_50 : decode cX11_bound 50 = .ok (.iadd, 1) := by decide +kernel
theorem dX11_bound_51 : decode cX11_bound 51 = .ok (.iload_n 3, 1) := by decide +kernel
theorem dX11_bound_52 : decode cX11_bound 52 = .ok (.iadd, 1) := by decide +kernel
theorem dX11_bound_53 : decode cX11_bound 53 = .ok (.iaload, 1) := by decide +kernel
theorem dX11_bound_54 : decode cX11_bound 54 = .ok (.ireturn, 1) := by decide +kernel
theorem dX11_reach_0 : decode cX11_reach 0 = .ok (.aload_n 0, 1) := by decide +kernel
theorem dX11_reach_1 : decode cX11_reach 1 = .ok (.getfield 37, 3) := by decide +kernel
theorem dX11_reach_4 : decode cX11_reach 4 = .ok (.ifCond .eq 6, 3) := by decide +kernel
theorem dX11_reach_7 : decode cX11_reach 7 = .ok (.bipush (-103), 2) := by decide +kernel
theorem dX11_reach_9 : decode cX11_reach 9 = .ok (.ireturn, 1) := by decide +kernel
theorem dX11_reach_10 : decode cX11_reach 10 = .ok (.iload_n 1, 1) := by decide +kernel
theorem dX11_reach_11 : decode cX11_reach 11 = .ok (.iconst (-1), 1) := by decide +kernel
theorem dX11_reach_12 : decode cX11_reach 12 = .ok (.iconst 5, 1) := by decide +kernel
theorem dX11_reach_13 : decode cX11_reach 13 = .ok (.invokestatic 86, 3) := by decide +kernel
theorem dX11_reach_16 : decode cX11_reach 16 = .ok (.ifCond .eq 21, 3) := by decide +kernel
theorem dX11_reach_19 : decode cX11_reach 19 = .ok (.iload_n 2, 1) := by decide +kernel
theorem dX11_reach_20 : decode cX11_reach 20 = .ok (.iconst (-1), 1) := by decide +kernel
theorem dX11_reach_21 : decode cX11_reach 21 = .ok (.iconst 5, 1) := by decide +kernel
theorem dX11_reach_22 : decode cX11_reach 22 = .ok (.invokestatic 86, 3) := by decide +kernel
theorem dX11_reach_25 : decode cX11_reach 25 = .ok (.ifCond .eq 12, 3) := by decide +kernel
theorem dX11_reach_28 : decode cX11_reach 28 = .ok (.iload_n 3, 1) := by decide +kernel
theorem dX11_reach_29 : decode cX11_reach 29 = .ok (.iconst (-1), 1) := by decide +kernel
theorem dX11_reach_30 : decode cX11_reach 30 = .ok (.iconst 5, 1) := by decide +kernel
theorem dX11_reach_31 : decode cX11_reach 31 = .ok (.invokestatic 86, 3) := by decide +kernel
theorem dX11_reach_34 : decode cX11_reach 34 = .ok (.ifCond .ne 6, 3) := by decide +kernel
theorem dX11_reach_37 : decode cX11_reach 37 = .ok (.bipush (-102), 2) := by decide +kernel
theorem dX11_reach_39 : decode cX11_reach 39 = .ok (.ireturn, 1) := by decide +kernel
theorem dX11_reach_40 : decode cX11_reach 40 = .ok (.iconst 0, 1) := by decide +kernel
theorem dX11_reach_41 : decode cX11_reach 41 = .ok (.istore 4, 2) := by decide +kernel
theorem dX11_reach_43 : decode cX11_reach 43 = .ok (.iload 4, 2) := by decide +kernel
theorem dX11_reach_45 : decode cX11_reach 45 = .ok (.aload_n 0, 1) := by decide +kernel
theorem dX11_reach_46 : decode cX11_reach 46 = .ok (.getfield 94, 3) := by decide +kernel
theorem dX11_reach_49 : decode cX11_reach 49 = .ok (.if_icmp .ge 67, 3) := by decide +kernel
theorem dX11_reach_52 : decode cX11_reach 52 = .ok (.iload_n 1, 1) := by decide +kernel
theorem dX11_reach_53 : decode cX11_reach 53 = .ok (.ifCond .lt 16, 3) := by decide +kernel
theorem dX11_reach_56 : decode cX11_reach 56 = .ok (.aload_n 0, 1) := by decide +kernel
theorem dX11_reach_57 : decode cX11_reach 57 = .ok (.getfield 41, 3) := by decide +kernel
theorem dX11_reach_60 : decode cX11_reach 60 = .ok (.iconst 3, 1) := by decide +kernel
theorem dX11_reach_61 : decode cX11_reach 61 = .ok (.iload 4, 2) := by decide +kernel
theorem dX11_reach_63 : decode cX11_reach 63 = .ok (.imul, 1) := by decide +kernel
theorem dX11_reach_64 : decode cX11_reach 64 = .ok (.iaload, 1) := by decide +kernel
theorem dX11_reach_65 : decode cX11_reach 65 = .ok (.iload_n 1, 1) := by decide +kernel
theorem dX11_reach_66 : decode cX11_reach 66 = .ok (.if_icmp .ne 44, 3) := by decide +kernel
theorem dX11_reach_69 : decode cX11_reach 69 = .ok (.iload_n 2, 1) := by decide +kernel
theorem dX11_reach_70 : decode cX11_reach 70 = .ok (.ifCond .lt 18, 3) := by decide +kernel
theorem dX11_reach_73 : decode cX11_reach 73 = .ok (.aload_n 0, 1) := by decide +kernel
theorem dX11_reach_74 : decode cX11_reach 74 = .ok (.getfield 41, 3) := by decide +kernel
theorem dX11_reach_77 : decode cX11_reach 77 = .ok (.iconst 3, 1) := by decide +kernel
theorem dX11_reach_78 : decode cX11_reach 78 = .ok (.iload 4, 2) := by decide +kernel
theorem dX11_reach_80 : decode cX11_reach 80 = .ok (.imul, 1) := by decide +kernel
theorem dX11_reach_81 : decode cX11_reach 81 = .ok (.iconst 1, 1) := by decide +kernel
theorem dX11_reach_82 : decode cX11_reach 82 = .ok (.iadd, 1) := by decide +kernel
theorem dX11_reach_83 : decode cX11_reach 83 = .ok (.iaload, 1) := by decide +kernel
theorem dX11_reach_84 : decode cX11_reach 84 = .ok (.iload_n 2, 1) := by decide +kernel
theorem dX11_reach_85 : decode cX11_reach 85 = .ok (.if_icmp .ne 25, 3) := by decide +kernel
theorem dX11_reach_88 : decode cX11_reach 88 = .ok (.iload_n 3, 1) := by decide +kernel
theorem dX11_reach_89 : decode cX11_reach 89 = .ok (.ifCond .lt 18, 3) := by decide +kernel
theorem dX11_reach_92 : decode cX11_reach 92 = .ok (.aload_n 0, 1) := by decide +kernel
theorem dX11_reach_93 : decode cX11_reach 93 = .ok (.getfield 41, 3) := by decide +kernel
theorem dX11_reach_96 : decode cX11_reach 96 = .ok (.iconst 3, 1) := by decide +kernel
theorem dX11_reach_97 : decode cX11_reach 97 = .ok (.iload 4, 2) := by decide +kernel
theorem dX11_reach_99 : decode cX11_reach 99 = .ok (.imul, 1) := by decide +kernel
theorem dX11_reach_100 : decode cX11_reach 100 = .ok (.iconst 2, 1) := by decide +kernel
theorem dX11_reach_101 : decode cX11_reach 101 = .ok (.iadd, 1) := by decide +kernel
theorem dX11_reach_102 : decode cX11_reach 102 = .ok (.iaload, 1) := by decide +kernel
theorem dX11_reach_103 : decode cX11_reach 103 = .ok (.iload_n 3, 1) := by decide +kernel
theorem dX11_reach_104 : decode cX11_reach 104 = .ok (.if_icmp .ne 6, 3) := by decide +kernel
theorem dX11_reach_107 : decode cX11_reach 107 = .ok (.iload 4, 2) := by decide +kernel
theorem dX11_reach_109 : decode cX11_reach 109 = .ok (.ireturn, 1) := by decide +kernel
theorem dX11_reach_110 : decode cX11_reach 110 = .ok (.iinc 4 1, 3) := by decide +kernel
theorem dX11_reach_113 : decode cX11_reach 113 = .ok (.goto (-70), 3) := by decide +kernel
theorem dX11_reach_116 : decode cX11_reach 116 = .ok (.iconst (-1), 1) := by decide +kernel
theorem dX11_reach_117 : decode cX11_reach 117 = .ok (.ireturn, 1) := by decide +kernel
theorem dX11_holds_0 : decode cX11_holds 0 = .ok (.iconst 1, 1) := by decide +kernel
theorem dX11_holds_1 : decode cX11_holds 1 = .ok (.istore_n 2, 1) := by decide +kernel
theorem dX11_holds_2 : decode cX11_holds 2 = .ok (.iconst 0, 1) := by decide +kernel
theorem dX11_holds_3 : decode cX11_holds 3 = .ok (.istore_n 3, 1) := by decide +kernel
theorem dX11_holds_4 : decode cX11_holds 4 = .ok (.iload_n 3, 1) := by decide +kernel
theorem dX11_holds_5 : decode cX11_holds 5 = .ok (.iconst 4, 1) := by decide +kernel
theorem dX11_holds_6 : decode cX11_holds 6 = .ok (.if_icmp .ge 101, 3) := by decide +kernel
theorem dX11_holds_9 : decode cX11_holds 9 = .ok (.iconst 0, 1) := by decide +kernel
theorem dX11_holds_10 : decode cX11_holds 10 = .ok (.istore 4, 2) := by decide +kernel
theorem dX11_holds_12 : decode cX11_holds 12 = .ok (.iload 4, 2) := by decide +kernel
theorem dX11_holds_14 : decode cX11_holds 14 = .ok (.iconst 4, 1) := by decide +kernel
theorem dX11_holds_15 : decode cX11_holds 15 = .ok (.if_icmp .ge 86, 3) := by decide +kernel
theorem dX11_holds_18 : decode cX11_holds 18 = .ok (.aload_n 0, 1) := by decide +kernel
theorem dX11_holds_19 : decode cX11_holds 19 = .ok (.getfield 44, 3) := by decide +kernel
theorem dX11_holds_22 : decode cX11_holds 22 = .ok (.bipush 16, 2) := by decide +kernel
theorem dX11_holds_24 : decode cX11_holds 24 = .ok (.iload_n 1, 1) := by decide +kernel
theorem dX11_holds_25 : decode cX11_holds 25 = .ok (.imul, 1) := by decide +kernel
theorem dX11_holds_26 : decode cX11_holds 26 = .ok (.iconst 4, 1) := by decide +kernel
theorem dX11_holds_27 : decode cX11_holds 27 = .ok (.iload_n 3, 1) := by decide +kernel
theorem dX11_holds_28 : decode cX11_holds 28 = .ok (.imul, 1) := by decide +kernel
theorem dX11_holds_29 : decode cX11_holds 29 = .ok (.iadd, 1) := by decide +kernel
theorem dX11_holds_30 : decode cX11_holds 30 = .ok (.iload 4, 2) := by decide +kernel
theorem dX11_holds_32 : decode cX11_holds 32 = .ok (.iadd, 1) := by decide +kernel
theorem dX11_holds_33 : decode cX11_holds 33 = .ok (.iaload, 1) := by decide +kernel
theorem dX11_holds_34 : decode cX11_holds 34 = .ok (.istore 5, 2) := by decide +kernel
theorem dX11_holds_36 : decode cX11_holds 36 = .ok (.aload_n 0, 1) := by decide +kernel
theorem dX11_holds_37 : decode cX11_holds 37 = .ok (.getfield 68, 3) := by decide +kernel
theorem dX11_holds_40 : decode cX11_holds 40 = .ok (.iload_n 3, 1) := by decide +kernel
theorem dX11_holds_41 : decode cX11_holds 41 = .ok (.iaload, 1) := by decide +kernel
theorem dX11_holds_42 : decode cX11_holds 42 = .ok (.aload_n 0, 1) := by decide +kernel
theorem dX11_holds_43 : decode cX11_holds 43 = .ok (.getfield 68, 3) := by decide +kernel
theorem dX11_holds_46 : decode cX11_holds 46 = .ok (.iload 4, 2) := by decide +kernel
theorem dX11_holds_48 : decode cX11_holds 48 = .ok (.iaload, 1) := by decide +kernel
theorem dX11_holds_49 : decode cX11_holds 49 = .ok (.isub, 1) := by decide +kernel
theorem dX11_holds_50 : decode cX11_holds 50 = .ok (.bipush 64, 2) := by decide +kernel
theorem dX11_holds_52 : decode cX11_holds 52 = .ok (.iload 5, 2) := by decide +kernel
theorem dX11_holds_54 : decode cX11_holds 54 = .ok (.iconst 1, 1) := by decide +kernel
theorem dX11_holds_55 : decode cX11_holds 55 = .ok (.ishr, 1) := by decide +kernel
theorem dX11_holds_56 : decode cX11_holds 56 = .ok (.imul, 1) := by decide +kernel
theorem dX11_holds_57 : decode cX11_holds 57 = .ok (.isub, 1) := by decide +kernel
theorem dX11_holds_58 : decode cX11_holds 58 = .ok (.istore 6, 2) := by decide +kernel
theorem dX11_holds_60 : decode cX11_holds 60 = .ok (.iload_n 2, 1) := by decide +kernel
theorem dX11_holds_61 : decode cX11_holds 61 = .ok (.ifCond .eq 32, 3) := by decide +kernel
theorem dX11_holds_64 : decode cX11_holds 64 = .ok (.iload 5, 2) := by decide +kernel
theorem dX11_holds_66 : decode cX11_holds 66 = .ok (.ldc 113, 2) := by decide +kernel
theorem dX11_holds_68 : decode cX11_holds 68 = .ok (.if_icmp .eq 21, 3) := by decide +kernel
theorem dX11_holds_71 : decode cX11_holds 71 = .ok (.iload 6, 2) := by decide +kernel
theorem dX11_holds_73 : decode cX11_holds 73 = .ok (.ifCond .lt 16, 3) := by decide +kernel
theorem dX11_holds_76 : decode cX11_holds 76 = .ok (.iload 6, 2) := by decide +kernel
theorem dX11_holds_78 : decode cX11_holds 78 = .ok (.ifCond .ne 15, 3) := by decide +kernel
theorem dX11_holds_81 : decode cX11_holds 81 = .ok (.iload 5, 2) := by decide +kernel
theorem dX11_holds_83 : decode cX11_holds 83 = .ok (.iconst 1, 1) := by decide +kernel
theorem dX11_holds_84 : decode cX11_holds 84 = .ok (.iand, 1) := by decide +kernel
theorem dX11_holds_85 : decode cX11_holds 85 = .ok (.iconst 1, 1) := by decide +kernel
theorem dX11_holds_86 : decode cX11_holds 86 = .ok (.if_icmp .ne 7, 3) := by decide +kernel
theorem dX11_holds_89 : decode cX11_holds 89 = .ok (.iconst 1, 1) := by decide +kernel
theorem dX11_holds_90 : decode cX11_holds 90 = .ok (.goto 4, 3) := by decide +kernel
theorem dX11_holds_93 : decode cX11_holds 93 = .ok (.iconst 0, 1) := by decide +kernel
theorem dX11_holds_94 : decode cX11_holds 94 = .ok (.istore_n 2, 1) := by decide +kernel
theorem dX11_holds_95 : decode cX11_holds 95 = .ok (.iinc 4 1, 3) := by decide +kernel
theorem dX11_holds_98 : decode cX11_holds 98 = .ok (.goto (-86), 3) := by decide +kernel
theorem dX11_holds_101 : decode cX11_holds 101 = .ok (.iinc 3 1, 3) := by decide +kernel
theorem dX11_holds_104 : decode cX11_holds 104 = .ok (.goto (-100), 3) := by decide +kernel
theorem dX11_holds_107 : decode cX11_holds 107 = .ok (.iload_n 2, 1) := by decide +kernel
theorem dX11_holds_108 : decode cX11_holds 108 = .ok (.ireturn, 1) := by decide +kernel
theorem dX11_has_0 : decode cX11_has 0 = .ok (.aload_n 0, 1) := by decide +kernel
theorem dX11_has_1 : decode cX11_has 1 = .ok (.getfield 37, 3) := by decide +kernel
theorem dX11_has_4 : decode cX11_has 4 = .ok (.ifCond .eq 6, 3) := by decide +kernel
theorem dX11_has_7 : decode cX11_has 7 = .ok (.bipush (-103), 2) := by decide +kernel
theorem dX11_has_9 : decode cX11_has 9 = .ok (.ireturn, 1) := by decide +kernel
theorem dX11_has_10 : decode cX11_has 10 = .ok (.aload_n 0, 1) := by decide +kernel
theorem dX11_has_11 : decode cX11_has 11 = .ok (.iload_n 1, 1) := by decide +kernel
theorem dX11_has_12 : decode cX11_has 12 = .ok (.invokevirtual 165, 3) := by decide +kernel
theorem dX11_has_15 : decode cX11_has 15 = .ok (.ifCond .ne 6, 3) := by decide +kernel
theorem dX11_has_18 : decode cX11_has 18 = .ok (.bipush (-101), 2) := by decide +kernel
theorem dX11_has_20 : decode cX11_has 20 = .ok (.ireturn, 1) := by decide +kernel
theorem dX11_has_21 : decode cX11_has 21 = .ok (.iload_n 2, 1) := by decide +kernel
theorem dX11_has_22 : decode cX11_has 22 = .ok (.iconst 0, 1) := by decide +kernel
theorem dX11_has_23 : decode cX11_has 23 = .ok (.ldc 173, 2) := by decide +kernel
theorem dX11_has_25 : decode cX11_has 25 = .ok (.invokestatic 86, 3) := by decide +kernel
theorem dX11_has_28 : decode cX11_has 28 = .ok (.ifCond .eq 24, 3) := by decide +kernel
theorem dX11_has_31 : decode cX11_has 31 = .ok (.iload_n 3, 1) := by decide +kernel
theorem dX11_has_32 : decode cX11_has 32 = .ok (.iconst 0, 1) := by decide +kernel
theorem dX11_has_33 : decode cX11_has 33 = .ok (.ldc 173, 2) := by decide +kernel
theorem dX11_has_35 : decode cX11_has 35 = .ok (.invokestatic 86, 3) := by decide +kernel
theorem dX11_has_38 : decode cX11_has 38 = .ok (.ifCond .eq 14, 3) := by decide +kernel
theorem dX11_has_41 : decode cX11_has 41 = .ok (.iload 4, 2) := by decide +kernel
theorem dX11_has_43 : decode cX11_has 43 = .ok (.iconst 0, 1) := by decide +kernel
theorem dX11_has_44 : decode cX11_has 44 = .ok (.ldc 173, 2) := by decide +kernel
theorem dX11_has_46 : decode cX11_has 46 = .ok (.invokestatic 86, 3) := by decide +kernel
theorem dX11_has_49 : decode cX11_has 49 = .ok (.ifCond .ne 6, 3) := by decide +kernel
theorem dX11_has_52 : decode cX11_has 52 = .ok (.bipush (-102), 2) := by decide +kernel
theorem dX11_has_54 : decode cX11_has 54 = .ok (.ireturn, 1) := by decide +kernel
theorem dX11_has_55 : decode cX11_has 55 = .ok (.aload_n 0, 1) := by decide +kernel
theorem dX11_has_56 : decode cX11_has 56 = .ok (.getfield 68, 3) := by decide +kernel
theorem dX11_has_59 : decode cX11_has 59 = .ok (.iconst 0, 1) := by decide +kernel
theorem dX11_has_60 : decode cX11_has 60 = .ok (.iconst 0, 1) := by decide +kernel
theorem dX11_has_61 : decode cX11_has 61 = .ok (.iastore, 1) := by decide +kernel
theorem dX11_has_62 : decode cX11_has 62 = .ok (.aload_n 0, 1) := by decide +kernel
theorem dX11_has_63 : decode cX11_has 63 = .ok (.getfield 68, 3) := by decide +kernel
theorem dX11_has_66 : decode cX11_has 66 = .ok (.iconst 1, 1) := by decide +kernel
theorem dX11_has_67 : decode cX11_has 67 = .ok (.iload_n 2, 1) := by decide +kernel
theorem dX11_has_68 : decode cX11_has 68 = .ok (.iastore, 1) := by decide +kernel
theorem dX11_has_69 : decode cX11_has 69 = .ok (.aload_n 0, 1) := by decide +kernel
theorem dX11_has_70 : decode cX11_has 70 = .ok (.getfield 68, 3) := by decide +kernel
theorem dX11_has_73 : decode cX11_has 73 = .ok (.iconst 2, 1) := by decide +kernel
theorem dX11_has_74 : decode cX11_has 74 = .ok (.iload_n 3, 1) := by decide +kernel
theorem dX11_has_75 : decode cX11_has 75 = .ok (.iastore, 1) := by decide +kernel
theorem dX11_has_76 : decode cX11_has 76 = .ok (.aload_n 0, 1) := by decide +kernel
theorem dX11_has_77 : decode cX11_has 77 = .ok (.getfield 68, 3) := by decide +kernel
theorem dX11_has_80 : decode cX11_has 80 = .ok (.iconst 3, 1) := by decide +kernel
theorem dX11_has_81 : decode cX11_has 81 = .ok (.iload 4, 2) := by decide +kernel
theorem dX11_has_83 : decode cX11_has 83 = .ok (.iastore, 1) := by decide +kernel
theorem dX11_has_84 : decode cX11_has 84 = .ok (.aload_n 0, 1) := by decide +kernel
theorem dX11_has_85 : decode cX11_has 85 = .ok (.iload_n 1, 1) := by decide +kernel
theorem dX11_has_86 : decode cX11_has 86 = .ok (.invokevirtual 174, 3) := by decide +kernel
theorem dX11_has_89 : decode cX11_has 89 = .ok (.ifCond .eq 7, 3) := by decide +kernel
theorem dX11_has_92 : decode cX11_has 92 = .ok (.iconst 1, 1) := by decide +kernel
theorem dX11_has_93 : decode cX11_has 93 = .ok (.goto 4, 3) := by decide +kernel
theorem dX11_has_96 : decode cX11_has 96 = .ok (.iconst 0, 1) := by decide +kernel
theorem dX11_has_97 : decode cX11_has 97 = .ok (.ireturn, 1) := by decide +kernel
theorem dX11_layOut_0 : decode cX11_layOut 0 = .ok (.iload_n 1, 1) := by decide +kernel
theorem dX11_layOut_1 : decode cX11_layOut 1 = .ok (.istore_n 2, 1) := by decide +kernel
theorem dX11_layOut_2 : decode cX11_layOut 2 = .ok (.aload_n 0, 1) := by decide +kernel
theorem dX11_layOut_3 : decode cX11_layOut 3 = .ok (.getfield 56, 3) := by decide +kernel
theorem dX11_layOut_6 : decode cX11_layOut 6 = .ok (.iload_n 1, 1) := by decide +kernel
theorem dX11_layOut_7 : decode cX11_layOut 7 = .ok (.iaload, 1) := by decide +kernel
theorem dX11_layOut_8 : decode cX11_layOut 8 = .ok (.istore_n 3, 1) := by decide +kernel
theorem dX11_layOut_9 : decode cX11_layOut 9 = .ok (.iload_n 3, 1) := by decide +kernel
theorem dX11_layOut_10 : decode cX11_layOut 10 = .ok (.ifCond .lt 23, 3) := by decide +kernel
theorem dX11_layOut_13 : decode cX11_layOut 13 = .ok (.aload_n 0, 1) := by decide +kernel
theorem dX11_layOut_14 : decode cX11_layOut 14 = .ok (.getfield 71, 3) := by decide +kernel
theorem dX11_layOut_17 : decode cX11_layOut 17 = .ok (.iload_n 3, 1) := by decide +kernel
theorem dX11_layOut_18 : decode cX11_layOut 18 = .ok (.iload_n 2, 1) := by decide +kernel
theorem dX11_layOut_19 : decode cX11_layOut 19 = .ok (.iastore, 1) := by decide +kernel
theorem dX11_layOut_20 : decode cX11_layOut 20 = .ok (.aload_n 0, 1) := by decide +kernel
theorem dX11_layOut_21 : decode cX11_layOut 21 = .ok (.getfield 47, 3) := by decide +kernel
theorem dX11_layOut_24 : decode cX11_layOut 24 = .ok (.iload_n 2, 1) := by decide +kernel
theorem dX11_layOut_25 : decode cX11_layOut 25 = .ok (.iaload, 1) := by decide +kernel
theorem dX11_layOut_26 : decode cX11_layOut 26 = .ok (.istore_n 2, 1) := by decide +kernel
theorem dX11_layOut_27 : decode cX11_layOut 27 = .ok (.iinc 3 (-1), 3) := by decide +kernel
theorem dX11_layOut_30 : decode cX11_layOut 30 = .ok (.goto (-21), 3) := by decide +kernel
theorem dX11_layOut_33 : decode cX11_layOut 33 = .ok (.aload_n 0, 1) := by decide +kernel
theorem dX11_layOut_34 : decode cX11_layOut 34 = .ok (.getfield 56, 3) := by decide +kernel
theorem dX11_layOut_37 : decode cX11_layOut 37 = .ok (.iload_n 1, 1) := by decide +kernel
theorem dX11_layOut_38 : decode cX11_layOut 38 = .ok (.iaload, 1) := by decide +kernel
theorem dX11_layOut_39 : decode cX11_layOut 39 = .ok (.ireturn, 1) := by decide +kernel
theorem dX11_way_0 : decode cX11_way 0 = .ok (.aload_n 0, 1) := by decide +kernel
theorem dX11_way_1 : decode cX11_way 1 = .ok (.getfield 37, 3) := by decide +kernel
theorem dX11_way_4 : decode cX11_way 4 = .ok (.ifCond .eq 6, 3) := by decide +kernel
theorem dX11_way_7 : decode cX11_way 7 = .ok (.bipush (-103), 2) := by decide +kernel
theorem dX11_way_9 : decode cX11_way 9 = .ok (.ireturn, 1) := by decide +kernel
theorem dX11_way_10 : decode cX11_way 10 = .ok (.aload_n 0, 1) := by decide +kernel
theorem dX11_way_11 : decode cX11_way 11 = .ok (.iload_n 1, 1) := by decide +kernel
theorem dX11_way_12 : decode cX11_way 12 = .ok (.invokevirtual 165, 3) := by decide +kernel
theorem dX11_way_15 : decode cX11_way 15 = .ok (.ifCond .eq 19, 3) := by decide +kernel
theorem dX11_way_18 : decode cX11_way 18 = .ok (.iload_n 2, 1) := by decide +kernel
theorem dX11_way_19 : decode cX11_way 19 = .ok (.iconst 0, 1) := by decide +kernel
theorem dX11_way_20 : decode cX11_way 20 = .ok (.aload_n 0, 1) := by decide +kernel
theorem dX11_way_21 : decode cX11_way 21 = .ok (.getfield 56, 3) := by decide +kernel
theorem dX11_way_24 : decode cX11_way 24 = .ok (.iload_n 1, 1) := by decide +kernel
theorem dX11_way_25 : decode cX11_way 25 = .ok (.iaload, 1) := by decide +kernel
theorem dX11_way_26 : decode cX11_way 26 = .ok (.iconst 1, 1) := by decide +kernel
theorem dX11_way_27 : decode cX11_way 27 = .ok (.isub, 1) := by decide +kernel
theorem dX11_way_28 : decode cX11_way 28 = .ok (.invokestatic 86, 3) := by decide +kernel
theorem dX11_way_31 : decode cX11_way 31 = .ok (.ifCond .ne 6, 3) := by decide +kernel
theorem dX11_way_34 : decode cX11_way 34 = .ok (.bipush (-101), 2) := by decide +kernel
theorem dX11_way_36 : decode cX11_way 36 = .ok (.ireturn, 1) := by decide +kernel
theorem dX11_way_37 : decode cX11_way 37 = .ok (.iload_n 3, 1) := by decide +kernel
theorem dX11_way_38 : decode cX11_way 38 = .ok (.iconst 0, 1) := by decide +kernel
theorem dX11_way_39 : decode cX11_way 39 = .ok (.iconst 1, 1) := by decide +kernel
theorem dX11_way_40 : decode cX11_way 40 = .ok (.invokestatic 86, 3) := by decide +kernel
theorem dX11_way_43 : decode cX11_way 43 = .ok (.ifCond .ne 6, 3) := by decide +kernel
theorem dX11_way_46 : decode cX11_way 46 = .ok (.bipush (-102), 2) := by decide +kernel
theorem dX11_way_48 : decode cX11_way 48 = .ok (.ireturn, 1) := by decide +kernel
theorem dX11_way_49 : decode cX11_way 49 = .ok (.aload_n 0, 1) := by decide +kernel
theorem dX11_way_50 : decode cX11_way 50 = .ok (.iload_n 1, 1) := by decide +kernel
theorem dX11_way_51 : decode cX11_way 51 = .ok (.invokevirtual 177, 3) := by decide +kernel
theorem dX11_way_54 : decode cX11_way 54 = .ok (.pop, 1) := by decide +kernel
theorem dX11_way_55 : decode cX11_way 55 = .ok (.iload_n 3, 1) := by decide +kernel
theorem dX11_way_56 : decode cX11_way 56 = .ok (.ifCond .ne 19, 3) := by decide +kernel
theorem dX11_way_59 : decode cX11_way 59 = .ok (.aload_n 0, 1) := by decide +kernel
theorem dX11_way_60 : decode cX11_way 60 = .ok (.getfield 50, 3) := by decide +kernel
theorem dX11_way_63 : decode cX11_way 63 = .ok (.aload_n 0, 1) := by decide +kernel
theorem dX11_way_64 : decode cX11_way 64 = .ok (.getfield 71, 3) := by decide +kernel
theorem dX11_way_67 : decode cX11_way 67 = .ok (.iload_n 2, 1) := by decide +kernel
theorem dX11_way_68 : decode cX11_way 68 = .ok (.iconst 1, 1) := by decide +kernel
theorem dX11_way_69 : decode cX11_way 69 = .ok (.iadd, 1) := by decide +kernel
theorem dX11_way_70 : decode cX11_way 70 = .ok (.iaload, 1) := by decide +kernel
theorem dX11_way_71 : decode cX11_way 71 = .ok (.iaload, 1) := by decide +kernel
theorem dX11_way_72 : decode cX11_way 72 = .ok (.goto 16, 3) := by decide +kernel
theorem dX11_way_75 : decode cX11_way 75 = .ok (.aload_n 0, 1) := by decide +kernel
theorem dX11_way_76 : decode cX11_way 76 = .ok (.getfield 53, 3) := by decide +kernel
theorem dX11_way_79 : decode cX11_way 79 = .ok (.aload_n 0, 1) := by decide +kernel
theorem dX11_way_80 : decode cX11_way 80 = .ok (.getfield 71, 3) := by decide +kernel
theorem dX11_way_83 : decode cX11_way 83 = .ok (.iload_n 2, 1) := by decide +kernel
theorem dX11_way_84 : decode cX11_way 84 = .ok (.iconst 1, 1) := by decide +kernel
theorem dX11_way_85 : decode cX11_way 85 = .ok (.iadd, 1) := by decide +kernel
theorem dX11_way_86 : decode cX11_way 86 = .ok (.iaload, 1) := by decide +kernel
theorem dX11_way_87 : decode cX11_way 87 = .ok (.iaload, 1) := by decide +kernel
theorem dX11_way_88 : decode cX11_way 88 = .ok (.ireturn, 1) := by decide +kernel
theorem dX11_behind_0 : decode cX11_behind 0 = .ok (.aload_n 0, 1) := by decide +kernel
theorem dX11_behind_1 : decode cX11_behind 1 = .ok (.getfield 74, 3) := by decide +kernel
theorem dX11_behind_4 : decode cX11_behind 4 = .ok (.iload_n 1, 1) := by decide +kernel
theorem dX11_behind_5 : decode cX11_behind 5 = .ok (.iaload, 1) := by decide +kernel
theorem dX11_behind_6 : decode cX11_behind 6 = .ok (.aload_n 0, 1) := by decide +kernel
theorem dX11_behind_7 : decode cX11_behind 7 = .ok (.getfield 74, 3) := by decide +kernel
theorem dX11_behind_10 : decode cX11_behind 10 = .ok (.iload_n 2, 1) := by decide +kernel
theorem dX11_behind_11 : decode cX11_behind 11 = .ok (.iaload, 1) := by decide +kernel
theorem dX11_behind_12 : decode cX11_behind 12 = .ok (.iload_n 3, 1) := by decide +kernel
theorem dX11_behind_13 : decode cX11_behind 13 = .ok (.iadd, 1) := by decide +kernel
theorem dX11_behind_14 : decode cX11_behind 14 = .ok (.if_icmp .ge 22, 3) := by decide +kernel
theorem dX11_behind_17 : decode cX11_behind 17 = .ok (.aload_n 0, 1) := by decide +kernel
theorem dX11_behind_18 : decode cX11_behind 18 = .ok (.getfield 74, 3) := by decide +kernel
theorem dX11_behind_21 : decode cX11_behind 21 = .ok (.iload_n 1, 1) := by decide +kernel
theorem dX11_behind_22 : decode cX11_behind 22 = .ok (.aload_n 0, 1) := by decide +kernel
theorem dX11_behind_23 : decode cX11_behind 23 = .ok (.getfield 74, 3) := by decide +kernel
theorem dX11_behind_26 : decode cX11_behind 26 = .ok (.iload_n 2, 1) := by decide +kernel
theorem dX11_behind_27 : decode cX11_behind 27 = .ok (.iaload, 1) := by decide +kernel
theorem dX11_behind_28 : decode cX11_behind 28 = .ok (.iload_n 3, 1) := by decide +kernel
theorem dX11_behind_29 : decode cX11_behind 29 = .ok (.iadd, 1) := by decide +kernel
theorem dX11_behind_30 : decode cX11_behind 30 = .ok (.iastore, 1) := by decide +kernel
theorem dX11_behind_31 : decode cX11_behind 31 = .ok (.aload_n 0, 1) := by decide +kernel
theorem dX11_behind_32 : decode cX11_behind 32 = .ok (.iconst 1, 1) := by decide +kernel
theorem dX11_behind_33 : decode cX11_behind 33 = .ok (.putfield 180, 3) := by decide +kernel
theorem dX11_behind_36 : decode cX11_behind 36 = .ok (.return_, 1) := by decide +kernel
theorem dX11_ask_0 : decode cX11_ask 0 = .ok (.iload_n 3, 1) := by decide +kernel
theorem dX11_ask_1 : decode cX11_ask 1 = .ok (.iconst 3, 1) := by decide +kernel
theorem dX11_ask_2 : decode cX11_ask 2 = .ok (.if_icmp .ge 24, 3) := by decide +kernel
theorem dX11_ask_5 : decode cX11_ask 5 = .ok (.aload_n 0, 1) := by decide +kernel
theorem dX11_ask_6 : decode cX11_ask 6 = .ok (.iload_n 2, 1) := by decide +kernel
theorem dX11_ask_7 : decode cX11_ask 7 = .ok (.iload_n 1, 1) := by decide +kernel
theorem dX11_ask_8 : decode cX11_ask 8 = .ok (.bipush (-64), 2) := by decide +kernel
theorem dX11_ask_10 : decode cX11_ask 10 = .ok (.iload 4, 2) := by decide +kernel
theorem dX11_ask_12 : decode cX11_ask 12 = .ok (.imul, 1) := by decide +kernel
theorem dX11_ask_13 : decode cX11_ask 13 = .ok (.iload_n 3, 1) := by decide +kernel
theorem dX11_ask_14 : decode cX11_ask 14 = .ok (.ifCond .ne 7, 3) := by decide +kernel
theorem dX11_ask_17 : decode cX11_ask 17 = .ok (.iconst 1, 1) := by decide +kernel
theorem dX11_ask_18 : decode cX11_ask 18 = .ok (.goto 4, 3) := by decide +kernel
theorem dX11_ask_21 : decode cX11_ask 21 = .ok (.iconst 0, 1) := by decide +kernel
theorem dX11_ask_22 : decode cX11_ask 22 = .ok (.iadd, 1) := by decide +kernel
theorem dX11_ask_23 : decode cX11_ask 23 = .ok (.invokevirtual 183, 3) := by decide +kernel
theorem dX11_ask_26 : decode cX11_ask 26 = .ok (.iload_n 3, 1) := by decide +kernel
theorem dX11_ask_27 : decode cX11_ask 27 = .ok (.iconst 1, 1) := by decide +kernel
theorem dX11_ask_28 : decode cX11_ask 28 = .ok (.if_icmp .le 25, 3) := by decide +kernel
theorem dX11_ask_31 : decode cX11_ask 31 = .ok (.aload_n 0, 1) := by decide +kernel
theorem dX11_ask_32 : decode cX11_ask 32 = .ok (.iload_n 1, 1) := by decide +kernel
theorem dX11_ask_33 : decode cX11_ask 33 = .ok (.iload_n 2, 1) := by decide +kernel
theorem dX11_ask_34 : decode cX11_ask 34 = .ok (.bipush 64, 2) := by decide +kernel
theorem dX11_ask_36 : decode cX11_ask 36 = .ok (.iload 4, 2) := by decide +kernel
theorem dX11_ask_38 : decode cX11_ask 38 = .ok (.imul, 1) := by decide +kernel
theorem dX11_ask_39 : decode cX11_ask 39 = .ok (.iload_n 3, 1) := by decide +kernel
theorem dX11_ask_40 : decode cX11_ask 40 = .ok (.iconst 4, 1) := by decide +kernel
theorem dX11_ask_41 : decode cX11_ask 41 = .ok (.if_icmp .ne 7, 3) := by decide +kernel
theorem dX11_ask_44 : decode cX11_ask 44 = .ok (.iconst 1, 1) := by decide +kernel
theorem dX11_ask_45 : decode cX11_ask 45 = .ok (.goto 4, 3) := by decide +kernel
theorem dX11_ask_48 : decode cX11_ask 48 = .ok (.iconst 0, 1) := by decide +kernel
theorem dX11_ask_49 : decode cX11_ask 49 = .ok (.iadd, 1) := by decide +kernel
theorem dX11_ask_50 : decode cX11_ask 50 = .ok (.invokevirtual 183, 3) := by decide +kernel
theorem dX11_ask_53 : decode cX11_ask 53 = .ok (.return_, 1) := by decide +kernel
theorem dX11_setAt_0 : decode cX11_setAt 0 = .ok (.iload_n 2, 1) := by decide +kernel
theorem dX11_setAt_1 : decode cX11_setAt 1 = .ok (.istore_n 3, 1) := by decide +kernel
theorem dX11_setAt_2 : decode cX11_setAt 2 = .ok (.iload_n 3, 1) := by decide +kernel
theorem dX11_setAt_3 : decode cX11_setAt 3 = .ok (.ifCond .le 68, 3) := by decide +kernel
theorem dX11_setAt_6 : decode cX11_setAt 6 = .ok (.aload_n 0, 1) := by decide +kernel
theorem dX11_setAt_7 : decode cX11_setAt 7 = .ok (.getfield 22, 3) := by decide +kernel
theorem dX11_setAt_10 : decode cX11_setAt 10 = .ok (.aload_n 0, 1) := by decide +kernel
theorem dX11_setAt_11 : decode cX11_setAt 11 = .ok (.getfield 50, 3) := by decide +kernel
theorem dX11_setAt_14 : decode cX11_setAt 14 = .ok (.aload_n 0, 1) := by decide +kernel
theorem dX11_setAt_15 : decode cX11_setAt 15 = .ok (.getfield 71, 3) := by decide +kernel
theorem dX11_setAt_18 : decode cX11_setAt 18 = .ok (.iload_n 3, 1) := by decide +kernel
theorem dX11_setAt_19 : decode cX11_setAt 19 = .ok (.iaload, 1) := by decide +kernel
theorem dX11_setAt_20 : decode cX11_setAt 20 = .ok (.iaload, 1) := by decide +kernel
theorem dX11_setAt_21 : decode cX11_setAt 21 = .ok (.iaload, 1) := by decide +kernel
theorem dX11_setAt_22 : decode cX11_setAt 22 = .ok (.aload_n 0, 1) := by decide +kernel
theorem dX11_setAt_23 : decode cX11_setAt 23 = .ok (.getfield 53, 3) := by decide +kernel
theorem dX11_setAt_26 : decode cX11_setAt 26 = .ok (.aload_n 0, 1) := by decide +kernel
theorem dX11_setAt_27 : decode cX11_setAt 27 = .ok (.getfield 71, 3) := by decide +kernel
theorem dX11_setAt_30 : decode cX11_setAt 30 = .ok (.iload_n 3, 1) := by decide +kernel
theorem dX11_setAt_31 : decode cX11_setAt 31 = .ok (.iaload, 1) := by decide +kernel
theorem dX11_setAt_32 : decode cX11_setAt 32 = .ok (.iaload, 1) := by decide +kernel
theorem dX11_setAt_33 : decode cX11_setAt 33 = .ok (.iconst (-1), 1) := by decide +kernel
theorem dX11_setAt_34 : decode cX11_setAt 34 = .ok (.if_icmp .ne 7, 3) := by decide +kernel
theorem dX11_setAt_37 : decode cX11_setAt 37 = .ok (.iconst 0, 1) := by decide +kernel
theorem dX11_setAt_38 : decode cX11_setAt 38 = .ok (.goto 19, 3) := by decide +kernel
theorem dX11_setAt_41 : decode cX11_setAt 41 = .ok (.aload_n 0, 1) := by decide +kernel
theorem dX11_setAt_42 : decode cX11_setAt 42 = .ok (.getfield 22, 3) := by decide +kernel
theorem dX11_setAt_45 : decode cX11_setAt 45 = .ok (.aload_n 0, 1) := by decide +kernel
theorem dX11_setAt_46 : decode cX11_setAt 46 = .ok (.getfield 53, 3) := by decide +kernel
theorem dX11_setAt_49 : decode cX11_setAt 49 = .ok (.aload_n 0, 1) := by decide +kernel
theorem dX11_setAt_50 : decode cX11_setAt 50 = .ok (.getfield 71, 3) := by decide +kernel
theorem dX11_setAt_53 : decode cX11_setAt 53 = .ok (.iload_n 3, 1) := by decide +kernel
theorem dX11_setAt_54 : decode cX11_setAt 54 = .ok (.iaload, 1) := by decide +kernel
theorem dX11_setAt_55 : decode cX11_setAt 55 = .ok (.iaload, 1) := by decide +kernel
theorem dX11_setAt_56 : decode cX11_setAt 56 = .ok (.iaload, 1) := by decide +kernel
theorem dX11_setAt_57 : decode cX11_setAt 57 = .ok (.ior, 1) := by decide +kernel
theorem dX11_setAt_58 : decode cX11_setAt 58 = .ok (.iload_n 1, 1) := by decide +kernel
theorem dX11_setAt_59 : decode cX11_setAt 59 = .ok (.ishr, 1) := by decide +kernel
theorem dX11_setAt_60 : decode cX11_setAt 60 = .ok (.iconst 1, 1) := by decide +kernel
theorem dX11_setAt_61 : decode cX11_setAt 61 = .ok (.iand, 1) := by decide +kernel
theorem dX11_setAt_62 : decode cX11_setAt 62 = .ok (.ifCond .ne 9, 3) := by decide +kernel
theorem dX11_setAt_65 : decode cX11_setAt 65 = .ok (.iinc 3 (-1), 3) := by decide +kernel
theorem dX11_setAt_68 : decode cX11_setAt 68 = .ok (.goto (-66), 3) := by decide +kernel
theorem dX11_setAt_71 : decode cX11_setAt 71 = .ok (.iload_n 3, 1) := by decide +kernel
theorem dX11_setAt_72 : decode cX11_setAt 72 = .ok (.ireturn, 1) := by decide +kernel
theorem dX11_askGuards_0 : decode cX11_askGuards 0 = .ok (.iconst 0, 1) := by decide +kernel
theorem dX11_askGuards_1 : decode cX11_askGuards 1 = .ok (.istore_n 3, 1) := by decide +kernel
theorem dX11_askGuards_2 : decode cX11_askGuards 2 = .ok (.iload_n 3, 1) := by decide +kernel
theorem dX11_askGuards_3 : decode cX11_askGuards 3 = .ok (.aload_n 0, 1) := by decide +kernel
theorem dX11_askGuards_4 : decode cX11_askGuards 4 = .ok (.getfield 25, 3) := by decide +kernel
theorem dX11_askGuards_7 : decode cX11_askGuards 7 = .ok (.iload_n 2, 1) := by decide +kernel
theorem dX11_askGuards_8 : decode cX11_askGuards 8 = .ok (.iaload, 1) := by decide +kernel
theorem dX11_askGuards_9 : decode cX11_askGuards 9 = .ok (.if_icmp .ge 56, 3) := by decide +kernel
theorem dX11_askGuards_12 : decode cX11_askGuards 12 = .ok (.bipush 6, 2) := by decide +kernel
theorem dX11_askGuards_14 : decode cX11_askGuards 14 = .ok (.iload_n 2, 1) := by decide +kernel
theorem dX11_askGuards_15 : decode cX11_askGuards 15 = .ok (.imul, 1) := by decide +kernel
theorem dX11_askGuards_16 : decode cX11_askGuards 16 = .ok (.iconst 3, 1) := by decide +kernel
theorem dX11_askGuards_17 : decode cX11_askGuards 17 = .ok (.iload_n 3, 1) := by decide +kernel
theorem dX11_askGuards_18 : decode cX11_askGuards 18 = .ok (.imul, 1) := by decide +kernel
theorem dX11_askGuards_19 : decode cX11_askGuards 19 = .ok (.iadd, 1) := by decide +kernel
theorem dX11_askGuards_20 : decode cX11_askGuards 20 = .ok (.istore 4, 2) := by decide +kernel
theorem dX11_askGuards_22 : decode cX11_askGuards 22 = .ok (.aload_n 0, 1) := by decide +kernel
theorem dX11_askGuards_23 : decode cX11_askGuards 23 = .ok (.iload_n 1, 1) := by decide +kernel
theorem dX11_askGuards_24 : decode cX11_askGuards 24 = .ok (.aload_n 0, 1) := by decide +kernel
theorem dX11_askGuards_25 : decode cX11_askGuards 25 = .ok (.aload_n 0, 1) := by decide +kernel
theorem dX11_askGuards_26 : decode cX11_askGuards 26 = .ok (.getfield 28, 3) := by decide +kernel
theorem dX11_askGuards_29 : decode cX11_askGuards 29 = .ok (.iload 4, 2) := by decide +kernel
theorem dX11_askGuards_31 : decode cX11_askGuards 31 = .ok (.iaload, 1) := by decide +kernel
theorem dX11_askGuards_32 : decode cX11_askGuards 32 = .ok (.iload_n 1, 1) := by decide +kernel
theorem dX11_askGuards_33 : decode cX11_askGuards 33 = .ok (.iconst 1, 1) := by decide +kernel
theorem dX11_askGuards_34 : decode cX11_askGuards 34 = .ok (.isub, 1) := by decide +kernel
theorem dX11_askGuards_35 : decode cX11_askGuards 35 = .ok (.invokevirtual 186, 3) := by decide +kernel
theorem dX11_askGuards_38 : decode cX11_askGuards 38 = .ok (.aload_n 0, 1) := by decide +kernel
theorem dX11_askGuards_39 : decode cX11_askGuards 39 = .ok (.getfield 28, 3) := by decide +kernel
theorem dX11_askGuards_42 : decode cX11_askGuards 42 = .ok (.iload 4, 2) := by decide +kernel
theorem dX11_askGuards_44 : decode cX11_askGuards 44 = .ok (.iconst 1, 1) := by decide +kernel
theorem dX11_askGuards_45 : decode cX11_askGuards 45 = .ok (.iadd, 1) := by decide +kernel
theorem dX11_askGuards_46 : decode cX11_askGuards 46 = .ok (.iaload, 1) := by decide +kernel
theorem dX11_askGuards_47 : decode cX11_askGuards 47 = .ok (.aload_n 0, 1) := by decide +kernel
theorem dX11_askGuards_48 : decode cX11_askGuards 48 = .ok (.getfield 28, 3) := by decide +kernel
theorem dX11_askGuards_51 : decode cX11_askGuards 51 = .ok (.iload 4, 2) := by decide +kernel
theorem dX11_askGuards_53 : decode cX11_askGuards 53 = .ok (.iconst 2, 1) := by decide +kernel
theorem dX11_askGuards_54 : decode cX11_askGuards 54 = .ok (.iadd, 1) := by decide +kernel
theorem dX11_askGuards_55 : decode cX11_askGuards 55 = .ok (.iaload, 1) := by decide +kernel
theorem dX11_askGuards_56 : decode cX11_askGuards 56 = .ok (.invokevirtual 189, 3) := by decide +kernel
theorem dX11_askGuards_59 : decode cX11_askGuards 59 = .ok (.iinc 3 1, 3) := by decide +kernel
theorem dX11_askGuards_62 : decode cX11_askGuards 62 = .ok (.goto (-60), 3) := by decide +kernel
theorem dX11_askGuards_65 : decode cX11_askGuards 65 = .ok (.return_, 1) := by decide +kernel
theorem dX11_askLimits_0 : decode cX11_askLimits 0 = .ok (.iconst 0, 1) := by decide +kernel
theorem dX11_askLimits_1 : decode cX11_askLimits 1 = .ok (.istore 4, 2) := by decide +kernel
theorem dX11_askLimits_3 : decode cX11_askLimits 3 = .ok (.iload 4, 2) := by decide +kernel
theorem dX11_askLimits_5 : decode cX11_askLimits 5 = .ok (.iconst 3, 1) := by decide +kernel
theorem dX11_askLimits_6 : decode cX11_askLimits 6 = .ok (.if_icmp .ge 96, 3) := by decide +kernel
theorem dX11_askLimits_9 : decode cX11_askLimits 9 = .ok (.bipush 6, 2) := by decide +kernel
theorem dX11_askLimits_11 : decode cX11_askLimits 11 = .ok (.iload 4, 2) := by decide +kernel
theorem dX11_askLimits_13 : decode cX11_askLimits 13 = .ok (.imul, 1) := by decide +kernel
theorem dX11_askLimits_14 : decode cX11_askLimits 14 = .ok (.aload_n 0, 1) := by decide +kernel
theorem dX11_askLimits_15 : decode cX11_askLimits 15 = .ok (.getfield 41, 3) := by decide +kernel
theorem dX11_askLimits_18 : decode cX11_askLimits 18 = .ok (.iconst 3, 1) := by decide +kernel
theorem dX11_askLimits_19 : decode cX11_askLimits 19 = .ok (.iload_n 1, 1) := by decide +kernel
theorem dX11_askLimits_20 : decode cX11_askLimits 20 = .ok (.imul, 1) := by decide +kernel
theorem dX11_askLimits_21 : decode cX11_askLimits 21 = .ok (.iload 4, 2) := by decide +kernel
theorem dX11_askLimits_23 : decode cX11_askLimits 23 = .ok (.iadd, 1) := by decide +kernel
theorem dX11_askLimits_24 : decode cX11_askLimits 24 = .ok (.iaload, 1) := by decide +kernel
theorem dX11_askLimits_25 : decode cX11_askLimits 25 = .ok (.iadd, 1) := by decide +kernel
theorem dX11_askLimits_26 : decode cX11_askLimits 26 = .ok (.istore 5, 2) := by decide +kernel
theorem dX11_askLimits_28 : decode cX11_askLimits 28 = .ok (.iconst 0, 1) := by decide +kernel
theorem dX11_askLimits_29 : decode cX11_askLimits 29 = .ok (.istore 6, 2) := by decide +kernel
theorem dX11_askLimits_31 : decode cX11_askLimits 31 = .ok (.iload 6, 2) := by decide +kernel
theorem dX11_askLimits_33 : decode cX11_askLimits 33 = .ok (.aload_n 0, 1) := by decide +kernel
theorem dX11_askLimits_34 : decode cX11_askLimits 34 = .ok (.getfield 31, 3) := by decide +kernel
theorem dX11_askLimits_37 : decode cX11_askLimits 37 = .ok (.iload 5, 2) := by decide +kernel
theorem dX11_askLimits_39 : decode cX11_askLimits 39 = .ok (.iaload, 1) := by decide +kernel
theorem dX11_askLimits_40 : decode cX11_askLimits 40 = .ok (.if_icmp .ge 56, 3) := by decide +kernel
theorem dX11_askLimits_43 : decode cX11_askLimits 43 = .ok (.bipush 6, 2) := by decide +kernel
theorem dX11_askLimits_45 : decode cX11_askLimits 45 = .ok (.iload 5, 2) := by decide +kernel
theorem dX11_askLimits_47 : decode cX11_askLimits 47 = .ok (.imul, 1) := by decide +kernel
theorem dX11_askLimits_48 : decode cX11_askLimits 48 = .ok (.iconst 3, 1) := by decide +kernel
theorem dX11_askLimits_49 : decode cX11_askLimits 49 = .ok (.iload 6, 2) := by decide +kernel
theorem dX11_askLimits_51 : decode cX11_askLimits 51 = .ok (.imul, 1) := by decide +kernel
theorem dX11_askLimits_52 : decode cX11_askLimits 52 = .ok (.iadd, 1) := by decide +kernel
theorem dX11_askLimits_53 : decode cX11_askLimits 53 = .ok (.istore 7, 2) := by decide +kernel
theorem dX11_askLimits_55 : decode cX11_askLimits 55 = .ok (.aload_n 0, 1) := by decide +kernel
theorem dX11_askLimits_56 : decode cX11_askLimits 56 = .ok (.iload_n 2, 1) := by decide +kernel
theorem dX11_askLimits_57 : decode cX11_askLimits 57 = .ok (.aload_n 0, 1) := by decide +kernel
theorem dX11_askLimits_58 : decode cX11_askLimits 58 = .ok (.aload_n 0, 1) := by decide +kernel
theorem dX11_askLimits_59 : decode cX11_askLimits 59 = .ok (.getfield 34, 3) := by decide +kernel
theorem dX11_askLimits_62 : decode cX11_askLimits 62 = .ok (.iload 7, 2) := by decide +kernel
theorem dX11_askLimits_64 : decode cX11_askLimits 64 = .ok (.iaload, 1) := by decide +kernel
theorem dX11_askLimits_65 : decode cX11_askLimits 65 = .ok (.iload_n 3, 1) := by decide +kernel
theorem dX11_askLimits_66 : decode cX11_askLimits 66 = .ok (.invokevirtual 186, 3) := by decide +kernel
theorem dX11_askLimits_69 : decode cX11_askLimits 69 = .ok (.aload_n 0, 1) := by decide +kernel
theorem dX11_askLimits_70 : decode cX11_askLimits 70 = .ok (.getfield 34, 3) := by decide +kernel
theorem dX11_askLimits_73 : decode cX11_askLimits 73 = .ok (.iload 7, 2) := by decide +kernel
theorem dX11_askLimits_75 : decode cX11_askLimits 75 = .ok (.iconst 1, 1) := by decide +kernel
theorem dX11_askLimits_76 : decode cX11_askLimits 76 = .ok (.iadd, 1) := by decide +kernel
theorem dX11_askLimits_77 : decode cX11_askLimits 77 = .ok (.iaload, 1) := by decide +kernel
theorem dX11_askLimits_78 : decode cX11_askLimits 78 = .ok (.aload_n 0, 1) := by decide +kernel
theorem dX11_askLimits_79 : decode cX11_askLimits 79 = .ok (.getfield 34, 3) := by decide +kernel
theorem dX11_askLimits_82 : decode cX11_askLimits 82 = .ok (.iload 7, 2) := by decide +kernel
theorem dX11_askLimits_84 : decode cX11_askLimits 84 = .ok (.iconst 2, 1) := by decide +kernel
theorem dX11_askLimits_85 : decode cX11_askLimits 85 = .ok (.iadd, 1) := by decide +kernel
theorem dX11_askLimits_86 : decode cX11_askLimits 86 = .ok (.iaload, 1) := by decide +kernel
theorem dX11_askLimits_87 : decode cX11_askLimits 87 = .ok (.invokevirtual 189, 3) := by decide +kernel
theorem dX11_askLimits_90 : decode cX11_askLimits 90 = .ok (.iinc 6 1, 3) := by decide +kernel
theorem dX11_askLimits_93 : decode cX11_askLimits 93 = .ok (.goto (-62), 3) := by decide +kernel
theorem dX11_askLimits_96 : decode cX11_askLimits 96 = .ok (.iinc 4 1, 3) := by decide +kernel
theorem dX11_askLimits_99 : decode cX11_askLimits 99 = .ok (.goto (-96), 3) := by decide +kernel
theorem dX11_askLimits_102 : decode cX11_askLimits 102 = .ok (.return_, 1) := by decide +kernel
theorem dX11_timeAll_0 : decode cX11_timeAll 0 = .ok (.iconst 0, 1) := by decide +kernel
theorem dX11_timeAll_1 : decode cX11_timeAll 1 = .ok (.istore_n 2, 1) := by decide +kernel
theorem dX11_timeAll_2 : decode cX11_timeAll 2 = .ok (.iload_n 2, 1) := by decide +kernel
theorem dX11_timeAll_3 : decode cX11_timeAll 3 = .ok (.bipush 42, 2) := by decide +kernel
theorem dX11_timeAll_5 : decode cX11_timeAll 5 = .ok (.if_icmp .ge 16, 3) := by decide +kernel
theorem dX11_timeAll_8 : decode cX11_timeAll 8 = .ok (.aload_n 0, 1) := by decide +kernel
theorem dX11_timeAll_9 : decode cX11_timeAll 9 = .ok (.getfield 74, 3) := by decide +kernel
theorem dX11_timeAll_12 : decode cX11_timeAll 12 = .ok (.iload_n 2, 1) := by decide +kernel
theorem dX11_timeAll_13 : decode cX11_timeAll 13 = .ok (.iconst 0, 1) := by decide +kernel
theorem dX11_timeAll_14 : decode cX11_timeAll 14 = .ok (.iastore, 1) := by decide +kernel
theorem dX11_timeAll_15 : decode cX11_timeAll 15 = .ok (.iinc 2 1, 3) := by decide +kernel
theorem dX11_timeAll_18 : decode cX11_timeAll 18 = .ok (.goto (-16), 3) := by decide +kernel
theorem dX11_timeAll_21 : decode cX11_timeAll 21 = .ok (.aload_n 0, 1) := by decide +kernel
theorem dX11_timeAll_22 : decode cX11_timeAll 22 = .ok (.iconst 1, 1) := by decide +kernel
theorem dX11_timeAll_23 : decode cX11_timeAll 23 = .ok (.putfield 180, 3) := by decide +kernel
theorem dX11_timeAll_26 : decode cX11_timeAll 26 = .ok (.iconst 0, 1) := by decide +kernel
theorem dX11_timeAll_27 : decode cX11_timeAll 27 = .ok (.istore_n 2, 1) := by decide +kernel
theorem dX11_timeAll_28 : decode cX11_timeAll 28 = .ok (.aload_n 0, 1) := by decide +kernel
theorem dX11_timeAll_29 : decode cX11_timeAll 29 = .ok (.getfield 180, 3) := by decide +kernel
theorem dX11_timeAll_32 : decode cX11_timeAll 32 = .ok (.ifCond .eq 118, 3) := by decide +kernel
theorem dX11_timeAll_35 : decode cX11_timeAll 35 = .ok (.iload_n 2, 1) := by decide +kernel
theorem dX11_timeAll_36 : decode cX11_timeAll 36 = .ok (.sipush 2000, 3) := by decide +kernel
theorem dX11_timeAll_39 : decode cX11_timeAll 39 = .ok (.if_icmp .ge 111, 3) := by decide +kernel
theorem dX11_timeAll_42 : decode cX11_timeAll 42 = .ok (.aload_n 0, 1) := by decide +kernel
theorem dX11_timeAll_43 : decode cX11_timeAll 43 = .ok (.iconst 0, 1) := by decide +kernel
theorem dX11_timeAll_44 : decode cX11_timeAll 44 = .ok (.putfield 180, 3) := by decide +kernel
theorem dX11_timeAll_47 : decode cX11_timeAll 47 = .ok (.iconst 1, 1) := by decide +kernel
theorem dX11_timeAll_48 : decode cX11_timeAll 48 = .ok (.istore_n 3, 1) := by decide +kernel
theorem dX11_timeAll_49 : decode cX11_timeAll 49 = .ok (.iload_n 3, 1) := by decide +kernel
theorem dX11_timeAll_50 : decode cX11_timeAll 50 = .ok (.iload_n 1, 1) := by decide +kernel
theorem dX11_timeAll_51 : decode cX11_timeAll 51 = .ok (.if_icmp .gt 93, 3) := by decide +kernel
theorem dX11_timeAll_54 : decode cX11_timeAll 54 = .ok (.aload_n 0, 1) := by decide +kernel
theorem dX11_timeAll_55 : decode cX11_timeAll 55 = .ok (.iload_n 3, 1) := by decide +kernel
theorem dX11_timeAll_56 : decode cX11_timeAll 56 = .ok (.iload_n 3, 1) := by decide +kernel
theorem dX11_timeAll_57 : decode cX11_timeAll 57 = .ok (.iconst 1, 1) := by decide +kernel
theorem dX11_timeAll_58 : decode cX11_timeAll 58 = .ok (.isub, 1) := by decide +kernel
theorem dX11_timeAll_59 : decode cX11_timeAll 59 = .ok (.iconst 0, 1) := by decide +kernel
theorem dX11_timeAll_60 : decode cX11_timeAll 60 = .ok (.invokevirtual 183, 3) := by decide +kernel
theorem dX11_timeAll_63 : decode cX11_timeAll 63 = .ok (.aload_n 0, 1) := by decide +kernel
theorem dX11_timeAll_64 : decode cX11_timeAll 64 = .ok (.iload_n 3, 1) := by decide +kernel
theorem dX11_timeAll_65 : decode cX11_timeAll 65 = .ok (.aload_n 0, 1) := by decide +kernel
theorem dX11_timeAll_66 : decode cX11_timeAll 66 = .ok (.getfield 50, 3) := by decide +kernel
theorem dX11_timeAll_69 : decode cX11_timeAll 69 = .ok (.aload_n 0, 1) := by decide +kernel
theorem dX11_timeAll_70 : decode cX11_timeAll 70 = .ok (.getfield 71, 3) := by decide +kernel
theorem dX11_timeAll_73 : decode cX11_timeAll 73 = .ok (.iload_n 3, 1) := by decide +kernel
theorem dX11_timeAll_74 : decode cX11_timeAll 74 = .ok (.iaload, 1) := by decide +kernel
theorem dX11_timeAll_75 : decode cX11_timeAll 75 = .ok (.iaload, 1) := by decide +kernel
theorem dX11_timeAll_76 : decode cX11_timeAll 76 = .ok (.invokevirtual 193, 3) := by decide +kernel
theorem dX11_timeAll_79 : decode cX11_timeAll 79 = .ok (.aload_n 0, 1) := by decide +kernel
theorem dX11_timeAll_80 : decode cX11_timeAll 80 = .ok (.getfield 53, 3) := by decide +kernel
theorem dX11_timeAll_83 : decode cX11_timeAll 83 = .ok (.aload_n 0, 1) := by decide +kernel
theorem dX11_timeAll_84 : decode cX11_timeAll 84 = .ok (.getfield 71, 3) := by decide +kernel
theorem dX11_timeAll_87 : decode cX11_timeAll 87 = .ok (.iload_n 3, 1) := by decide +kernel
theorem dX11_timeAll_88 : decode cX11_timeAll 88 = .ok (.iaload, 1) := by decide +kernel
theorem dX11_timeAll_89 : decode cX11_timeAll 89 = .ok (.iaload, 1) := by decide +kernel
theorem dX11_timeAll_90 : decode cX11_timeAll 90 = .ok (.iconst (-1), 1) := by decide +kernel
theorem dX11_timeAll_91 : decode cX11_timeAll 91 = .ok (.if_icmp .eq 19, 3) := by decide +kernel
theorem dX11_timeAll_94 : decode cX11_timeAll 94 = .ok (.aload_n 0, 1) := by decide +kernel
theorem dX11_timeAll_95 : decode cX11_timeAll 95 = .ok (.iload_n 3, 1) := by decide +kernel
theorem dX11_timeAll_96 : decode cX11_timeAll 96 = .ok (.aload_n 0, 1) := by decide +kernel
theorem dX11_timeAll_97 : decode cX11_timeAll 97 = .ok (.getfield 53, 3) := by decide +kernel
theorem dX11_timeAll_100 : decode cX11_timeAll 100 = .ok (.aload_n 0, 1) := by decide +kernel
theorem dX11_timeAll_101 : decode cX11_timeAll 101 = .ok (.getfield 71, 3) := by decide +kernel
theorem dX11_timeAll_104 : decode cX11_timeAll 104 = .ok (.iload_n 3, 1) := by decide +kernel
theorem dX11_timeAll_105 : decode cX11_timeAll 105 = .ok (.iaload, 1) := by decide +kernel
theorem dX11_timeAll_106 : decode cX11_timeAll 106 = .ok (.iaload, 1) := by decide +kernel
theorem dX11_timeAll_107 : decode cX11_timeAll 107 = .ok (.invokevirtual 193, 3) := by decide +kernel
theorem dX11_timeAll_110 : decode cX11_timeAll 110 = .ok (.aload_n 0, 1) := by decide +kernel
theorem dX11_timeAll_111 : decode cX11_timeAll 111 = .ok (.aload_n 0, 1) := by decide +kernel
theorem dX11_timeAll_112 : decode cX11_timeAll 112 = .ok (.getfield 71, 3) := by decide +kernel
theorem dX11_timeAll_115 : decode cX11_timeAll 115 = .ok (.iload_n 3, 1) := by decide +kernel
theorem dX11_timeAll_116 : decode cX11_timeAll 116 = .ok (.iconst 1, 1) := by decide +kernel
theorem dX11_timeAll_117 : decode cX11_timeAll 117 = .ok (.isub, 1) := by decide +kernel
theorem dX11_timeAll_118 : decode cX11_timeAll 118 = .ok (.iaload, 1) := by decide +kernel
theorem dX11_timeAll_119 : decode cX11_timeAll 119 = .ok (.iload_n 3, 1) := by decide +kernel
theorem dX11_timeAll_120 : decode cX11_timeAll 120 = .ok (.iload_n 3, 1) := by decide +kernel
theorem dX11_timeAll_121 : decode cX11_timeAll 121 = .ok (.iconst 1, 1) := by decide +kernel
theorem dX11_timeAll_122 : decode cX11_timeAll 122 = .ok (.isub, 1) := by decide +kernel
theorem dX11_timeAll_123 : decode cX11_timeAll 123 = .ok (.invokevirtual 197, 3) := by decide +kernel
theorem dX11_timeAll_126 : decode cX11_timeAll 126 = .ok (.aload_n 0, 1) := by decide +kernel
theorem dX11_timeAll_127 : decode cX11_timeAll 127 = .ok (.aload_n 0, 1) := by decide +kernel
theorem dX11_timeAll_128 : decode cX11_timeAll 128 = .ok (.getfield 71, 3) := by decide +kernel
theorem dX11_timeAll_131 : decode cX11_timeAll 131 = .ok (.iload_n 3, 1) := by decide +kernel
theorem dX11_timeAll_132 : decode cX11_timeAll 132 = .ok (.iaload, 1) := by decide +kernel
theorem dX11_timeAll_133 : decode cX11_timeAll 133 = .ok (.iload_n 3, 1) := by decide +kernel
theorem dX11_timeAll_134 : decode cX11_timeAll 134 = .ok (.iload_n 3, 1) := by decide +kernel
theorem dX11_timeAll_135 : decode cX11_timeAll 135 = .ok (.invokevirtual 197, 3) := by decide +kernel
theorem dX11_timeAll_138 : decode cX11_timeAll 138 = .ok (.iinc 3 1, 3) := by decide +kernel
theorem dX11_timeAll_141 : decode cX11_timeAll 141 = .ok (.goto (-92), 3) := by decide +kernel
theorem dX11_timeAll_144 : decode cX11_timeAll 144 = .ok (.iinc 2 1, 3) := by decide +kernel
theorem dX11_timeAll_147 : decode cX11_timeAll 147 = .ok (.goto (-119), 3) := by decide +kernel
theorem dX11_timeAll_150 : decode cX11_timeAll 150 = .ok (.return_, 1) := by decide +kernel
theorem dX11_moment_0 : decode cX11_moment 0 = .ok (.aload_n 0, 1) := by decide +kernel
theorem dX11_moment_1 : decode cX11_moment 1 = .ok (.getfield 37, 3) := by decide +kernel
theorem dX11_moment_4 : decode cX11_moment 4 = .ok (.ifCond .eq 6, 3) := by decide +kernel
theorem dX11_moment_7 : decode cX11_moment 7 = .ok (.bipush (-103), 2) := by decide +kernel
theorem dX11_moment_9 : decode cX11_moment 9 = .ok (.ireturn, 1) := by decide +kernel
theorem dX11_moment_10 : decode cX11_moment 10 = .ok (.aload_n 0, 1) := by decide +kernel
theorem dX11_moment_11 : decode cX11_moment 11 = .ok (.iload_n 1, 1) := by decide +kernel
theorem dX11_moment_12 : decode cX11_moment 12 = .ok (.invokevirtual 165, 3) := by decide +kernel
theorem dX11_moment_15 : decode cX11_moment 15 = .ok (.ifCond .eq 19, 3) := by decide +kernel
theorem dX11_moment_18 : decode cX11_moment 18 = .ok (.iload_n 2, 1) := by decide +kernel
theorem dX11_moment_19 : decode cX11_moment 19 = .ok (.iconst 0, 1) := by decide +kernel
theorem dX11_moment_20 : decode cX11_moment 20 = .ok (.aload_n 0, 1) := by decide +kernel
theorem dX11_moment_21 : decode cX11_moment 21 = .ok (.getfield 56, 3) := by decide +kernel
theorem dX11_moment_24 : decode cX11_moment 24 = .ok (.iload_n 1, 1) := by decide +kernel
theorem dX11_moment_25 : decode cX11_moment 25 = .ok (.iaload, 1) := by decide +kernel
theorem dX11_moment_26 : decode cX11_moment 26 = .ok (.iconst 1, 1) := by decide +kernel
theorem dX11_moment_27 : decode cX11_moment 27 = .ok (.isub, 1) := by decide +kernel
theorem dX11_moment_28 : decode cX11_moment 28 = .ok (.invokestatic 86, 3) := by decide +kernel
theorem dX11_moment_31 : decode cX11_moment 31 = .ok (.ifCond .ne 6, 3) := by decide +kernel
theorem dX11_moment_34 : decode cX11_moment 34 = .ok (.bipush (-101), 2) := by decide +kernel
theorem dX11_moment_36 : decode cX11_moment 36 = .ok (.ireturn, 1) := by decide +kernel
theorem dX11_moment_37 : decode cX11_moment 37 = .ok (.aload_n 0, 1) := by decide +kernel
theorem dX11_moment_38 : decode cX11_moment 38 = .ok (.aload_n 0, 1) := by decide +kernel
theorem dX11_moment_39 : decode cX11_moment 39 = .ok (.iload_n 1, 1) := by decide +kernel
theorem dX11_moment_40 : decode cX11_moment 40 = .ok (.invokevirtual 177, 3) := by decide +kernel
theorem dX11_moment_43 : decode cX11_moment 43 = .ok (.invokevirtual 200, 3) := by decide +kernel
theorem dX11_moment_46 : decode cX11_moment 46 = .ok (.aload_n 0, 1) := by decide +kernel
theorem dX11_moment_47 : decode cX11_moment 47 = .ok (.getfield 74, 3) := by decide +kernel
theorem dX11_moment_50 : decode cX11_moment 50 = .ok (.iload_n 2, 1) := by decide +kernel
theorem dX11_moment_51 : decode cX11_moment 51 = .ok (.iconst 1, 1) := by decide +kernel
theorem dX11_moment_52 : decode cX11_moment 52 = .ok (.iadd, 1) := by decide +kernel
theorem dX11_moment_53 : decode cX11_moment 53 = .ok (.iaload, 1) := by decide +kernel
theorem dX11_moment_54 : decode cX11_moment 54 = .ok (.ireturn, 1) := by decide +kernel
theorem dX11_greatest_0 : decode cX11_greatest 0 = .ok (.iload_n 1, 1) := by decide +kernel
theorem dX11_greatest_1 : decode cX11_greatest 1 = .ok (.invokestatic 110, 3) := by decide +kernel
theorem dX11_greatest_4 : decode cX11_greatest 4 = .ok (.ifCond .eq 11, 3) := by decide +kernel
theorem dX11_greatest_7 : decode cX11_greatest 7 = .ok (.aload_n 0, 1) := by decide +kernel
theorem dX11_greatest_8 : decode cX11_greatest 8 = .ok (.iload_n 1, 1) := by decide +kernel
theorem dX11_greatest_9 : decode cX11_greatest 9 = .ok (.invokevirtual 129, 3) := by decide +kernel
theorem dX11_greatest_12 : decode cX11_greatest 12 = .ok (.goto 5, 3) := by decide +kernel
theorem dX11_greatest_15 : decode cX11_greatest 15 = .ok (.bipush (-101), 2) := by decide +kernel
theorem dX11_greatest_17 : decode cX11_greatest 17 = .ok (.ireturn, 1) := by decide +kernel
theorem dX11_passes_0 : decode cX11_passes 0 = .ok (.iload_n 0, 1) := by decide +kernel
theorem dX11_passes_1 : decode cX11_passes 1 = .ok (.bipush 64, 2) := by decide +kernel
theorem dX11_passes_3 : decode cX11_passes 3 = .ok (.iload_n 2, 1) := by decide +kernel
theorem dX11_passes_4 : decode cX11_passes 4 = .ok (.imul, 1) := by decide +kernel
theorem dX11_passes_5 : decode cX11_passes 5 = .ok (.isub, 1) := by decide +kernel
theorem dX11_passes_6 : decode cX11_passes 6 = .ok (.istore_n 3, 1) := by decide +kernel
theorem dX11_passes_7 : decode cX11_passes 7 = .ok (.iload_n 1, 1) := by decide +kernel
theorem dX11_passes_8 : decode cX11_passes 8 = .ok (.ifCond .ne 15, 3) := by decide +kernel
theorem dX11_passes_11 : decode cX11_passes 11 = .ok (.iload_n 3, 1) := by decide +kernel
theorem dX11_passes_12 : decode cX11_passes 12 = .ok (.ifCond .ge 7, 3) := by decide +kernel
theorem dX11_passes_15 : decode cX11_passes 15 = .ok (.iconst 1, 1) := by decide +kernel
theorem dX11_passes_16 : decode cX11_passes 16 = .ok (.goto 67, 3) := by decide +kernel
theorem dX11_passes_19 : decode cX11_passes 19 = .ok (.iconst 0, 1) := by decide +kernel
theorem dX11_passes_20 : decode cX11_passes 20 = .ok (.goto 63, 3) := by decide +kernel
theorem dX11_passes_23 : decode cX11_passes 23 = .ok (.iload_n 1, 1) := by decide +kernel
theorem dX11_passes_24 : decode cX11_passes 24 = .ok (.iconst 1, 1) := by decide +kernel
theorem dX11_passes_25 : decode cX11_passes 25 = .ok (.if_icmp .ne 15, 3) := by decide +kernel
theorem dX11_passes_28 : decode cX11_passes 28 = .ok (.iload_n 3, 1) := by decide +kernel
theorem dX11_passes_29 : decode cX11_passes 29 = .ok (.ifCond .gt 7, 3) := by decide +kernel
theorem dX11_passes_32 : decode cX11_passes 32 = .ok (.iconst 1, 1) := by decide +kernel
theorem dX11_passes_33 : decode cX11_passes 33 = .ok (.goto 50, 3) := by decide +kernel
theorem dX11_passes_36 : decode cX11_passes 36 = .ok (.iconst 0, 1) := by decide +kernel
theorem dX11_passes_37 : decode cX11_passes 37 = .ok (.goto 46, 3) := by decide +kernel
theorem dX11_passes_40 : decode cX11_passes 40 = .ok (.iload_n 1, 1) := by decide +kernel
theorem dX11_passes_41 : decode cX11_passes 41 = .ok (.iconst 2, 1) := by decide +kernel
theorem dX11_passes_42 : decode cX11_passes 42 = .ok (.if_icmp .ne 15, 3) := by decide +kernel
theorem dX11_passes_45 : decode cX11_passes 45 = .ok (.iload_n 3, 1) := by decide +kernel
theorem dX11_passes_46 : decode cX11_passes 46 = .ok (.ifCond .ne 7, 3) := by decide +kernel
theorem dX11_passes_49 : decode cX11_passes 49 = .ok (.iconst 1, 1) := by decide +kernel
theorem dX11_passes_50 : decode cX11_passes 50 = .ok (.goto 33, 3) := by decide +kernel
theorem dX11_passes_53 : decode cX11_passes 53 = .ok (.iconst 0, 1) := by decide +kernel
theorem dX11_passes_54 : decode cX11_passes 54 = .ok (.goto 29, 3) := by decide +kernel
theorem dX11_passes_57 : decode cX11_passes 57 = .ok (.iload_n 1, 1) := by decide +kernel
theorem dX11_passes_58 : decode cX11_passes 58 = .ok (.iconst 3, 1) := by decide +kernel
theorem dX11_passes_59 : decode cX11_passes 59 = .ok (.if_icmp .ne 15, 3) := by decide +kernel
theorem dX11_passes_62 : decode cX11_passes 62 = .ok (.iload_n 3, 1) := by decide +kernel
theorem dX11_passes_63 : decode cX11_passes 63 = .ok (.ifCond .lt 7, 3) := by decide +kernel
theorem dX11_passes_66 : decode cX11_passes 66 = .ok (.iconst 1, 1) := by decide +kernel
theorem dX11_passes_67 : decode cX11_passes 67 = .ok (.goto 16, 3) := by decide +kernel
theorem dX11_passes_70 : decode cX11_passes 70 = .ok (.iconst 0, 1) := by decide +kernel
theorem dX11_passes_71 : decode cX11_passes 71 = .ok (.goto 12, 3) := by decide +kernel
theorem dX11_passes_74 : decode cX11_passes 74 = .ok (.iload_n 3, 1) := by decide +kernel
theorem dX11_passes_75 : decode cX11_passes 75 = .ok (.ifCond .le 7, 3) := by decide +kernel
theorem dX11_passes_78 : decode cX11_passes 78 = .ok (.iconst 1, 1) := by decide +kernel
theorem dX11_passes_79 : decode cX11_passes 79 = .ok (.goto 4, 3) := by decide +kernel
theorem dX11_passes_82 : decode cX11_passes 82 = .ok (.iconst 0, 1) := by decide +kernel
theorem dX11_passes_83 : decode cX11_passes 83 = .ok (.ireturn, 1) := by decide +kernel
theorem dX11_areKept_0 : decode cX11_areKept 0 = .ok (.iconst 1, 1) := by decide +kernel
theorem dX11_areKept_1 : decode cX11_areKept 1 = .ok (.istore_n 1, 1) := by decide +kernel
theorem dX11_areKept_2 : decode cX11_areKept 2 = .ok (.iconst 0, 1) := by decide +kernel
theorem dX11_areKept_3 : decode cX11_areKept 3 = .ok (.istore_n 2, 1) := by decide +kernel
theorem dX11_areKept_4 : decode cX11_areKept 4 = .ok (.iload_n 2, 1) := by decide +kernel
theorem dX11_areKept_5 : decode cX11_areKept 5 = .ok (.iconst 3, 1) := by decide +kernel
theorem dX11_areKept_6 : decode cX11_areKept 6 = .ok (.if_icmp .ge 98, 3) := by decide +kernel
theorem dX11_areKept_9 : decode cX11_areKept 9 = .ok (.bipush 6, 2) := by decide +kernel
theorem dX11_areKept_11 : decode cX11_areKept 11 = .ok (.iload_n 2, 1) := by decide +kernel
theorem dX11_areKept_12 : decode cX11_areKept 12 = .ok (.imul, 1) := by decide +kernel
theorem dX11_areKept_13 : decode cX11_areKept 13 = .ok (.aload_n 0, 1) := by decide +kernel
theorem dX11_areKept_14 : decode cX11_areKept 14 = .ok (.getfield 65, 3) := by decide +kernel
theorem dX11_areKept_17 : decode cX11_areKept 17 = .ok (.iload_n 2, 1) := by decide +kernel
theorem dX11_areKept_18 : decode cX11_areKept 18 = .ok (.iaload, 1) := by decide +kernel
theorem dX11_areKept_19 : decode cX11_areKept 19 = .ok (.iadd, 1) := by decide +kernel
theorem dX11_areKept_20 : decode cX11_areKept 20 = .ok (.istore_n 3, 1) := by decide +kernel
theorem dX11_areKept_21 : decode cX11_areKept 21 = .ok (.iconst 0, 1) := by decide +kernel
theorem dX11_areKept_22 : decode cX11_areKept 22 = .ok (.istore 4, 2) := by decide +kernel
theorem dX11_areKept_24 : decode cX11_areKept 24 = .ok (.iload 4, 2) := by decide +kernel
theorem dX11_areKept_26 : decode cX11_areKept 26 = .ok (.aload_n 0, 1) := by decide +kernel
theorem dX11_areKept_27 : decode cX11_areKept 27 = .ok (.getfield 31, 3) := by decide +kernel
theorem dX11_areKept_30 : decode cX11_areKept 30 = .ok (.iload_n 3, 1) := by decide +kernel
theorem dX11_areKept_31 : decode cX11_areKept 31 = .ok (.iaload, 1) := by decide +kernel
theorem dX11_areKept_32 : decode cX11_areKept 32 = .ok (.if_icmp .ge 66, 3) := by decide +kernel
theorem dX11_areKept_35 : decode cX11_areKept 35 = .ok (.bipush 6, 2) := by decide +kernel
theorem dX11_areKept_37 : decode cX11_areKept 37 = .ok (.iload_n 3, 1) := by decide +kernel
theorem dX11_areKept_38 : decode cX11_areKept 38 = .ok (.imul, 1) := by decide +kernel
theorem dX11_areKept_39 : decode cX11_areKept 39 = .ok (.iconst 3, 1) := by decide +kernel
theorem dX11_areKept_40 : decode cX11_areKept 40 = .ok (.iload 4, 2) := by decide +kernel
theorem dX11_areKept_42 : decode cX11_areKept 42 = .ok (.imul, 1) := by decide +kernel
theorem dX11_areKept_43 : decode cX11_areKept 43 = .ok (.iadd, 1) := by decide +kernel
theorem dX11_areKept_44 : decode cX11_areKept 44 = .ok (.istore 5, 2) := by decide +kernel
theorem dX11_areKept_46 : decode cX11_areKept 46 = .ok (.iload_n 1, 1) := by decide +kernel
theorem dX11_areKept_47 : decode cX11_areKept 47 = .ok (.ifCond .eq 43, 3) := by decide +kernel
theorem dX11_areKept_50 : decode cX11_areKept 50 = .ok (.aload_n 0, 1) := by decide +kernel
theorem dX11_areKept_51 : decode cX11_areKept 51 = .ok (.getfield 68, 3) := by decide +kernel
theorem dX11_areKept_54 : decode cX11_areKept 54 = .ok (.aload_n 0, 1) := by decide +kernel
theorem dX11_areKept_55 : decode cX11_areKept 55 = .ok (.getfield 34, 3) := by decide +kernel
theorem dX11_areKept_58 : decode cX11_areKept 58 = .ok (.iload 5, 2) := by decide +kernel
theorem dX11_areKept_60 : decode cX11_areKept 60 = .ok (.iaload, 1) := by decide +kernel
theorem dX11_areKept_61 : decode cX11_areKept 61 = .ok (.iaload, 1) := by decide +kernel
theorem dX11_areKept_62 : decode cX11_areKept 62 = .ok (.aload_n 0, 1) := by decide +kernel
theorem dX11_areKept_63 : decode cX11_areKept 63 = .ok (.getfield 34, 3) := by decide +kernel
theorem dX11_areKept_66 : decode cX11_areKept 66 = .ok (.iload 5, 2) := by decide +kernel
theorem dX11_areKept_68 : decode cX11_areKept 68 = .ok (.iconst 1, 1) := by decide +kernel
theorem dX11_areKept_69 : decode cX11_areKept 69 = .ok (.iadd, 1) := by decide +kernel
theorem dX11_areKept_70 : decode cX11_areKept 70 = .ok (.iaload, 1) := by decide +kernel
theorem dX11_areKept_71 : decode cX11_areKept 71 = .ok (.aload_n 0, 1) := by decide +kernel
theorem dX11_areKept_72 : decode cX11_areKept 72 = .ok (.getfield 34, 3) := by decide +kernel
theorem dX11_areKept_75 : decode cX11_areKept 75 = .ok (.iload 5, 2) := by decide +kernel
theorem dX11_areKept_77 : decode cX11_areKept 77 = .ok (.iconst 2, 1) := by decide +kernel
theorem dX11_areKept_78 : decode cX11_areKept 78 = .ok (.iadd, 1) := by decide +kernel
theorem dX11_areKept_79 : decode cX11_areKept 79 = .ok (.iaload, 1) := by decide +kernel
theorem dX11_areKept_80 : decode cX11_areKept 80 = .ok (.invokestatic 203, 3) := by decide +kernel
theorem dX11_areKept_83 : decode cX11_areKept 83 = .ok (.ifCond .eq 7, 3) := by decide +kernel
theorem dX11_areKept_86 : decode cX11_areKept 86 = .ok (.iconst 1, 1) := by decide +kernel
theorem dX11_areKept_87 : decode cX11_areKept 87 = .ok (.goto 4, 3) := by decide +kernel
theorem dX11_areKept_90 : decode cX11_areKept 90 = .ok (.iconst 0, 1) := by decide +kernel
theorem dX11_areKept_91 : decode cX11_areKept 91 = .ok (.istore_n 1, 1) := by decide +kernel
theorem dX11_areKept_92 : decode cX11_areKept 92 = .ok (.iinc 4 1, 3) := by decide +kernel
theorem dX11_areKept_95 : decode cX11_areKept 95 = .ok (.goto (-71), 3) := by decide +kernel
theorem dX11_areKept_98 : decode cX11_areKept 98 = .ok (.iinc 2 1, 3) := by decide +kernel
theorem dX11_areKept_101 : decode cX11_areKept 101 = .ok (.goto (-97), 3) := by decide +kernel
theorem dX11_areKept_104 : decode cX11_areKept 104 = .ok (.iload_n 1, 1) := by decide +kernel
theorem dX11_areKept_105 : decode cX11_areKept 105 = .ok (.ireturn, 1) := by decide +kernel
theorem dX11_look_0 : decode cX11_look 0 = .ok (.iconst 0, 1) := by decide +kernel
theorem dX11_look_1 : decode cX11_look 1 = .ok (.istore_n 1, 1) := by decide +kernel
theorem dX11_look_2 : decode cX11_look 2 = .ok (.iload_n 1, 1) := by decide +kernel
theorem dX11_look_3 : decode cX11_look 3 = .ok (.iconst 3, 1) := by decide +kernel
theorem dX11_look_4 : decode cX11_look 4 = .ok (.if_icmp .ge 21, 3) := by decide +kernel
theorem dX11_look_7 : decode cX11_look 7 = .ok (.aload_n 0, 1) := by decide +kernel
theorem dX11_look_8 : decode cX11_look 8 = .ok (.getfield 65, 3) := by decide +kernel
theorem dX11_look_11 : decode cX11_look 11 = .ok (.iload_n 1, 1) := by decide +kernel
theorem dX11_look_12 : decode cX11_look 12 = .ok (.aload_n 0, 1) := by decide +kernel
theorem dX11_look_13 : decode cX11_look 13 = .ok (.getfield 77, 3) := by decide +kernel
theorem dX11_look_16 : decode cX11_look 16 = .ok (.iload_n 1, 1) := by decide +kernel
theorem dX11_look_17 : decode cX11_look 17 = .ok (.iaload, 1) := by decide +kernel
theorem dX11_look_18 : decode cX11_look 18 = .ok (.iastore, 1) := by decide +kernel
theorem dX11_look_19 : decode cX11_look 19 = .ok (.iinc 1 1, 3) := by decide +kernel
theorem dX11_look_22 : decode cX11_look 22 = .ok (.goto (-20), 3) := by decide +kernel
theorem dX11_look_25 : decode cX11_look 25 = .ok (.iconst 0, 1) := by decide +kernel
theorem dX11_look_26 : decode cX11_look 26 = .ok (.istore_n 1, 1) := by decide +kernel
theorem dX11_look_27 : decode cX11_look 27 = .ok (.iload_n 1, 1) := by decide +kernel
theorem dX11_look_28 : decode cX11_look 28 = .ok (.iconst 4, 1) := by decide +kernel
theorem dX11_look_29 : decode cX11_look 29 = .ok (.if_icmp .ge 21, 3) := by decide +kernel
theorem dX11_look_32 : decode cX11_look 32 = .ok (.aload_n 0, 1) := by decide +kernel
theorem dX11_look_33 : decode cX11_look 33 = .ok (.getfield 68, 3) := by decide +kernel
theorem dX11_look_36 : decode cX11_look 36 = .ok (.iload_n 1, 1) := by decide +kernel
theorem dX11_look_37 : decode cX11_look 37 = .ok (.aload_n 0, 1) := by decide +kernel
theorem dX11_look_38 : decode cX11_look 38 = .ok (.getfield 80, 3) := by decide +kernel
theorem dX11_look_41 : decode cX11_look 41 = .ok (.iload_n 1, 1) := by decide +kernel
theorem dX11_look_42 : decode cX11_look 42 = .ok (.iaload, 1) := by decide +kernel
theorem dX11_look_43 : decode cX11_look 43 = .ok (.iastore, 1) := by decide +kernel
theorem dX11_look_44 : decode cX11_look 44 = .ok (.iinc 1 1, 3) := by decide +kernel
theorem dX11_look_47 : decode cX11_look 47 = .ok (.goto (-20), 3) := by decide +kernel
theorem dX11_look_50 : decode cX11_look 50 = .ok (.return_, 1) := by decide +kernel
theorem dX11_become_0 : decode cX11_become 0 = .ok (.iconst 0, 1) := by decide +kernel
theorem dX11_become_1 : decode cX11_become 1 = .ok (.istore_n 1, 1) := by decide +kernel
theorem dX11_become_2 : decode cX11_become 2 = .ok (.iload_n 1, 1) := by decide +kernel
theorem dX11_become_3 : decode cX11_become 3 = .ok (.iconst 3, 1) := by decide +kernel
theorem dX11_become_4 : decode cX11_become 4 = .ok (.if_icmp .ge 21, 3) := by decide +kernel
theorem dX11_become_7 : decode cX11_become 7 = .ok (.aload_n 0, 1) := by decide +kernel
theorem dX11_become_8 : decode cX11_become 8 = .ok (.getfield 77, 3) := by decide +kernel
theorem dX11_become_11 : decode cX11_become 11 = .ok (.iload_n 1, 1) := by decide +kernel
theorem dX11_become_12 : decode cX11_become 12 = .ok (.aload_n 0, 1) := by decide +kernel
theorem dX11_become_13 : decode cX11_become 13 = .ok (.getfield 65, 3) := by decide +kernel
theorem dX11_become_16 : decode cX11_become 16 = .ok (.iload_n 1, 1) := by decide +kernel
theorem dX11_become_17 : decode cX11_become 17 = .ok (.iaload, 1) := by decide +kernel
theorem dX11_become_18 : decode cX11_become 18 = .ok (.iastore, 1) := by decide +kernel
theorem dX11_become_19 : decode cX11_become 19 = .ok (.iinc 1 1, 3) := by decide +kernel
theorem dX11_become_22 : decode cX11_become 22 = .ok (.goto (-20), 3) := by decide +kernel
theorem dX11_become_25 : decode cX11_become 25 = .ok (.iconst 0, 1) := by decide +kernel
theorem dX11_become_26 : decode cX11_become 26 = .ok (.istore_n 1, 1) := by decide +kernel
theorem dX11_become_27 : decode cX11_become 27 = .ok (.iload_n 1, 1) := by decide +kernel
theorem dX11_become_28 : decode cX11_become 28 = .ok (.iconst 4, 1) := by decide +kernel
theorem dX11_become_29 : decode cX11_become 29 = .ok (.if_icmp .ge 21, 3) := by decide +kernel
theorem dX11_become_32 : decode cX11_become 32 = .ok (.aload_n 0, 1) := by decide +kernel
theorem dX11_become_33 : decode cX11_become 33 = .ok (.getfield 80, 3) := by decide +kernel
theorem dX11_become_36 : decode cX11_become 36 = .ok (.iload_n 1, 1) := by decide +kernel
theorem dX11_become_37 : decode cX11_become 37 = .ok (.aload_n 0, 1) := by decide +kernel
theorem dX11_become_38 : decode cX11_become 38 = .ok (.getfield 68, 3) := by decide +kernel
theorem dX11_become_41 : decode cX11_become 41 = .ok (.iload_n 1, 1) := by decide +kernel
theorem dX11_become_42 : decode cX11_become 42 = .ok (.iaload, 1) := by decide +kernel
theorem dX11_become_43 : decode cX11_become 43 = .ok (.iastore, 1) := by decide +kernel
theorem dX11_become_44 : decode cX11_become 44 = .ok (.iinc 1 1, 3) := by decide +kernel
theorem dX11_become_47 : decode cX11_become 47 = .ok (.goto (-20), 3) := by decide +kernel
theorem dX11_become_50 : decode cX11_become 50 = .ok (.return_, 1) := by decide +kernel
theorem dX11_begin_0 : decode cX11_begin 0 = .ok (.iconst 0, 1) := by decide +kernel
theorem dX11_begin_1 : decode cX11_begin 1 = .ok (.istore_n 1, 1) := by decide +kernel
theorem dX11_begin_2 : decode cX11_begin 2 = .ok (.iload_n 1, 1) := by decide +kernel
theorem dX11_begin_3 : decode cX11_begin 3 = .ok (.iconst 3, 1) := by decide +kernel
theorem dX11_begin_4 : decode cX11_begin 4 = .ok (.if_icmp .ge 16, 3) := by decide +kernel
theorem dX11_begin_7 : decode cX11_begin 7 = .ok (.aload_n 0, 1) := by decide +kernel
theorem dX11_begin_8 : decode cX11_begin 8 = .ok (.getfield 65, 3) := by decide +kernel
theorem dX11_begin_11 : decode cX11_begin 11 = .ok (.iload_n 1, 1) := by decide +kernel
theorem dX11_begin_12 : decode cX11_begin 12 = .ok (.iconst 0, 1) := by decide +kernel
theorem dX11_begin_13 : decode cX11_begin 13 = .ok (.iastore, 1) := by decide +kernel
theorem dX11_begin_14 : decode cX11_begin 14 = .ok (.iinc 1 1, 3) := by decide +kernel
theorem dX11_begin_17 : decode cX11_begin 17 = .ok (.goto (-15), 3) := by decide +kernel
theorem dX11_begin_20 : decode cX11_begin 20 = .ok (.iconst 0, 1) := by decide +kernel
theorem dX11_begin_21 : decode cX11_begin 21 = .ok (.istore_n 1, 1) := by decide +kernel
theorem dX11_begin_22 : decode cX11_begin 22 = .ok (.iload_n 1, 1) := by decide +kernel
theorem dX11_begin_23 : decode cX11_begin 23 = .ok (.iconst 4, 1) := by decide +kernel
theorem dX11_begin_24 : decode cX11_begin 24 = .ok (.if_icmp .ge 16, 3) := by decide +kernel
theorem dX11_begin_27 : decode cX11_begin 27 = .ok (.aload_n 0, 1) := by decide +kernel
theorem dX11_begin_28 : decode cX11_begin 28 = .ok (.getfield 68, 3) := by decide +kernel
theorem dX11_begin_31 : decode cX11_begin 31 = .ok (.iload_n 1, 1) := by decide +kernel
theorem dX11_begin_32 : decode cX11_begin 32 = .ok (.iconst 0, 1) := by decide +kernel
theorem dX11_begin_33 : decode cX11_begin 33 = .ok (.iastore, 1) := by decide +kernel
theorem dX11_begin_34 : decode cX11_begin 34 = .ok (.iinc 1 1, 3) := by decide +kernel
theorem dX11_begin_37 : decode cX11_begin 37 = .ok (.goto (-15), 3) := by decide +kernel
theorem dX11_begin_40 : decode cX11_begin 40 = .ok (.aload_n 0, 1) := by decide +kernel
theorem dX11_begin_41 : decode cX11_begin 41 = .ok (.aload_n 0, 1) := by decide +kernel
theorem dX11_begin_42 : decode cX11_begin 42 = .ok (.invokevirtual 206, 3) := by decide +kernel
theorem dX11_begin_45 : decode cX11_begin 45 = .ok (.putfield 83, 3) := by decide +kernel
theorem dX11_begin_48 : decode cX11_begin 48 = .ok (.aload_n 0, 1) := by decide +kernel
theorem dX11_begin_49 : decode cX11_begin 49 = .ok (.invokevirtual 209, 3) := by decide +kernel
theorem dX11_begin_52 : decode cX11_begin 52 = .ok (.aload_n 0, 1) := by decide +kernel
theorem dX11_begin_53 : decode cX11_begin 53 = .ok (.iconst 0, 1) := by decide +kernel
theorem dX11_begin_54 : decode cX11_begin 54 = .ok (.putfield 212, 3) := by decide +kernel
theorem dX11_begin_57 : decode cX11_begin 57 = .ok (.aload_n 0, 1) := by decide +kernel
theorem dX11_begin_58 : decode cX11_begin 58 = .ok (.iconst 0, 1) := by decide +kernel
theorem dX11_begin_59 : decode cX11_begin 59 = .ok (.putfield 215, 3) := by decide +kernel
theorem dX11_begin_62 : decode cX11_begin 62 = .ok (.aload_n 0, 1) := by decide +kernel
theorem dX11_begin_63 : decode cX11_begin 63 = .ok (.getfield 83, 3) := by decide +kernel
theorem dX11_begin_66 : decode cX11_begin 66 = .ok (.ifCond .eq 7, 3) := by decide +kernel
theorem dX11_begin_69 : decode cX11_begin 69 = .ok (.iconst 1, 1) := by decide +kernel
theorem dX11_begin_70 : decode cX11_begin 70 = .ok (.goto 4, 3) := by decide +kernel
theorem dX11_begin_73 : decode cX11_begin 73 = .ok (.iconst 0, 1) := by decide +kernel
theorem dX11_begin_74 : decode cX11_begin 74 = .ok (.ireturn, 1) := by decide +kernel
theorem dX11_pass_0 : decode cX11_pass 0 = .ok (.iload_n 1, 1) := by decide +kernel
theorem dX11_pass_1 : decode cX11_pass 1 = .ok (.iconst 1, 1) := by decide +kernel
theorem dX11_pass_2 : decode cX11_pass 2 = .ok (.ldc 218, 2) := by decide +kernel
theorem dX11_pass_4 : decode cX11_pass 4 = .ok (.invokestatic 86, 3) := by decide +kernel
theorem dX11_pass_7 : decode cX11_pass 7 = .ok (.ifCond .ne 6, 3) := by decide +kernel
theorem dX11_pass_10 : decode cX11_pass 10 = .ok (.bipush (-102), 2) := by decide +kernel
theorem dX11_pass_12 : decode cX11_pass 12 = .ok (.ireturn, 1) := by decide +kernel
theorem dX11_pass_13 : decode cX11_pass 13 = .ok (.aload_n 0, 1) := by decide +kernel
theorem dX11_pass_14 : decode cX11_pass 14 = .ok (.getfield 83, 3) := by decide +kernel
theorem dX11_pass_17 : decode cX11_pass 17 = .ok (.ifCond .ne 6, 3) := by decide +kernel
theorem dX11_pass_20 : decode cX11_pass 20 = .ok (.bipush (-103), 2) := by decide +kernel
theorem dX11_pass_22 : decode cX11_pass 22 = .ok (.ireturn, 1) := by decide +kernel
theorem dX11_pass_23 : decode cX11_pass 23 = .ok (.aload_n 0, 1) := by decide +kernel
theorem dX11_pass_24 : decode cX11_pass 24 = .ok (.invokevirtual 219, 3) := by decide +kernel
theorem dX11_pass_27 : decode cX11_pass 27 = .ok (.iconst 0, 1) := by decide +kernel
theorem dX11_pass_28 : decode cX11_pass 28 = .ok (.istore_n 2, 1) := by decide +kernel
theorem dX11_pass_29 : decode cX11_pass 29 = .ok (.iconst 1, 1) := by decide +kernel
theorem dX11_pass_30 : decode cX11_pass 30 = .ok (.istore_n 3, 1) := by decide +kernel
theorem dX11_pass_31 : decode cX11_pass 31 = .ok (.iload_n 3, 1) := by decide +kernel
theorem dX11_pass_32 : decode cX11_pass 32 = .ok (.iconst 4, 1) := by decide +kernel
theorem dX11_pass_33 : decode cX11_pass 33 = .ok (.if_icmp .ge 40, 3) := by decide +kernel
theorem dX11_pass_36 : decode cX11_pass 36 = .ok (.aload_n 0, 1) := by decide +kernel
theorem dX11_pass_37 : decode cX11_pass 37 = .ok (.getfield 68, 3) := by decide +kernel
theorem dX11_pass_40 : decode cX11_pass 40 = .ok (.iload_n 3, 1) := by decide +kernel
theorem dX11_pass_41 : decode cX11_pass 41 = .ok (.dup2, 1) := by decide +kernel
theorem dX11_pass_42 : decode cX11_pass 42 = .ok (.iaload, 1) := by decide +kernel
theorem dX11_pass_43 : decode cX11_pass 43 = .ok (.iload_n 1, 1) := by decide +kernel
theorem dX11_pass_44 : decode cX11_pass 44 = .ok (.iadd, 1) := by decide +kernel
theorem dX11_pass_45 : decode cX11_pass 45 = .ok (.iastore, 1) := by decide +kernel
theorem dX11_pass_46 : decode cX11_pass 46 = .ok (.iload_n 2, 1) := by decide +kernel
theorem dX11_pass_47 : decode cX11_pass 47 = .ok (.ifCond .ne 14, 3) := by decide +kernel
theorem dX11_pass_50 : decode cX11_pass 50 = .ok (.aload_n 0, 1) := by decide +kernel
theorem dX11_pass_51 : decode cX11_pass 51 = .ok (.getfield 68, 3) := by decide +kernel
theorem dX11_pass_54 : decode cX11_pass 54 = .ok (.iload_n 3, 1) := by decide +kernel
theorem dX11_pass_55 : decode cX11_pass 55 = .ok (.iaload, 1) := by decide +kernel
theorem dX11_pass_56 : decode cX11_pass 56 = .ok (.ldc 173, 2) := by decide +kernel
theorem dX11_pass_58 : decode cX11_pass 58 = .ok (.if_icmp .le 7, 3) := by decide +kernel
theorem dX11_pass_61 : decode cX11_pass 61 = .ok (.iconst 1, 1) := by decide +kernel
theorem dX11_pass_62 : decode cX11_pass 62 = .ok (.goto 4, 3) := by decide +kernel
theorem dX11_pass_65 : decode cX11_pass 65 = .ok (.iconst 0, 1) := by decide +kernel
theorem dX11_pass_66 : decode cX11_pass 66 = .ok (.istore_n 2, 1) := by decide +kernel
theorem dX11_pass_67 : decode cX11_pass 67 = .ok (.iinc 3 1, 3) := by decide +kernel
theorem dX11_pass_70 : decode cX11_pass 70 = .ok (.goto (-39), 3) := by decide +kernel
theorem dX11_pass_73 : decode cX11_pass 73 = .ok (.iload_n 2, 1) := by decide +kernel
theorem dX11_pass_74 : decode cX11_pass 74 = .ok (.ifCond .eq 6, 3) := by decide +kernel
theorem dX11_pass_77 : decode cX11_pass 77 = .ok (.bipush (-103), 2) := by decide +kernel
theorem dX11_pass_79 : decode cX11_pass 79 = .ok (.ireturn, 1) := by decide +kernel
theorem dX11_pass_80 : decode cX11_pass 80 = .ok (.aload_n 0, 1) := by decide +kernel
theorem dX11_pass_81 : decode cX11_pass 81 = .ok (.invokevirtual 206, 3) := by decide +kernel
theorem dX11_pass_84 : decode cX11_pass 84 = .ok (.ifCond .ne 5, 3) := by decide +kernel
theorem dX11_pass_87 : decode cX11_pass 87 = .ok (.iconst 0, 1) := by decide +kernel
theorem dX11_pass_88 : decode cX11_pass 88 = .ok (.ireturn, 1) := by decide +kernel
theorem dX11_pass_89 : decode cX11_pass 89 = .ok (.aload_n 0, 1) := by decide +kernel
theorem dX11_pass_90 : decode cX11_pass 90 = .ok (.invokevirtual 209, 3) := by decide +kernel
theorem dX11_pass_93 : decode cX11_pass 93 = .ok (.aload_n 0, 1) := by decide +kernel
theorem dX11_pass_94 : decode cX11_pass 94 = .ok (.dup, 1) := by decide +kernel
theorem dX11_pass_95 : decode cX11_pass 95 = .ok (.getfield 212, 3) := by decide +kernel
theorem dX11_pass_98 : decode cX11_pass 98 = .ok (.iload_n 1, 1) := by decide +kernel
theorem dX11_pass_99 : decode cX11_pass 99 = .ok (.iadd, 1) := by decide +kernel
theorem dX11_pass_100 : decode cX11_pass 100 = .ok (.putfield 212, 3) := by decide +kernel
theorem dX11_pass_103 : decode cX11_pass 103 = .ok (.iconst 1, 1) := by decide +kernel
theorem dX11_pass_104 : decode cX11_pass 104 = .ok (.ireturn, 1) := by decide +kernel
theorem dX11_isOpen_0 : decode cX11_isOpen 0 = .ok (.aload_n 0, 1) := by decide +kernel
theorem dX11_isOpen_1 : decode cX11_isOpen 1 = .ok (.getfield 65, 3) := by decide +kernel
theorem dX11_isOpen_4 : decode cX11_isOpen 4 = .ok (.aload_n 0, 1) := by decide +kernel
theorem dX11_isOpen_5 : decode cX11_isOpen 5 = .ok (.getfield 7, 3) := by decide +kernel
theorem dX11_isOpen_8 : decode cX11_isOpen 8 = .ok (.iload_n 1, 1) := by decide +kernel
theorem dX11_isOpen_9 : decode cX11_isOpen 9 = .ok (.iaload, 1) := by decide +kernel
theorem dX11_isOpen_10 : decode cX11_isOpen 10 = .ok (.iaload, 1) := by decide +kernel
theorem dX11_isOpen_11 : decode cX11_isOpen 11 = .ok (.aload_n 0, 1) := by decide +kernel
theorem dX11_isOpen_12 : decode cX11_isOpen 12 = .ok (.getfield 13, 3) := by decide +kernel
theorem dX11_isOpen_15 : decode cX11_isOpen 15 = .ok (.iload_n 1, 1) := by decide +kernel
theorem dX11_isOpen_16 : decode cX11_isOpen 16 = .ok (.iaload, 1) := by decide +kernel
theorem dX11_isOpen_17 : decode cX11_isOpen 17 = .ok (.if_icmp .ne 7, 3) := by decide +kernel
theorem dX11_isOpen_20 : decode cX11_isOpen 20 = .ok (.iconst 1, 1) := by decide +kernel
theorem dX11_isOpen_21 : decode cX11_isOpen 21 = .ok (.goto 4, 3) := by decide +kernel
theorem dX11_isOpen_24 : decode cX11_isOpen 24 = .ok (.iconst 0, 1) := by decide +kernel
theorem dX11_isOpen_25 : decode cX11_isOpen 25 = .ok (.istore_n 2, 1) := by decide +kernel
theorem dX11_isOpen_26 : decode cX11_isOpen 26 = .ok (.iconst 0, 1) := by decide +kernel
theorem dX11_isOpen_27 : decode cX11_isOpen 27 = .ok (.istore_n 3, 1) := by decide +kernel
theorem dX11_isOpen_28 : decode cX11_isOpen 28 = .ok (.iload_n 3, 1) := by decide +kernel
theorem dX11_isOpen_29 : decode cX11_isOpen 29 = .ok (.aload_n 0, 1) := by decide +kernel
theorem dX11_isOpen_30 : decode cX11_isOpen 30 = .ok (.getfield 25, 3) := by decide +kernel
theorem dX11_isOpen_33 : decode cX11_isOpen 33 = .ok (.iload_n 1, 1) := by decide +kernel
theorem dX11_isOpen_34 : decode cX11_isOpen 34 = .ok (.iaload, 1) := by decide +kernel
theorem dX11_isOpen_35 : decode cX11_isOpen 35 = .ok (.if_icmp .ge 65, 3) := by decide +kernel
theorem dX11_isOpen_38 : decode cX11_isOpen 38 = .ok (.bipush 6, 2) := by decide +kernel
theorem dX11_isOpen_40 : decode cX11_isOpen 40 = .ok (.iload_n 1, 1) := by decide +kernel
theorem dX11_isOpen_41 : decode cX11_isOpen 41 = .ok (.imul, 1) := by decide +kernel
theorem dX11_isOpen_42 : decode cX11_isOpen 42 = .ok (.iconst 3, 1) := by decide +kernel
theorem dX11_isOpen_43 : decode cX11_isOpen 43 = .ok (.iload_n 3, 1) := by decide +kernel
theorem dX11_isOpen_44 : decode cX11_isOpen 44 = .ok (.imul, 1) := by decide +kernel
theorem dX11_isOpen_45 : decode cX11_isOpen 45 = .ok (.iadd, 1) := by decide +kernel
theorem dX11_isOpen_46 : decode cX11_isOpen 46 = .ok (.istore 4, 2) := by decide +kernel
theorem dX11_isOpen_48 : decode cX11_isOpen 48 = .ok (.iload_n 2, 1) := by decide +kernel
theorem dX11_isOpen_49 : decode cX11_isOpen 49 = .ok (.ifCond .eq 43, 3) := by decide +kernel
theorem dX11_isOpen_52 : decode cX11_isOpen 52 = .ok (.aload_n 0, 1) := by decide +kernel
theorem dX11_isOpen_53 : decode cX11_isOpen 53 = .ok (.getfield 68, 3) := by decide +kernel
theorem dX11_isOpen_56 : decode cX11_isOpen 56 = .ok (.aload_n 0, 1) := by decide +kernel
theorem dX11_isOpen_57 : decode cX11_isOpen 57 = .ok (.getfield 28, 3) := by decide +kernel
theorem dX11_isOpen_60 : decode cX11_isOpen 60 = .ok (.iload 4, 2) := by decide +kernel
theorem dX11_isOpen_62 : decode cX11_isOpen 62 = .ok (.iaload, 1) := by decide +kernel
theorem dX11_isOpen_63 : decode cX11_isOpen 63 = .ok (.iaload, 1) := by decide +kernel
theorem dX11_isOpen_64 : decode cX11_isOpen 64 = .ok (.aload_n 0, 1) := by decide +kernel
theorem dX11_isOpen_65 : decode cX11_isOpen 65 = .ok (.getfield 28, 3) := by decide +kernel
theorem dX11_isOpen_68 : decode cX11_isOpen 68 = .ok (.iload 4, 2) := by decide +kernel
theorem dX11_isOpen_70 : decode cX11_isOpen 70 = .ok (.iconst 1, 1) := by decide +kernel
theorem dX11_isOpen_71 : decode cX11_isOpen 71 = .ok (.iadd, 1) := by decide +kernel
theorem dX11_isOpen_72 : decode cX11_isOpen 72 = .ok (.iaload, 1) := by decide +kernel
theorem dX11_isOpen_73 : decode cX11_isOpen 73 = .ok (.aload_n 0, 1) := by decide +kernel
theorem dX11_isOpen_74 : decode cX11_isOpen 74 = .ok (.getfield 28, 3) := by decide +kernel
theorem dX11_isOpen_77 : decode cX11_isOpen 77 = .ok (.iload 4, 2) := by decide +kernel
theorem dX11_isOpen_79 : decode cX11_isOpen 79 = .ok (.iconst 2, 1) := by decide +kernel
theorem dX11_isOpen_80 : decode cX11_isOpen 80 = .ok (.iadd, 1) := by decide +kernel
theorem dX11_isOpen_81 : decode cX11_isOpen 81 = .ok (.iaload, 1) := by decide +kernel
theorem dX11_isOpen_82 : decode cX11_isOpen 82 = .ok (.invokestatic 203, 3) := by decide +kernel
theorem dX11_isOpen_85 : decode cX11_isOpen 85 = .ok (.ifCond .eq 7, 3) := by decide +kernel
theorem dX11_isOpen_88 : decode cX11_isOpen 88 = .ok (.iconst 1, 1) := by decide +kernel
theorem dX11_isOpen_89 : decode cX11_isOpen 89 = .ok (.goto 4, 3) := by decide +kernel
theorem dX11_isOpen_92 : decode cX11_isOpen 92 = .ok (.iconst 0, 1) := by decide +kernel
theorem dX11_isOpen_93 : decode cX11_isOpen 93 = .ok (.istore_n 2, 1) := by decide +kernel
theorem dX11_isOpen_94 : decode cX11_isOpen 94 = .ok (.iinc 3 1, 3) := by decide +kernel
theorem dX11_isOpen_97 : decode cX11_isOpen 97 = .ok (.goto (-69), 3) := by decide +kernel
theorem dX11_isOpen_100 : decode cX11_isOpen 100 = .ok (.iload_n 2, 1) := by decide +kernel
theorem dX11_isOpen_101 : decode cX11_isOpen 101 = .ok (.ireturn, 1) := by decide +kernel
theorem dX11_go_0 : decode cX11_go 0 = .ok (.aload_n 0, 1) := by decide +kernel
theorem dX11_go_1 : decode cX11_go 1 = .ok (.getfield 65, 3) := by decide +kernel
theorem dX11_go_4 : decode cX11_go 4 = .ok (.aload_n 0, 1) := by decide +kernel
theorem dX11_go_5 : decode cX11_go 5 = .ok (.getfield 7, 3) := by decide +kernel
theorem dX11_go_8 : decode cX11_go 8 = .ok (.iload_n 1, 1) := by decide +kernel
theorem dX11_go_9 : decode cX11_go 9 = .ok (.iaload, 1) := by decide +kernel
theorem dX11_go_10 : decode cX11_go 10 = .ok (.aload_n 0, 1) := by decide +kernel
theorem dX11_go_11 : decode cX11_go 11 = .ok (.getfield 16, 3) := by decide +kernel
theorem dX11_go_14 : decode cX11_go 14 = .ok (.iload_n 1, 1) := by decide +kernel
theorem dX11_go_15 : decode cX11_go 15 = .ok (.iaload, 1) := by decide +kernel
theorem dX11_go_16 : decode cX11_go 16 = .ok (.iastore, 1) := by decide +kernel
theorem dX11_go_17 : decode cX11_go 17 = .ok (.iconst 1, 1) := by decide +kernel
theorem dX11_go_18 : decode cX11_go 18 = .ok (.istore_n 2, 1) := by decide +kernel
theorem dX11_go_19 : decode cX11_go 19 = .ok (.iload_n 2, 1) := by decide +kernel
theorem dX11_go_20 : decode cX11_go 20 = .ok (.iconst 4, 1) := by decide +kernel
theorem dX11_go_21 : decode cX11_go 21 = .ok (.if_icmp .ge 39, 3) := by decide +kernel
theorem dX11_go_24 : decode cX11_go 24 = .ok (.aload_n 0, 1) := by decide +kernel
theorem dX11_go_25 : decode cX11_go 25 = .ok (.getfield 68, 3) := by decide +kernel
theorem dX11_go_28 : decode cX11_go 28 = .ok (.iload_n 2, 1) := by decide +kernel
theorem dX11_go_29 : decode cX11_go 29 = .ok (.aload_n 0, 1) := by decide +kernel
theorem dX11_go_30 : decode cX11_go 30 = .ok (.getfield 22, 3) := by decide +kernel
theorem dX11_go_33 : decode cX11_go 33 = .ok (.iload_n 1, 1) := by decide +kernel
theorem dX11_go_34 : decode cX11_go 34 = .ok (.iaload, 1) := by decide +kernel
theorem dX11_go_35 : decode cX11_go 35 = .ok (.iload_n 2, 1) := by decide +kernel
theorem dX11_go_36 : decode cX11_go 36 = .ok (.ishr, 1) := by decide +kernel
theorem dX11_go_37 : decode cX11_go 37 = .ok (.iconst 1, 1) := by decide +kernel
theorem dX11_go_38 : decode cX11_go 38 = .ok (.iand, 1) := by decide +kernel
theorem dX11_go_39 : decode cX11_go 39 = .ok (.iconst 1, 1) := by decide +kernel
theorem dX11_go_40 : decode cX11_go 40 = .ok (.if_icmp .ne 7, 3) := by decide +kernel
theorem dX11_go_43 : decode cX11_go 43 = .ok (.iconst 0, 1) := by decide +kernel
theorem dX11_go_44 : decode cX11_go 44 = .ok (.goto 9, 3) := by decide +kernel
theorem dX11_go_47 : decode cX11_go 47 = .ok (.aload_n 0, 1) := by decide +kernel
theorem dX11_go_48 : decode cX11_go 48 = .ok (.getfield 68, 3) := by decide +kernel
theorem dX11_go_51 : decode cX11_go 51 = .ok (.iload_n 2, 1) := by decide +kernel
theorem dX11_go_52 : decode cX11_go 52 = .ok (.iaload, 1) := by decide +kernel
theorem dX11_go_53 : decode cX11_go 53 = .ok (.iastore, 1) := by decide +kernel
theorem dX11_go_54 : decode cX11_go 54 = .ok (.iinc 2 1, 3) := by decide +kernel
theorem dX11_go_57 : decode cX11_go 57 = .ok (.goto (-38), 3) := by decide +kernel
theorem dX11_go_60 : decode cX11_go 60 = .ok (.return_, 1) := by decide +kernel
theorem dX11_move_0 : decode cX11_move 0 = .ok (.aload_n 0, 1) := by decide +kernel
theorem dX11_move_1 : decode cX11_move 1 = .ok (.iload_n 1, 1) := by decide +kernel
theorem dX11_move_2 : decode cX11_move 2 = .ok (.invokevirtual 107, 3) := by decide +kernel
theorem dX11_move_5 : decode cX11_move 5 = .ok (.ifCond .eq 16, 3) := by decide +kernel
theorem dX11_move_8 : decode cX11_move 8 = .ok (.iload_n 2, 1) := by decide +kernel
theorem dX11_move_9 : decode cX11_move 9 = .ok (.iconst (-1), 1) := by decide +kernel
theorem dX11_move_10 : decode cX11_move 10 = .ok (.if_icmp .eq 14, 3) := by decide +kernel
theorem dX11_move_13 : decode cX11_move 13 = .ok (.aload_n 0, 1) := by decide +kernel
theorem dX11_move_14 : decode cX11_move 14 = .ok (.iload_n 2, 1) := by decide +kernel
theorem dX11_move_15 : decode cX11_move 15 = .ok (.invokevirtual 107, 3) := by decide +kernel
theorem dX11_move_18 : decode cX11_move 18 = .ok (.ifCond .ne 6, 3) := by decide +kernel
theorem dX11_move_21 : decode cX11_move 21 = .ok (.bipush (-101), 2) := by decide +kernel
theorem dX11_move_23 : decode cX11_move 23 = .ok (.ireturn, 1) := by decide +kernel
theorem dX11_move_24 : decode cX11_move 24 = .ok (.aload_n 0, 1) := by decide +kernel
theorem dX11_move_25 : decode cX11_move 25 = .ok (.iload_n 1, 1) := by decide +kernel
theorem dX11_move_26 : decode cX11_move 26 = .ok (.iload_n 2, 1) := by decide +kernel
theorem dX11_move_27 : decode cX11_move 27 = .ok (.invokevirtual 155, 3) := by decide +kernel
theorem dX11_move_30 : decode cX11_move 30 = .ok (.ifCond .ne 6, 3) := by decide +kernel
theorem dX11_move_33 : decode cX11_move 33 = .ok (.bipush (-102), 2) := by decide +kernel
theorem dX11_move_35 : decode cX11_move 35 = .ok (.ireturn, 1) := by decide +kernel
theorem dX11_move_36 : decode cX11_move 36 = .ok (.aload_n 0, 1) := by decide +kernel
theorem dX11_move_37 : decode cX11_move 37 = .ok (.getfield 83, 3) := by decide +kernel
theorem dX11_move_40 : decode cX11_move 40 = .ok (.ifCond .ne 6, 3) := by decide +kernel
theorem dX11_move_43 : decode cX11_move 43 = .ok (.bipush (-103), 2) := by decide +kernel
theorem dX11_move_45 : decode cX11_move 45 = .ok (.ireturn, 1) := by decide +kernel
theorem dX11_move_46 : decode cX11_move 46 = .ok (.aload_n 0, 1) := by decide +kernel
theorem dX11_move_47 : decode cX11_move 47 = .ok (.invokevirtual 219, 3) := by decide +kernel
theorem dX11_move_50 : decode cX11_move 50 = .ok (.aload_n 0, 1) := by decide +kernel
theorem dX11_move_51 : decode cX11_move 51 = .ok (.iload_n 1, 1) := by decide +kernel
theorem dX11_move_52 : decode cX11_move 52 = .ok (.invokevirtual 222, 3) := by decide +kernel
theorem dX11_move_55 : decode cX11_move 55 = .ok (.ifCond .eq 16, 3) := by decide +kernel
theorem dX11_move_58 : decode cX11_move 58 = .ok (.iload_n 2, 1) := by decide +kernel
theorem dX11_move_59 : decode cX11_move 59 = .ok (.iconst (-1), 1) := by decide +kernel
theorem dX11_move_60 : decode cX11_move 60 = .ok (.if_icmp .eq 13, 3) := by decide +kernel
theorem dX11_move_63 : decode cX11_move 63 = .ok (.aload_n 0, 1) := by decide +kernel
theorem dX11_move_64 : decode cX11_move 64 = .ok (.iload_n 2, 1) := by decide +kernel
theorem dX11_move_65 : decode cX11_move 65 = .ok (.invokevirtual 222, 3) := by decide +kernel
theorem dX11_move_68 : decode cX11_move 68 = .ok (.ifCond .ne 5, 3) := by decide +kernel
theorem dX11_move_71 : decode cX11_move 71 = .ok (.iconst 0, 1) := by decide +kernel
theorem dX11_move_72 : decode cX11_move 72 = .ok (.ireturn, 1) := by decide +kernel
theorem dX11_move_73 : decode cX11_move 73 = .ok (.aload_n 0, 1) := by decide +kernel
theorem dX11_move_74 : decode cX11_move 74 = .ok (.iload_n 1, 1) := by decide +kernel
theorem dX11_move_75 : decode cX11_move 75 = .ok (.invokevirtual 225, 3) := by decide +kernel
theorem dX11_move_78 : decode cX11_move 78 = .ok (.iload_n 2, 1) := by decide +kernel
theorem dX11_move_79 : decode cX11_move 79 = .ok (.iconst (-1), 1) := by decide +kernel
theorem dX11_move_80 : decode cX11_move 80 = .ok (.if_icmp .eq 8, 3) := by decide +kernel
theorem dX11_move_83 : decode cX11_move 83 = .ok (.aload_n 0, 1) := by decide +kernel
theorem dX11_move_84 : decode cX11_move 84 = .ok (.iload_n 2, 1) := by decide +kernel
theorem dX11_move_85 : decode cX11_move 85 = .ok (.invokevirtual 225, 3) := by decide +kernel
theorem dX11_move_88 : decode cX11_move 88 = .ok (.aload_n 0, 1) := by decide +kernel
theorem dX11_move_89 : decode cX11_move 89 = .ok (.invokevirtual 206, 3) := by decide +kernel
theorem dX11_move_92 : decode cX11_move 92 = .ok (.ifCond .ne 5, 3) := by decide +kernel
theorem dX11_move_95 : decode cX11_move 95 = .ok (.iconst 0, 1) := by decide +kernel
theorem dX11_move_96 : decode cX11_move 96 = .ok (.ireturn, 1) := by decide +kernel
theorem dX11_move_97 : decode cX11_move 97 = .ok (.aload_n 0, 1) := by decide +kernel
theorem dX11_move_98 : decode cX11_move 98 = .ok (.invokevirtual 209, 3) := by decide +kernel
theorem dX11_move_101 : decode cX11_move 101 = .ok (.aload_n 0, 1) := by decide +kernel
theorem dX11_move_102 : decode cX11_move 102 = .ok (.dup, 1) := by decide +kernel
theorem dX11_move_103 : decode cX11_move 103 = .ok (.getfield 215, 3) := by decide +kernel
theorem dX11_move_106 : decode cX11_move 106 = .ok (.iconst 1, 1) := by decide +kernel
theorem dX11_move_107 : decode cX11_move 107 = .ok (.iadd, 1) := by decide +kernel
theorem dX11_move_108 : decode cX11_move 108 = .ok (.putfield 215, 3) := by decide +kernel
theorem dX11_move_111 : decode cX11_move 111 = .ok (.iconst 1, 1) := by decide +kernel
theorem dX11_move_112 : decode cX11_move 112 = .ok (.ireturn, 1) := by decide +kernel
theorem dX11_run_0 : decode cX11_run 0 = .ok (.aload_n 0, 1) := by decide +kernel
theorem dX11_run_1 : decode cX11_run 1 = .ok (.getfield 83, 3) := by decide +kernel
theorem dX11_run_4 : decode cX11_run 4 = .ok (.ifCond .ne 6, 3) := by decide +kernel
theorem dX11_run_7 : decode cX11_run 7 = .ok (.bipush (-103), 2) := by decide +kernel
theorem dX11_run_9 : decode cX11_run 9 = .ok (.ireturn, 1) := by decide +kernel
theorem dX11_run_10 : decode cX11_run 10 = .ok (.iload_n 1, 1) := by decide +kernel
theorem dX11_run_11 : decode cX11_run 11 = .ok (.iconst 0, 1) := by decide +kernel
theorem dX11_run_12 : decode cX11_run 12 = .ok (.bipush 8, 2) := by decide +kernel
theorem dX11_run_14 : decode cX11_run 14 = .ok (.invokestatic 86, 3) := by decide +kernel
theorem dX11_run_17 : decode cX11_run 17 = .ok (.ifCond .eq 8, 3) := by decide +kernel
theorem dX11_run_20 : decode cX11_run 20 = .ok (.iload_n 1, 1) := by decide +kernel
theorem dX11_run_21 : decode cX11_run 21 = .ok (.iconst 3, 1) := by decide +kernel
theorem dX11_run_22 : decode cX11_run 22 = .ok (.if_icmp .ne 6, 3) := by decide +kernel
theorem dX11_run_25 : decode cX11_run 25 = .ok (.bipush (-102), 2) := by decide +kernel
theorem dX11_run_27 : decode cX11_run 27 = .ok (.ireturn, 1) := by decide +kernel
theorem dX11_run_28 : decode cX11_run 28 = .ok (.iload_n 1, 1) := by decide +kernel
theorem dX11_run_29 : decode cX11_run 29 = .ok (.iconst 3, 1) := by decide +kernel
theorem dX11_run_30 : decode cX11_run 30 = .ok (.if_icmp .ge 12, 3) := by decide +kernel
theorem dX11_run_33 : decode cX11_run 33 = .ok (.aload_n 0, 1) := by decide +kernel
theorem dX11_run_34 : decode cX11_run 34 = .ok (.getfield 77, 3) := by decide +kernel
theorem dX11_run_37 : decode cX11_run 37 = .ok (.iload_n 1, 1) := by decide +kernel
theorem dX11_run_38 : decode cX11_run 38 = .ok (.iaload, 1) := by decide +kernel
theorem dX11_run_39 : decode cX11_run 39 = .ok (.goto 37, 3) := by decide +kernel
theorem dX11_run_42 : decode cX11_run 42 = .ok (.iload_n 1, 1) := by decide +kernel
theorem dX11_run_43 : decode cX11_run 43 = .ok (.bipush 7, 2) := by decide +kernel
theorem dX11_run_45 : decode cX11_run 45 = .ok (.if_icmp .ge 14, 3) := by decide +kernel
theorem dX11_run_48 : decode cX11_run 48 = .ok (.aload_n 0, 1) := by decide +kernel
theorem dX11_run_49 : decode cX11_run 49 = .ok (.getfield 80, 3) := by decide +kernel
theorem dX11_run_52 : decode cX11_run 52 = .ok (.iload_n 1, 1) := by decide +kernel
theorem dX11_run_53 : decode cX11_run 53 = .ok (.iconst 3, 1) := by decide +kernel
theorem dX11_run_54 : decode cX11_run 54 = .ok (.isub, 1) := by decide +kernel
theorem dX11_run_55 : decode cX11_run 55 = .ok (.iaload, 1) := by decide +kernel
theorem dX11_run_56 : decode cX11_run 56 = .ok (.goto 20, 3) := by decide +kernel
theorem dX11_run_59 : decode cX11_run 59 = .ok (.iload_n 1, 1) := by decide +kernel
theorem dX11_run_60 : decode cX11_run 60 = .ok (.bipush 7, 2) := by decide +kernel
theorem dX11_run_62 : decode cX11_run 62 = .ok (.if_icmp .ne 10, 3) := by decide +kernel
theorem dX11_run_65 : decode cX11_run 65 = .ok (.aload_n 0, 1) := by decide +kernel
theorem dX11_run_66 : decode cX11_run 66 = .ok (.getfield 212, 3) := by decide +kernel
theorem dX11_run_69 : decode cX11_run 69 = .ok (.goto 7, 3) := by decide +kernel
theorem dX11_run_72 : decode cX11_run 72 = .ok (.aload_n 0, 1) := by decide +kernel
theorem dX11_run_73 : decode cX11_run 73 = .ok (.getfield 215, 3) := by decide +kernel
theorem dX11_run_76 : decode cX11_run 76 = .ok (.ireturn, 1) := by decide +kernel
theorem dX11_here_0 : decode cX11_here 0 = .ok (.aload_n 0, 1) := by decide +kernel
theorem dX11_here_1 : decode cX11_here 1 = .ok (.getfield 83, 3) := by decide +kernel
theorem dX11_here_4 : decode cX11_here 4 = .ok (.ifCond .eq 10, 3) := by decide +kernel
theorem dX11_here_7 : decode cX11_here 7 = .ok (.aload_n 0, 1) := by decide +kernel
theorem dX11_here_8 : decode cX11_here 8 = .ok (.getfield 37, 3) := by decide +kernel
theorem dX11_here_11 : decode cX11_here 11 = .ok (.ifCond .eq 6, 3) := by decide +kernel
theorem dX11_here_14 : decode cX11_here 14 = .ok (.bipush (-103), 2) := by decide +kernel
theorem dX11_here_16 : decode cX11_here 16 = .ok (.ireturn, 1) := by decide +kernel
theorem dX11_here_17 : decode cX11_here 17 = .ok (.aload_n 0, 1) := by decide +kernel
theorem dX11_here_18 : decode cX11_here 18 = .ok (.invokevirtual 219, 3) := by decide +kernel
theorem dX11_here_21 : decode cX11_here 21 = .ok (.iconst 0, 1) := by decide +kernel
theorem dX11_here_22 : decode cX11_here 22 = .ok (.istore_n 1, 1) := by decide +kernel
theorem dX11_here_23 : decode cX11_here 23 = .ok (.iload_n 1, 1) := by decide +kernel
theorem dX11_here_24 : decode cX11_here 24 = .ok (.aload_n 0, 1) := by decide +kernel
theorem dX11_here_25 : decode cX11_here 25 = .ok (.getfield 94, 3) := by decide +kernel
theorem dX11_here_28 : decode cX11_here 28 = .ok (.if_icmp .ge 67, 3) := by decide +kernel
theorem dX11_here_31 : decode cX11_here 31 = .ok (.iconst 1, 1) := by decide +kernel
theorem dX11_here_32 : decode cX11_here 32 = .ok (.istore_n 2, 1) := by decide +kernel
theorem dX11_here_33 : decode cX11_here 33 = .ok (.iconst 0, 1) := by decide +kernel
theorem dX11_here_34 : decode cX11_here 34 = .ok (.istore_n 3, 1) := by decide +kernel
theorem dX11_here_35 : decode cX11_here 35 = .ok (.iload_n 3, 1) := by decide +kernel
theorem dX11_here_36 : decode cX11_here 36 = .ok (.iconst 3, 1) := by decide +kernel
theorem dX11_here_37 : decode cX11_here 37 = .ok (.if_icmp .ge 38, 3) := by decide +kernel
theorem dX11_here_40 : decode cX11_here 40 = .ok (.iload_n 2, 1) := by decide +kernel
theorem dX11_here_41 : decode cX11_here 41 = .ok (.ifCond .eq 26, 3) := by decide +kernel
theorem dX11_here_44 : decode cX11_here 44 = .ok (.aload_n 0, 1) := by decide +kernel
theorem dX11_here_45 : decode cX11_here 45 = .ok (.getfield 41, 3) := by decide +kernel
theorem dX11_here_48 : decode cX11_here 48 = .ok (.iconst 3, 1) := by decide +kernel
theorem dX11_here_49 : decode cX11_here 49 = .ok (.iload_n 1, 1) := by decide +kernel
theorem dX11_here_50 : decode cX11_here 50 = .ok (.imul, 1) := by decide +kernel
theorem dX11_here_51 : decode cX11_here 51 = .ok (.iload_n 3, 1) := by decide +kernel
theorem dX11_here_52 : decode cX11_here 52 = .ok (.iadd, 1) := by decide +kernel
theorem dX11_here_53 : decode cX11_here 53 = .ok (.iaload, 1) := by decide +kernel
theorem dX11_here_54 : decode cX11_here 54 = .ok (.aload_n 0, 1) := by decide +kernel
theorem dX11_here_55 : decode cX11_here 55 = .ok (.getfield 65, 3) := by decide +kernel
theorem dX11_here_58 : decode cX11_here 58 = .ok (.iload_n 3, 1) := by decide +kernel
theorem dX11_here_59 : decode cX11_here 59 = .ok (.iaload, 1) := by decide +kernel
theorem dX11_here_60 : decode cX11_here 60 = .ok (.if_icmp .ne 7, 3) := by decide +kernel
theorem dX11_here_63 : decode cX11_here 63 = .ok (.iconst 1, 1) := by decide +kernel
theorem dX11_here_64 : decode cX11_here 64 = .ok (.goto 4, 3) := by decide +kernel
theorem dX11_here_67 : decode cX11_here 67 = .ok (.iconst 0, 1) := by decide +kernel
theorem dX11_here_68 : decode cX11_here 68 = .ok (.istore_n 2, 1) := by decide +kernel
theorem dX11_here_69 : decode cX11_here 69 = .ok (.iinc 3 1, 3) := by decide +kernel
theorem dX11_here_72 : decode cX11_here 72 = .ok (.goto (-37), 3) := by decide +kernel
theorem dX11_here_75 : decode cX11_here 75 = .ok (.iload_n 2, 1) := by decide +kernel
theorem dX11_here_76 : decode cX11_here 76 = .ok (.ifCond .eq 13, 3) := by decide +kernel
theorem dX11_here_79 : decode cX11_here 79 = .ok (.aload_n 0, 1) := by decide +kernel
theorem dX11_here_80 : decode cX11_here 80 = .ok (.iload_n 1, 1) := by decide +kernel
theorem dX11_here_81 : decode cX11_here 81 = .ok (.invokevirtual 174, 3) := by decide +kernel
theorem dX11_here_84 : decode cX11_here 84 = .ok (.ifCond .eq 5, 3) := by decide +kernel
theorem dX11_here_87 : decode cX11_here 87 = .ok (.iload_n 1, 1) := by decide +kernel
theorem dX11_here_88 : decode cX11_here 88 = .ok (.ireturn, 1) := by decide +kernel
theorem dX11_here_89 : decode cX11_here 89 = .ok (.iinc 1 1, 3) := by decide +kernel
theorem dX11_here_92 : decode cX11_here 92 = .ok (.goto (-69), 3) := by decide +kernel
theorem dX11_here_95 : decode cX11_here 95 = .ok (.iconst (-1), 1) := by decide +kernel
theorem dX11_here_96 : decode cX11_here 96 = .ok (.ireturn, 1) := by decide +kernel
theorem dX11_about_0 : decode cX11_about 0 = .ok (.aload_n 0, 1) := by decide +kernel
theorem dX11_about_1 : decode cX11_about 1 = .ok (.iload_n 1, 1) := by decide +kernel
theorem dX11_about_2 : decode cX11_about 2 = .ok (.invokevirtual 107, 3) := by decide +kernel
theorem dX11_about_5 : decode cX11_about 5 = .ok (.ifCond .ne 6, 3) := by decide +kernel
theorem dX11_about_8 : decode cX11_about 8 = .ok (.bipush (-101), 2) := by decide +kernel
theorem dX11_about_10 : decode cX11_about 10 = .ok (.ireturn, 1) := by decide +kernel
theorem dX11_about_11 : decode cX11_about 11 = .ok (.iload_n 2, 1) := by decide +kernel
theorem dX11_about_12 : decode cX11_about 12 = .ok (.tableswitch 82 0 5 #[40, 47, 54, 61, 68, 75], 40) := by decide +kernel
theorem dX11_about_52 : decode cX11_about 52 = .ok (.aload_n 0, 1) := by decide +kernel
theorem dX11_about_53 : decode cX11_about 53 = .ok (.getfield 7, 3) := by decide +kernel
theorem dX11_about_56 : decode cX11_about 56 = .ok (.iload_n 1, 1) := by decide +kernel
theorem dX11_about_57 : decode cX11_about 57 = .ok (.iaload, 1) := by decide +kernel
theorem dX11_about_58 : decode cX11_about 58 = .ok (.ireturn, 1) := by decide +kernel
theorem dX11_about_59 : decode cX11_about 59 = .ok (.aload_n 0, 1) := by decide +kernel
theorem dX11_about_60 : decode cX11_about 60 = .ok (.getfield 13, 3) := by decide +kernel
theorem dX11_about_63 : decode cX11_about 63 = .ok (.iload_n 1, 1) := by decide +kernel
theorem dX11_about_64 : decode cX11_about 64 = .ok (.iaload, 1) := by decide +kernel
theorem dX11_about_65 : decode cX11_about 65 = .ok (.ireturn, 1) := by decide +kernel
theorem dX11_about_66 : decode cX11_about 66 = .ok (.aload_n 0, 1) := by decide +kernel
theorem dX11_about_67 : decode cX11_about 67 = .ok (.getfield 16, 3) := by decide +kernel
theorem dX11_about_70 : decode cX11_about 70 = .ok (.iload_n 1, 1) := by decide +kernel
theorem dX11_about_71 : decode cX11_about 71 = .ok (.iaload, 1) := by decide +kernel
theorem dX11_about_72 : decode cX11_about 72 = .ok (.ireturn, 1) := by decide +kernel
theorem dX11_about_73 : decode cX11_about 73 = .ok (.aload_n 0, 1) := by decide +kernel
theorem dX11_about_74 : decode cX11_about 74 = .ok (.getfield 19, 3) := by decide +kernel
theorem dX11_about_77 : decode cX11_about 77 = .ok (.iload_n 1, 1) := by decide +kernel
theorem dX11_about_78 : decode cX11_about 78 = .ok (.iaload, 1) := by decide +kernel
theorem dX11_about_79 : decode cX11_about 79 = .ok (.ireturn, 1) := by decide +kernel
theorem dX11_about_80 : decode cX11_about 80 = .ok (.aload_n 0, 1) := by decide +kernel
theorem dX11_about_81 : decode cX11_about 81 = .ok (.getfield 22, 3) := by decide +kernel
theorem dX11_about_84 : decode cX11_about 84 = .ok (.iload_n 1, 1) := by decide +kernel
theorem dX11_about_85 : decode cX11_about 85 = .ok (.iaload, 1) := by decide +kernel
theorem dX11_about_86 : decode cX11_about 86 = .ok (.ireturn, 1) := by decide +kernel
theorem dX11_about_87 : decode cX11_about 87 = .ok (.aload_n 0, 1) := by decide +kernel
theorem dX11_about_88 : decode cX11_about 88 = .ok (.getfield 25, 3) := by decide +kernel
theorem dX11_about_91 : decode cX11_about 91 = .ok (.iload_n 1, 1) := by decide +kernel
theorem dX11_about_92 : decode cX11_about 92 = .ok (.iaload, 1) := by decide +kernel
theorem dX11_about_93 : decode cX11_about 93 = .ok (.ireturn, 1) := by decide +kernel
theorem dX11_about_94 : decode cX11_about 94 = .ok (.bipush (-102), 2) := by decide +kernel
theorem dX11_about_96 : decode cX11_about 96 = .ok (.ireturn, 1) := by decide +kernel
theorem dX11_moveCount_0 : decode cX11_moveCount 0 = .ok (.iconst 0, 1) := by decide +kernel
theorem dX11_moveCount_1 : decode cX11_moveCount 1 = .ok (.istore_n 1, 1) := by decide +kernel
theorem dX11_moveCount_2 : decode cX11_moveCount 2 = .ok (.iconst 0, 1) := by decide +kernel
theorem dX11_moveCount_3 : decode cX11_moveCount 3 = .ok (.istore_n 2, 1) := by decide +kernel
theorem dX11_moveCount_4 : decode cX11_moveCount 4 = .ok (.iload_n 2, 1) := by decide +kernel
theorem dX11_moveCount_5 : decode cX11_moveCount 5 = .ok (.aload_n 0, 1) := by decide +kernel
theorem dX11_moveCount_6 : decode cX11_moveCount 6 = .ok (.getfield 90, 3) := by decide +kernel
theorem dX11_moveCount_9 : decode cX11_moveCount 9 = .ok (.if_icmp .ge 42, 3) := by decide +kernel
theorem dX11_moveCount_12 : decode cX11_moveCount 12 = .ok (.iconst (-1), 1) := by decide +kernel
theorem dX11_moveCount_13 : decode cX11_moveCount 13 = .ok (.istore_n 3, 1) := by decide +kernel
theorem dX11_moveCount_14 : decode cX11_moveCount 14 = .ok (.iload_n 3, 1) := by decide +kernel
theorem dX11_moveCount_15 : decode cX11_moveCount 15 = .ok (.aload_n 0, 1) := by decide +kernel
theorem dX11_moveCount_16 : decode cX11_moveCount 16 = .ok (.getfield 90, 3) := by decide +kernel
theorem dX11_moveCount_19 : decode cX11_moveCount 19 = .ok (.if_icmp .ge 26, 3) := by decide +kernel
theorem dX11_moveCount_22 : decode cX11_moveCount 22 = .ok (.iload_n 1, 1) := by decide +kernel
theorem dX11_moveCount_23 : decode cX11_moveCount 23 = .ok (.aload_n 0, 1) := by decide +kernel
theorem dX11_moveCount_24 : decode cX11_moveCount 24 = .ok (.iload_n 2, 1) := by decide +kernel
theorem dX11_moveCount_25 : decode cX11_moveCount 25 = .ok (.iload_n 3, 1) := by decide +kernel
theorem dX11_moveCount_26 : decode cX11_moveCount 26 = .ok (.invokevirtual 155, 3) := by decide +kernel
theorem dX11_moveCount_29 : decode cX11_moveCount 29 = .ok (.ifCond .eq 7, 3) := by decide +kernel
theorem dX11_moveCount_32 : decode cX11_moveCount 32 = .ok (.iconst 1, 1) := by decide +kernel
theorem dX11_moveCount_33 : decode cX11_moveCount 33 = .ok (.goto 4, 3) := by decide +kernel
theorem dX11_moveCount_36 : decode cX11_moveCount 36 = .ok (.iconst 0, 1) := by decide +kernel
theorem dX11_moveCount_37 : decode cX11_moveCount 37 = .ok (.iadd, 1) := by decide +kernel
theorem dX11_moveCount_38 : decode cX11_moveCount 38 = .ok (.istore_n 1, 1) := by decide +kernel
theorem dX11_moveCount_39 : decode cX11_moveCount 39 = .ok (.iinc 3 1, 3) := by decide +kernel
theorem dX11_moveCount_42 : decode cX11_moveCount 42 = .ok (.goto (-28), 3) := by decide +kernel
theorem dX11_moveCount_45 : decode cX11_moveCount 45 = .ok (.iinc 2 1, 3) := by decide +kernel
theorem dX11_moveCount_48 : decode cX11_moveCount 48 = .ok (.goto (-44), 3) := by decide +kernel
theorem dX11_moveCount_51 : decode cX11_moveCount 51 = .ok (.iload_n 1, 1) := by decide +kernel
theorem dX11_moveCount_52 : decode cX11_moveCount 52 = .ok (.ireturn, 1) := by decide +kernel
theorem dX11_count_0 : decode cX11_count 0 = .ok (.iconst 0, 1) := by decide +kernel
theorem dX11_count_1 : decode cX11_count 1 = .ok (.istore_n 2, 1) := by decide +kernel
theorem dX11_count_2 : decode cX11_count 2 = .ok (.iload_n 1, 1) := by decide +kernel
theorem dX11_count_3 : decode cX11_count 3 = .ok (.tableswitch 126 0 6 #[41, 46, 71, 98, 103, 108, 121], 41) := by decide +kernel
theorem dX11_count_44 : decode cX11_count 44 = .ok (.aload_n 0, 1) := by decide +kernel
theorem dX11_count_45 : decode cX11_count 45 = .ok (.getfield 90, 3) := by decide +kernel
theorem dX11_count_48 : decode cX11_count 48 = .ok (.ireturn, 1) := by decide +kernel
theorem dX11_count_49 : decode cX11_count 49 = .ok (.iconst 0, 1) := by decide +kernel
theorem dX11_count_50 : decode cX11_count 50 = .ok (.istore_n 3, 1) := by decide +kernel
theorem dX11_count_51 : decode cX11_count 51 = .ok (.iload_n 3, 1) := by decide +kernel
theorem dX11_count_52 : decode cX11_count 52 = .ok (.bipush 18, 2) := by decide +kernel
theorem dX11_count_54 : decode cX11_count 54 = .ok (.if_icmp .ge 18, 3) := by decide +kernel
theorem dX11_count_57 : decode cX11_count 57 = .ok (.iload_n 2, 1) := by decide +kernel
theorem dX11_count_58 : decode cX11_count 58 = .ok (.aload_n 0, 1) := by decide +kernel
theorem dX11_count_59 : decode cX11_count 59 = .ok (.getfield 31, 3) := by decide +kernel
theorem dX11_count_62 : decode cX11_count 62 = .ok (.iload_n 3, 1) := by decide +kernel
theorem dX11_count_63 : decode cX11_count 63 = .ok (.iaload, 1) := by decide +kernel
theorem dX11_count_64 : decode cX11_count 64 = .ok (.iadd, 1) := by decide +kernel
theorem dX11_count_65 : decode cX11_count 65 = .ok (.istore_n 2, 1) := by decide +kernel
theorem dX11_count_66 : decode cX11_count 66 = .ok (.iinc 3 1, 3) := by decide +kernel
theorem dX11_count_69 : decode cX11_count 69 = .ok (.goto (-18), 3) := by decide +kernel
theorem dX11_count_72 : decode cX11_count 72 = .ok (.iload_n 2, 1) := by decide +kernel
theorem dX11_count_73 : decode cX11_count 73 = .ok (.ireturn, 1) := by decide +kernel
theorem dX11_count_74 : decode cX11_count 74 = .ok (.iconst 0, 1) := by decide +kernel
theorem dX11_count_75 : decode cX11_count 75 = .ok (.istore_n 3, 1) := by decide +kernel
theorem dX11_count_76 : decode cX11_count 76 = .ok (.iload_n 3, 1) := by decide +kernel
theorem dX11_count_77 : decode cX11_count 77 = .ok (.aload_n 0, 1) := by decide +kernel
theorem dX11_count_78 : decode cX11_count 78 = .ok (.getfield 90, 3) := by decide +kernel
theorem dX11_count_81 : decode cX11_count 81 = .ok (.if_icmp .ge 18, 3) := by decide +kernel
theorem dX11_count_84 : decode cX11_count 84 = .ok (.iload_n 2, 1) := by decide +kernel
theorem dX11_count_85 : decode cX11_count 85 = .ok (.aload_n 0, 1) := by decide +kernel
theorem dX11_count_86 : decode cX11_count 86 = .ok (.getfield 25, 3) := by decide +kernel
theorem dX11_count_89 : decode cX11_count 89 = .ok (.iload_n 3, 1) := by decide +kernel
theorem dX11_count_90 : decode cX11_count 90 = .ok (.iaload, 1) := by decide +kernel
theorem dX11_count_91 : decode cX11_count 91 = .ok (.iadd, 1) := by decide +kernel
theorem dX11_count_92 : decode cX11_count 92 = .ok (.istore_n 2, 1) := by decide +kernel
theorem dX11_count_93 : decode cX11_count 93 = .ok (.iinc 3 1, 3) := by decide +kernel
theorem dX11_count_96 : decode cX11_count 96 = .ok (.goto (-20), 3) := by decide +kernel
theorem dX11_count_99 : decode cX11_count 99 = .ok (.iload_n 2, 1) := by decide +kernel
theorem dX11_count_100 : decode cX11_count 100 = .ok (.ireturn, 1) := by decide +kernel
theorem dX11_count_101 : decode cX11_count 101 = .ok (.aload_n 0, 1) := by decide +kernel
theorem dX11_count_102 : decode cX11_count 102 = .ok (.getfield 94, 3) := by decide +kernel
theorem dX11_count_105 : decode cX11_count 105 = .ok (.ireturn, 1) := by decide +kernel
theorem dX11_count_106 : decode cX11_count 106 = .ok (.aload_n 0, 1) := by decide +kernel
theorem dX11_count_107 : decode cX11_count 107 = .ok (.invokevirtual 228, 3) := by decide +kernel
theorem dX11_count_110 : decode cX11_count 110 = .ok (.ireturn, 1) := by decide +kernel
theorem dX11_count_111 : decode cX11_count 111 = .ok (.aload_n 0, 1) := by decide +kernel
theorem dX11_count_112 : decode cX11_count 112 = .ok (.getfield 37, 3) := by decide +kernel
theorem dX11_count_115 : decode cX11_count 115 = .ok (.ifCond .eq 7, 3) := by decide +kernel
theorem dX11_count_118 : decode cX11_count 118 = .ok (.iconst 1, 1) := by decide +kernel
theorem dX11_count_119 : decode cX11_count 119 = .ok (.goto 4, 3) := by decide +kernel
theorem dX11_count_122 : decode cX11_count 122 = .ok (.iconst 0, 1) := by decide +kernel
theorem dX11_count_123 : decode cX11_count 123 = .ok (.ireturn, 1) := by decide +kernel
theorem dX11_count_124 : decode cX11_count 124 = .ok (.aload_n 0, 1) := by decide +kernel
theorem dX11_count_125 : decode cX11_count 125 = .ok (.getfield 149, 3) := by decide +kernel
theorem dX11_count_128 : decode cX11_count 128 = .ok (.ireturn, 1) := by decide +kernel
theorem dX11_count_129 : decode cX11_count 129 = .ok (.bipush (-102), 2) := by decide +kernel
theorem dX11_count_131 : decode cX11_count 131 = .ok (.ireturn, 1) := by decide +kernel
theorem dX11_mix_0 : decode cX11_mix 0 = .ok (.aload_n 0, 1) := by decide +kernel
theorem dX11_mix_1 : decode cX11_mix 1 = .ok (.ldc2_w 232, 3) := by decide +kernel
theorem dX11_mix_4 : decode cX11_mix 4 = .ok (.aload_n 0, 1) := by decide +kernel
theorem dX11_mix_5 : decode cX11_mix 5 = .ok (.getfield 234, 3) := by decide +kernel
theorem dX11_mix_8 : decode cX11_mix 8 = .ok (.lmul, 1) := by decide +kernel
theorem dX11_mix_9 : decode cX11_mix 9 = .ok (.lload_n 1, 1) := by decide +kernel
theorem dX11_mix_10 : decode cX11_mix 10 = .ok (.ladd, 1) := by decide +kernel
theorem dX11_mix_11 : decode cX11_mix 11 = .ok (.putfield 234, 3) := by decide +kernel
theorem dX11_mix_14 : decode cX11_mix 14 = .ok (.return_, 1) := by decide +kernel
theorem dX11_digest_0 : decode cX11_digest 0 = .ok (.aload_n 0, 1) := by decide +kernel
theorem dX11_digest_1 : decode cX11_digest 1 = .ok (.ldc2_w 238, 3) := by decide +kernel
theorem dX11_digest_4 : decode cX11_digest 4 = .ok (.putfield 234, 3) := by decide +kernel
theorem dX11_digest_7 : decode cX11_digest 7 = .ok (.iconst 0, 1) := by decide +kernel
theorem dX11_digest_8 : decode cX11_digest 8 = .ok (.istore_n 1, 1) := by decide +kernel
theorem dX11_digest_9 : decode cX11_digest 9 = .ok (.iload_n 1, 1) := by decide +kernel
theorem dX11_digest_10 : decode cX11_digest 10 = .ok (.aload_n 0, 1) := by decide +kernel
theorem dX11_digest_11 : decode cX11_digest 11 = .ok (.getfield 90, 3) := by decide +kernel
theorem dX11_digest_14 : decode cX11_digest 14 = .ok (.if_icmp .ge 70, 3) := by decide +kernel
theorem dX11_digest_17 : decode cX11_digest 17 = .ok (.iconst 0, 1) := by decide +kernel
theorem dX11_digest_18 : decode cX11_digest 18 = .ok (.istore_n 2, 1) := by decide +kernel
theorem dX11_digest_19 : decode cX11_digest 19 = .ok (.iload_n 2, 1) := by decide +kernel
theorem dX11_digest_20 : decode cX11_digest 20 = .ok (.bipush 6, 2) := by decide +kernel
theorem dX11_digest_22 : decode cX11_digest 22 = .ok (.if_icmp .ge 20, 3) := by decide +kernel
theorem dX11_digest_25 : decode cX11_digest 25 = .ok (.aload_n 0, 1) := by decide +kernel
theorem dX11_digest_26 : decode cX11_digest 26 = .ok (.aload_n 0, 1) := by decide +kernel
theorem dX11_digest_27 : decode cX11_digest 27 = .ok (.iload_n 1, 1) := by decide +kernel
theorem dX11_digest_28 : decode cX11_digest 28 = .ok (.iload_n 2, 1) := by decide +kernel
theorem dX11_digest_29 : decode cX11_digest 29 = .ok (.invokevirtual 240, 3) := by decide +kernel
theorem dX11_digest_32 : decode cX11_digest 32 = .ok (.i2l, 1) := by decide +kernel
theorem dX11_digest_33 : decode cX11_digest 33 = .ok (.invokevirtual 243, 3) := by decide +kernel
theorem dX11_digest_36 : decode cX11_digest 36 = .ok (.iinc 2 1, 3) := by decide +kernel
theorem dX11_digest_39 : decode cX11_digest 39 = .ok (.goto (-20), 3) := by decide +kernel
theorem dX11_digest_42 : decode cX11_digest 42 = .ok (.iconst 0, 1) := by decide +kernel
theorem dX11_digest_43 : decode cX11_digest 43 = .ok (.istore_n 2, 1) := by decide +kernel
theorem dX11_digest_44 : decode cX11_digest 44 = .ok (.iload_n 2, 1) := by decide +kernel
theorem dX11_digest_45 : decode cX11_digest 45 = .ok (.iconst 3, 1) := by decide +kernel
theorem dX11_digest_46 : decode cX11_digest 46 = .ok (.aload_n 0, 1) := by decide +kernel
theorem dX11_digest_47 : decode cX11_digest 47 = .ok (.getfield 25, 3) := by decide +kernel
theorem dX11_digest_50 : decode cX11_digest 50 = .ok (.iload_n 1, 1) := by decide +kernel
theorem dX11_digest_51 : decode cX11_digest 51 = .ok (.iaload, 1) := by decide +kernel
theorem dX11_digest_52 : decode cX11_digest 52 = .ok (.imul, 1) := by decide +kernel
theorem dX11_digest_53 : decode cX11_digest 53 = .ok (.if_icmp .ge 25, 3) := by decide +kernel
theorem dX11_digest_56 : decode cX11_digest 56 = .ok (.aload_n 0, 1) := by decide +kernel
theorem dX11_digest_57 : decode cX11_digest 57 = .ok (.aload_n 0, 1) := by decide +kernel
theorem dX11_digest_58 : decode cX11_digest 58 = .ok (.getfield 28, 3) := by decide +kernel
theorem dX11_digest_61 : decode cX11_digest 61 = .ok (.bipush 6, 2) := by decide +kernel
theorem dX11_digest_63 : decode cX11_digest 63 = .ok (.iload_n 1, 1) := by decide +kernel
theorem dX11_digest_64 : decode cX11_digest 64 = .ok (.imul, 1) := by decide +kernel
theorem dX11_digest_65 : decode cX11_digest 65 = .ok (.iload_n 2, 1) := by decide +kernel
theorem dX11_digest_66 : decode cX11_digest 66 = .ok (.iadd, 1) := by decide +kernel
theorem dX11_digest_67 : decode cX11_digest 67 = .ok (.iaload, 1) := by decide +kernel
theorem dX11_digest_68 : decode cX11_digest 68 = .ok (.i2l, 1) := by decide +kernel
theorem dX11_digest_69 : decode cX11_digest 69 = .ok (.invokevirtual 243, 3) := by decide +kernel
theorem dX11_digest_72 : decode cX11_digest 72 = .ok (.iinc 2 1, 3) := by decide +kernel
theorem dX11_digest_75 : decode cX11_digest 75 = .ok (.goto (-31), 3) := by decide +kernel
theorem dX11_digest_78 : decode cX11_digest 78 = .ok (.iinc 1 1, 3) := by decide +kernel
theorem dX11_digest_81 : decode cX11_digest 81 = .ok (.goto (-72), 3) := by decide +kernel
theorem dX11_digest_84 : decode cX11_digest 84 = .ok (.iconst 0, 1) := by decide +kernel
theorem dX11_digest_85 : decode cX11_digest 85 = .ok (.istore_n 1, 1) := by decide +kernel
theorem dX11_digest_86 : decode cX11_digest 86 = .ok (.iload_n 1, 1) := by decide +kernel
theorem dX11_digest_87 : decode cX11_digest 87 = .ok (.bipush 18, 2) := by decide +kernel
theorem dX11_digest_89 : decode cX11_digest 89 = .ok (.if_icmp .ge 56, 3) := by decide +kernel
theorem dX11_digest_92 : decode cX11_digest 92 = .ok (.aload_n 0, 1) := by decide +kernel
theorem dX11_digest_93 : decode cX11_digest 93 = .ok (.aload_n 0, 1) := by decide +kernel
theorem dX11_digest_94 : decode cX11_digest 94 = .ok (.getfield 31, 3) := by decide +kernel
theorem dX11_digest_97 : decode cX11_digest 97 = .ok (.iload_n 1, 1) := by decide +kernel
theorem dX11_digest_98 : decode cX11_digest 98 = .ok (.iaload, 1) := by decide +kernel
theorem dX11_digest_99 : decode cX11_digest 99 = .ok (.i2l, 1) := by decide +kernel
theorem dX11_digest_100 : decode cX11_digest 100 = .ok (.invokevirtual 243, 3) := by decide +kernel
theorem dX11_digest_103 : decode cX11_digest 103 = .ok (.iconst 0, 1) := by decide +kernel
theorem dX11_digest_104 : decode cX11_digest 104 = .ok (.istore_n 2, 1) := by decide +kernel
theorem dX11_digest_105 : decode cX11_digest 105 = .ok (.iload_n 2, 1) := by decide +kernel
theorem dX11_digest_106 : decode cX11_digest 106 = .ok (.iconst 3, 1) := by decide +kernel
theorem dX11_digest_107 : decode cX11_digest 107 = .ok (.aload_n 0, 1) := by decide +kernel
theorem dX11_digest_108 : decode cX11_digest 108 = .ok (.getfield 31, 3) := by decide +kernel
theorem dX11_digest_111 : decode cX11_digest 111 = .ok (.iload_n 1, 1) := by decide +kernel
theorem dX11_digest_112 : decode cX11_digest 112 = .ok (.iaload, 1) := by decide +kernel
theorem dX11_digest_113 : decode cX11_digest 113 = .ok (.imul, 1) := by decide +kernel
theorem dX11_digest_114 : decode cX11_digest 114 = .ok (.if_icmp .ge 25, 3) := by decide +kernel
theorem dX11_digest_117 : decode cX11_digest 117 = .ok (.aload_n 0, 1) := by decide +kernel
theorem dX11_digest_118 : decode cX11_digest 118 = .ok (.aload_n 0, 1) := by decide +kernel
theorem dX11_digest_119 : decode cX11_digest 119 = .ok (.getfield 34, 3) := by decide +kernel
theorem dX11_digest_122 : decode cX11_digest 122 = .ok (.bipush 6, 2) := by decide +kernel
theorem dX11_digest_124 : decode cX11_digest 124 = .ok (.iload_n 1, 1) := by decide +kernel
theorem dX11_digest_125 : decode cX11_digest 125 = .ok (.imul, 1) := by decide +kernel
theorem dX11_digest_126 : decode cX11_digest 126 = .ok (.iload_n 2, 1) := by decide +kernel
theorem dX11_digest_127 : decode cX11_digest 127 = .ok (.iadd, 1) := by decide +kernel
theorem dX11_digest_128 : decode cX11_digest 128 = .ok (.iaload, 1) := by decide +kernel
theorem dX11_digest_129 : decode cX11_digest 129 = .ok (.i2l, 1) := by decide +kernel
theorem dX11_digest_130 : decode cX11_digest 130 = .ok (.invokevirtual 243, 3) := by decide +kernel
theorem dX11_digest_133 : decode cX11_digest 133 = .ok (.iinc 2 1, 3) := by decide +kernel
theorem dX11_digest_136 : decode cX11_digest 136 = .ok (.goto (-31), 3) := by decide +kernel
theorem dX11_digest_139 : decode cX11_digest 139 = .ok (.iinc 1 1, 3) := by decide +kernel
theorem dX11_digest_142 : decode cX11_digest 142 = .ok (.goto (-56), 3) := by decide +kernel
theorem dX11_digest_145 : decode cX11_digest 145 = .ok (.iconst 0, 1) := by decide +kernel
theorem dX11_digest_146 : decode cX11_digest 146 = .ok (.istore_n 1, 1) := by decide +kernel
theorem dX11_digest_147 : decode cX11_digest 147 = .ok (.aload_n 0, 1) := by decide +kernel
theorem dX11_digest_148 : decode cX11_digest 148 = .ok (.getfield 37, 3) := by decide +kernel
theorem dX11_digest_151 : decode cX11_digest 151 = .ok (.ifCond .ne 72, 3) := by decide +kernel
theorem dX11_digest_154 : decode cX11_digest 154 = .ok (.iload_n 1, 1) := by decide +kernel
theorem dX11_digest_155 : decode cX11_digest 155 = .ok (.aload_n 0, 1) := by decide +kernel
theorem dX11_digest_156 : decode cX11_digest 156 = .ok (.getfield 94, 3) := by decide +kernel
theorem dX11_digest_159 : decode cX11_digest 159 = .ok (.if_icmp .ge 64, 3) := by decide +kernel
theorem dX11_digest_162 : decode cX11_digest 162 = .ok (.iconst 0, 1) := by decide +kernel
theorem dX11_digest_163 : decode cX11_digest 163 = .ok (.istore_n 2, 1) := by decide +kernel
theorem dX11_digest_164 : decode cX11_digest 164 = .ok (.iload_n 2, 1) := by decide +kernel
theorem dX11_digest_165 : decode cX11_digest 165 = .ok (.bipush 7, 2) := by decide +kernel
theorem dX11_digest_167 : decode cX11_digest 167 = .ok (.if_icmp .ge 20, 3) := by decide +kernel
theorem dX11_digest_170 : decode cX11_digest 170 = .ok (.aload_n 0, 1) := by decide +kernel
theorem dX11_digest_171 : decode cX11_digest 171 = .ok (.aload_n 0, 1) := by decide +kernel
theorem dX11_digest_172 : decode cX11_digest 172 = .ok (.iload_n 1, 1) := by decide +kernel
theorem dX11_digest_173 : decode cX11_digest 173 = .ok (.iload_n 2, 1) := by decide +kernel
theorem dX11_digest_174 : decode cX11_digest 174 = .ok (.invokevirtual 168, 3) := by decide +kernel
theorem dX11_digest_177 : decode cX11_digest 177 = .ok (.i2l, 1) := by decide +kernel
theorem dX11_digest_178 : decode cX11_digest 178 = .ok (.invokevirtual 243, 3) := by decide +kernel
theorem dX11_digest_181 : decode cX11_digest 181 = .ok (.iinc 2 1, 3) := by decide +kernel
theorem dX11_digest_184 : decode cX11_digest 184 = .ok (.goto (-20), 3) := by decide +kernel
theorem dX11_digest_187 : decode cX11_digest 187 = .ok (.iconst 0, 1) := by decide +kernel
theorem dX11_digest_188 : decode cX11_digest 188 = .ok (.istore_n 2, 1) := by decide +kernel
theorem dX11_digest_189 : decode cX11_digest 189 = .ok (.iload_n 2, 1) := by decide +kernel
theorem dX11_digest_190 : decode cX11_digest 190 = .ok (.bipush 16, 2) := by decide +kernel
theorem dX11_digest_192 : decode cX11_digest 192 = .ok (.if_icmp .ge 25, 3) := by decide +kernel
theorem dX11_digest_195 : decode cX11_digest 195 = .ok (.aload_n 0, 1) := by decide +kernel
theorem dX11_digest_196 : decode cX11_digest 196 = .ok (.aload_n 0, 1) := by decide +kernel
theorem dX11_digest_197 : decode cX11_digest 197 = .ok (.getfield 44, 3) := by decide +kernel
theorem dX11_digest_200 : decode cX11_digest 200 = .ok (.bipush 16, 2) := by decide +kernel
theorem dX11_digest_202 : decode cX11_digest 202 = .ok (.iload_n 1, 1) := by decide +kernel
theorem dX11_digest_203 : decode cX11_digest 203 = .ok (.imul, 1) := by decide +kernel
theorem dX11_digest_204 : decode cX11_digest 204 = .ok (.iload_n 2, 1) := by decide +kernel
theorem dX11_digest_205 : decode cX11_digest 205 = .ok (.iadd, 1) := by decide +kernel
theorem dX11_digest_206 : decode cX11_digest 206 = .ok (.iaload, 1) := by decide +kernel
theorem dX11_digest_207 : decode cX11_digest 207 = .ok (.i2l, 1) := by decide +kernel
theorem dX11_digest_208 : decode cX11_digest 208 = .ok (.invokevirtual 243, 3) := by decide +kernel
theorem dX11_digest_211 : decode cX11_digest 211 = .ok (.iinc 2 1, 3) := by decide +kernel
theorem dX11_digest_214 : decode cX11_digest 214 = .ok (.goto (-25), 3) := by decide +kernel
theorem dX11_digest_217 : decode cX11_digest 217 = .ok (.iinc 1 1, 3) := by decide +kernel
theorem dX11_digest_220 : decode cX11_digest 220 = .ok (.goto (-73), 3) := by decide +kernel
theorem dX11_digest_223 : decode cX11_digest 223 = .ok (.aload_n 0, 1) := by decide +kernel
theorem dX11_digest_224 : decode cX11_digest 224 = .ok (.aload_n 0, 1) := by decide +kernel
theorem dX11_digest_225 : decode cX11_digest 225 = .ok (.getfield 83, 3) := by decide +kernel
theorem dX11_digest_228 : decode cX11_digest 228 = .ok (.ifCond .eq 7, 3) := by decide +kernel
theorem dX11_digest_231 : decode cX11_digest 231 = .ok (.lconst 1, 1) := by decide +kernel
theorem dX11_digest_232 : decode cX11_digest 232 = .ok (.goto 4, 3) := by decide +kernel
theorem dX11_digest_235 : decode cX11_digest 235 = .ok (.lconst 0, 1) := by decide +kernel
theorem dX11_digest_236 : decode cX11_digest 236 = .ok (.invokevirtual 243, 3) := by decide +kernel
theorem dX11_digest_239 : decode cX11_digest 239 = .ok (.iconst 0, 1) := by decide +kernel
theorem dX11_digest_240 : decode cX11_digest 240 = .ok (.istore_n 1, 1) := by decide +kernel
theorem dX11_digest_241 : decode cX11_digest 241 = .ok (.aload_n 0, 1) := by decide +kernel
theorem dX11_digest_242 : decode cX11_digest 242 = .ok (.getfield 83, 3) := by decide +kernel
theorem dX11_digest_245 : decode cX11_digest 245 = .ok (.ifCond .eq 30, 3) := by decide +kernel
theorem dX11_digest_248 : decode cX11_digest 248 = .ok (.iload_n 1, 1) := by decide +kernel
theorem dX11_digest_249 : decode cX11_digest 249 = .ok (.bipush 9, 2) := by decide +kernel
theorem dX11_digest_251 : decode cX11_digest 251 = .ok (.if_icmp .ge 24, 3) := by decide +kernel
theorem dX11_digest_254 : decode cX11_digest 254 = .ok (.iload_n 1, 1) := by decide +kernel
theorem dX11_digest_255 : decode cX11_digest 255 = .ok (.iconst 3, 1) := by decide +kernel
theorem dX11_digest_256 : decode cX11_digest 256 = .ok (.if_icmp .eq 13, 3) := by decide +kernel
theorem dX11_digest_259 : decode cX11_digest 259 = .ok (.aload_n 0, 1) := by decide +kernel
theorem dX11_digest_260 : decode cX11_digest 260 = .ok (.aload_n 0, 1) := by decide +kernel
theorem dX11_digest_261 : decode cX11_digest 261 = .ok (.iload_n 1, 1) := by decide +kernel
theorem dX11_digest_262 : decode cX11_digest 262 = .ok (.invokevirtual 247, 3) := by decide +kernel
theorem dX11_digest_265 : decode cX11_digest 265 = .ok (.i2l, 1) := by decide +kernel
theorem dX11_digest_266 : decode cX11_digest 266 = .ok (.invokevirtual 243, 3) := by decide +kernel
theorem dX11_digest_269 : decode cX11_digest 269 = .ok (.iinc 1 1, 3) := by decide +kernel
theorem dX11_digest_272 : decode cX11_digest 272 = .ok (.goto (-31), 3) := by decide +kernel
theorem dX11_digest_275 : decode cX11_digest 275 = .ok (.aload_n 0, 1) := by decide +kernel
theorem dX11_digest_276 : decode cX11_digest 276 = .ok (.getfield 234, 3) := by decide +kernel
theorem dX11_digest_279 : decode cX11_digest 279 = .ok (.lreturn, 1) := by decide +kernel
end
section
theorem dX0_init_0 : decode cX0_init 0 = .ok (.aload_n 0, 1) := by decide +kernel
theorem dX0_init_1 : decode cX0_init 1 = .ok (.invokespecial 1, 3) := by decide +kernel
theorem dX0_init_4 : decode cX0_init 4 = .ok (.aload_n 0, 1) := by decide +kernel
theorem dX0_init_5 : decode cX0_init 5 = .ok (.new 7, 3) := by decide +kernel
theorem dX0_init_8 : decode cX0_init 8 = .ok (.dup, 1) := by decide +kernel
theorem dX0_init_9 : decode cX0_init 9 = .ok (.invokespecial 9, 3) := by decide +kernel
theorem dX0_init_12 : decode cX0_init 12 = .ok (.putfield 10, 3) := by decide +kernel
theorem dX0_init_15 : decode cX0_init 15 = .ok (.aload_n 0, 1) := by decide +kernel
theorem dX0_init_16 : decode cX0_init 16 = .ok (.iload_n 1, 1) := by decide +kernel
theorem dX0_init_17 : decode cX0_init 17 = .ok (.putfield 16, 3) := by decide +kernel
theorem dX0_init_20 : decode cX0_init 20 = .ok (.aload_n 0, 1) := by decide +kernel
theorem dX0_init_21 : decode cX0_init 21 = .ok (.iload_n 2, 1) := by decide +kernel
theorem dX0_init_22 : decode cX0_init 22 = .ok (.putfield 20, 3) := by decide +kernel
theorem dX0_init_25 : decode cX0_init 25 = .ok (.aload_n 0, 1) := by decide +kernel
theorem dX0_init_26 : decode cX0_init 26 = .ok (.iload_n 3, 1) := by decide +kernel
theorem dX0_init_27 : decode cX0_init 27 = .ok (.putfield 23, 3) := by decide +kernel
theorem dX0_init_30 : decode cX0_init 30 = .ok (.aload_n 0, 1) := by decide +kernel
theorem dX0_init_31 : decode cX0_init 31 = .ok (.iload 4, 2) := by decide +kernel
theorem dX0_init_33 : decode cX0_init 33 = .ok (.putfield 26, 3) := by decide +kernel
theorem dX0_init_36 : decode cX0_init 36 = .ok (.aload_n 0, 1) := by decide +kernel
theorem dX0_init_37 : decode cX0_init 37 = .ok (.iload 5, 2) := by decide +kernel
theorem dX0_init_39 : decode cX0_init 39 = .ok (.putfield 29, 3) := by decide +kernel
theorem dX0_init_42 : decode cX0_init 42 = .ok (.return_, 1) := by decide +kernel
theorem dX0_isAnsweredBy_0 : decode cX0_isAnsweredBy 0 = .ok (.aload_n 0, 1) := by decide +kernel
theorem dX0_isAnsweredBy_1 : decode cX0_isAnsweredBy 1 = .ok (.getfield 26, 3) := by decide +kernel
theorem dX0_isAnsweredBy_4 : decode cX0_isAnsweredBy 4 = .ok (.ifCond .le 30, 3) := by decide +kernel
theorem dX0_isAnsweredBy_7 : decode cX0_isAnsweredBy 7 = .ok (.aload_n 1, 1) := by decide +kernel
theorem dX0_isAnsweredBy_8 : decode cX0_isAnsweredBy 8 = .ok (.getfield 26, 3) := by decide +kernel
theorem dX0_isAnsweredBy_11 : decode cX0_isAnsweredBy 11 = .ok (.aload_n 0, 1) := by decide +kernel
theorem dX0_isAnsweredBy_12 : decode cX0_isAnsweredBy 12 = .ok (.getfield 26, 3) := by decide +kernel
theorem dX0_isAnsweredBy_15 : decode cX0_isAnsweredBy 15 = .ok (.ineg, 1) := by decide +kernel
theorem dX0_isAnsweredBy_16 : decode cX0_isAnsweredBy 16 = .ok (.if_icmp .ne 18, 3) := by decide +kernel
theorem dX0_isAnsweredBy_19 : decode cX0_isAnsweredBy 19 = .ok (.aload_n 1, 1) := by decide +kernel
theorem dX0_isAnsweredBy_20 : decode cX0_isAnsweredBy 20 = .ok (.getfield 16, 3) := by decide +kernel
theorem dX0_isAnsweredBy_23 : decode cX0_isAnsweredBy 23 = .ok (.aload_n 0, 1) := by decide +kernel
theorem dX0_isAnsweredBy_24 : decode cX0_isAnsweredBy 24 = .ok (.getfield 16, 3) := by decide +kernel
theorem dX0_isAnsweredBy_27 : decode cX0_isAnsweredBy 27 = .ok (.if_icmp .eq 7, 3) := by decide +kernel
theorem dX0_isAnsweredBy_30 : decode cX0_isAnsweredBy 30 = .ok (.iconst 1, 1) := by decide +kernel
theorem dX0_isAnsweredBy_31 : decode cX0_isAnsweredBy 31 = .ok (.goto 4, 3) := by decide +kernel
theorem dX0_isAnsweredBy_34 : decode cX0_isAnsweredBy 34 = .ok (.iconst 0, 1) := by decide +kernel
theorem dX0_isAnsweredBy_35 : decode cX0_isAnsweredBy 35 = .ok (.ireturn, 1) := by decide +kernel
theorem dX1_init_0 : decode cX1_init 0 = .ok (.aload_n 0, 1) := by decide +kernel
theorem dX1_init_1 : decode cX1_init 1 = .ok (.invokespecial 1, 3) := by decide +kernel
theorem dX1_init_4 : decode cX1_init 4 = .ok (.aload_n 0, 1) := by decide +kernel
theorem dX1_init_5 : decode cX1_init 5 = .ok (.iload_n 1, 1) := by decide +kernel
theorem dX1_init_6 : decode cX1_init 6 = .ok (.putfield 7, 3) := by decide +kernel
theorem dX1_init_9 : decode cX1_init 9 = .ok (.aload_n 0, 1) := by decide +kernel
theorem dX1_init_10 : decode cX1_init 10 = .ok (.iload_n 2, 1) := by decide +kernel
theorem dX1_init_11 : decode cX1_init 11 = .ok (.putfield 13, 3) := by decide +kernel
theorem dX1_init_14 : decode cX1_init 14 = .ok (.aload_n 0, 1) := by decide +kernel
theorem dX1_init_15 : decode cX1_init 15 = .ok (.aload_n 3, 1) := by decide +kernel
theorem dX1_init_16 : decode cX1_init 16 = .ok (.putfield 16, 3) := by decide +kernel
theorem dX1_init_19 : decode cX1_init 19 = .ok (.aload_n 0, 1) := by decide +kernel
theorem dX1_init_20 : decode cX1_init 20 = .ok (.aload 4, 2) := by decide +kernel
theorem dX1_init_22 : decode cX1_init 22 = .ok (.putfield 20, 3) := by decide +kernel
theorem dX1_init_25 : decode cX1_init 25 = .ok (.aload_n 0, 1) := by decide +kernel
theorem dX1_init_26 : decode cX1_init 26 = .ok (.aload 4, 2) := by decide +kernel
theorem dX1_init_28 : decode cX1_init 28 = .ok (.ifnonnull 10, 3) := by decide +kernel
theorem dX1_init_31 : decode cX1_init 31 = .ok (.aload_n 3, 1) := by decide +kernel
theorem dX1_init_32 : decode cX1_init 32 = .ok (.getfield 23, 3) := by decide +kernel
theorem dX1_init_35 : decode cX1_init 35 = .ok (.goto 13, 3) := by decide +kernel
theorem dX1_init_38 : decode cX1_init 38 = .ok (.aload_n 3, 1) := by decide +kernel
theorem dX1_init_39 : decode cX1_init 39 = .ok (.getfield 23, 3) := by decide +kernel
theorem dX1_init_42 : decode cX1_init 42 = .ok (.aload 4, 2) := by decide +kernel
theorem dX1_init_44 : decode cX1_init 44 = .ok (.getfield 23, 3) := by decide +kernel
theorem dX1_init_47 : decode cX1_init 47 = .ok (.ior, 1) := by decide +kernel
theorem dX1_init_48 : decode cX1_init 48 = .ok (.putfield 28, 3) := by decide +kernel
theorem dX1_init_51 : decode cX1_init 51 = .ok (.return_, 1) := by decide +kernel
theorem dX1_comesAfter_0 : decode cX1_comesAfter 0 = .ok (.aload_n 0, 1) := by decide +kernel
theorem dX1_comesAfter_1 : decode cX1_comesAfter 1 = .ok (.getfield 7, 3) := by decide +kernel
theorem dX1_comesAfter_4 : decode cX1_comesAfter 4 = .ok (.aload_n 1, 1) := by decide +kernel
theorem dX1_comesAfter_5 : decode cX1_comesAfter 5 = .ok (.getfield 7, 3) := by decide +kernel
theorem dX1_comesAfter_8 : decode cX1_comesAfter 8 = .ok (.if_icmp .eq 22, 3) := by decide +kernel
theorem dX1_comesAfter_11 : decode cX1_comesAfter 11 = .ok (.aload_n 0, 1) := by decide +kernel
theorem dX1_comesAfter_12 : decode cX1_comesAfter 12 = .ok (.getfield 7, 3) := by decide +kernel
theorem dX1_comesAfter_15 : decode cX1_comesAfter 15 = .ok (.aload_n 1, 1) := by decide +kernel
theorem dX1_comesAfter_16 : decode cX1_comesAfter 16 = .ok (.getfield 7, 3) := by decide +kernel
theorem dX1_comesAfter_19 : decode cX1_comesAfter 19 = .ok (.if_icmp .le 7, 3) := by decide +kernel
theorem dX1_comesAfter_22 : decode cX1_comesAfter 22 = .ok (.iconst 1, 1) := by decide +kernel
theorem dX1_comesAfter_23 : decode cX1_comesAfter 23 = .ok (.goto 23, 3) := by decide +kernel
theorem dX1_comesAfter_26 : decode cX1_comesAfter 26 = .ok (.iconst 0, 1) := by decide +kernel
theorem dX1_comesAfter_27 : decode cX1_comesAfter 27 = .ok (.goto 19, 3) := by decide +kernel
theorem dX1_comesAfter_30 : decode cX1_comesAfter 30 = .ok (.aload_n 0, 1) := by decide +kernel
theorem dX1_comesAfter_31 : decode cX1_comesAfter 31 = .ok (.getfield 13, 3) := by decide +kernel
theorem dX1_comesAfter_34 : decode cX1_comesAfter 34 = .ok (.aload_n 1, 1) := by decide +kernel
theorem dX1_comesAfter_35 : decode cX1_comesAfter 35 = .ok (.getfield 13, 3) := by decide +kernel
theorem dX1_comesAfter_38 : decode cX1_comesAfter 38 = .ok (.if_icmp .le 7, 3) := by decide +kernel
theorem dX1_comesAfter_41 : decode cX1_comesAfter 41 = .ok (.iconst 1, 1) := by decide +kernel
theorem dX1_comesAfter_42 : decode cX1_comesAfter 42 = .ok (.goto 4, 3) := by decide +kernel
theorem dX1_comesAfter_45 : decode cX1_comesAfter 45 = .ok (.iconst 0, 1) := by decide +kernel
theorem dX1_comesAfter_46 : decode cX1_comesAfter 46 = .ok (.ireturn, 1) := by decide +kernel
theorem dX1_startsAt_0 : decode cX1_startsAt 0 = .ok (.aload_n 1, 1) := by decide +kernel
theorem dX1_startsAt_1 : decode cX1_startsAt 1 = .ok (.aload_n 0, 1) := by decide +kernel
theorem dX1_startsAt_2 : decode cX1_startsAt 2 = .ok (.getfield 16, 3) := by decide +kernel
theorem dX1_startsAt_5 : decode cX1_startsAt 5 = .ok (.getfield 29, 3) := by decide +kernel
theorem dX1_startsAt_8 : decode cX1_startsAt 8 = .ok (.iaload, 1) := by decide +kernel
theorem dX1_startsAt_9 : decode cX1_startsAt 9 = .ok (.aload_n 0, 1) := by decide +kernel
theorem dX1_startsAt_10 : decode cX1_startsAt 10 = .ok (.getfield 16, 3) := by decide +kernel
theorem dX1_startsAt_13 : decode cX1_startsAt 13 = .ok (.getfield 32, 3) := by decide +kernel
theorem dX1_startsAt_16 : decode cX1_startsAt 16 = .ok (.if_icmp .ne 33, 3) := by decide +kernel
theorem dX1_startsAt_19 : decode cX1_startsAt 19 = .ok (.aload_n 0, 1) := by decide +kernel
theorem dX1_startsAt_20 : decode cX1_startsAt 20 = .ok (.getfield 20, 3) := by decide +kernel
theorem dX1_startsAt_23 : decode cX1_startsAt 23 = .ok (.ifnull 22, 3) := by decide +kernel
theorem dX1_startsAt_26 : decode cX1_startsAt 26 = .ok (.aload_n 1, 1) := by decide +kernel
theorem dX1_startsAt_27 : decode cX1_startsAt 27 = .ok (.aload_n 0, 1) := by decide +kernel
theorem dX1_startsAt_28 : decode cX1_startsAt 28 = .ok (.getfield 20, 3) := by decide +kernel
theorem dX1_startsAt_31 : decode cX1_startsAt 31 = .ok (.getfield 29, 3) := by decide +kernel
theorem dX1_startsAt_34 : decode cX1_startsAt 34 = .ok (.iaload, 1) := by decide +kernel
theorem dX1_startsAt_35 : decode cX1_startsAt 35 = .ok (.aload_n 0, 1) := by decide +kernel
theorem dX1_startsAt_36 : decode cX1_startsAt 36 = .ok (.getfield 20, 3) := by decide +kernel
theorem dX1_startsAt_39 : decode cX1_startsAt 39 = .ok (.getfield 32, 3) := by decide +kernel
theorem dX1_startsAt_42 : decode cX1_startsAt 42 = .ok (.if_icmp .ne 7, 3) := by decide +kernel
theorem dX1_startsAt_45 : decode cX1_startsAt 45 = .ok (.iconst 1, 1) := by decide +kernel
theorem dX1_startsAt_46 : decode cX1_startsAt 46 = .ok (.goto 4, 3) := by decide +kernel
theorem dX1_startsAt_49 : decode cX1_startsAt 49 = .ok (.iconst 0, 1) := by decide +kernel
theorem dX1_startsAt_50 : decode cX1_startsAt 50 = .ok (.ireturn, 1) := by decide +kernel
theorem dX1_carry_0 : decode cX1_carry 0 = .ok (.aload_n 1, 1) := by decide +kernel
theorem dX1_carry_1 : decode cX1_carry 1 = .ok (.aload_n 0, 1) := by decide +kernel
theorem dX1_carry_2 : decode cX1_carry 2 = .ok (.getfield 16, 3) := by decide +kernel
theorem dX1_carry_5 : decode cX1_carry 5 = .ok (.getfield 29, 3) := by decide +kernel
theorem dX1_carry_8 : decode cX1_carry 8 = .ok (.aload_n 0, 1) := by decide +kernel
theorem dX1_carry_9 : decode cX1_carry 9 = .ok (.getfield 16, 3) := by decide +kernel
theorem dX1_carry_12 : decode cX1_carry 12 = .ok (.getfield 35, 3) := by decide +kernel
theorem dX1_carry_15 : decode cX1_carry 15 = .ok (.iastore, 1) := by decide +kernel
theorem dX1_carry_16 : decode cX1_carry 16 = .ok (.aload_n 0, 1) := by decide +kernel
theorem dX1_carry_17 : decode cX1_carry 17 = .ok (.getfield 20, 3) := by decide +kernel
theorem dX1_carry_20 : decode cX1_carry 20 = .ok (.ifnull 19, 3) := by decide +kernel
theorem dX1_carry_23 : decode cX1_carry 23 = .ok (.aload_n 1, 1) := by decide +kernel
theorem dX1_carry_24 : decode cX1_carry 24 = .ok (.aload_n 0, 1) := by decide +kernel
theorem dX1_carry_25 : decode cX1_carry 25 = .ok (.getfield 20, 3) := by decide +kernel
theorem dX1_carry_28 : decode cX1_carry 28 = .ok (.getfield 29, 3) := by decide +kernel
theorem dX1_carry_31 : decode cX1_carry 31 = .ok (.aload_n 0, 1) := by decide +kernel
theorem dX1_carry_32 : decode cX1_carry 32 = .ok (.getfield 20, 3) := by decide +kernel
theorem dX1_carry_35 : decode cX1_carry 35 = .ok (.getfield 35, 3) := by decide +kernel
theorem dX1_carry_38 : decode cX1_carry 38 = .ok (.iastore, 1) := by decide +kernel
theorem dX1_carry_39 : decode cX1_carry 39 = .ok (.return_, 1) := by decide +kernel
theorem dX1_sets_0 : decode cX1_sets 0 = .ok (.aload_n 0, 1) := by decide +kernel
theorem dX1_sets_1 : decode cX1_sets 1 = .ok (.getfield 28, 3) := by decide +kernel
theorem dX1_sets_4 : decode cX1_sets 4 = .ok (.iload_n 1, 1) := by decide +kernel
theorem dX1_sets_5 : decode cX1_sets 5 = .ok (.ishr, 1) := by decide +kernel
theorem dX1_sets_6 : decode cX1_sets 6 = .ok (.iconst 1, 1) := by decide +kernel
theorem dX1_sets_7 : decode cX1_sets 7 = .ok (.iand, 1) := by decide +kernel
theorem dX1_sets_8 : decode cX1_sets 8 = .ok (.ifCond .eq 7, 3) := by decide +kernel
theorem dX1_sets_11 : decode cX1_sets 11 = .ok (.iconst 1, 1) := by decide +kernel
theorem dX1_sets_12 : decode cX1_sets 12 = .ok (.goto 4, 3) := by decide +kernel
theorem dX1_sets_15 : decode cX1_sets 15 = .ok (.iconst 0, 1) := by decide +kernel
theorem dX1_sets_16 : decode cX1_sets 16 = .ok (.ireturn, 1) := by decide +kernel
theorem dX1_guardsAllow_0 : decode cX1_guardsAllow 0 = .ok (.aload_n 0, 1) := by decide +kernel
theorem dX1_guardsAllow_1 : decode cX1_guardsAllow 1 = .ok (.getfield 16, 3) := by decide +kernel
theorem dX1_guardsAllow_4 : decode cX1_guardsAllow 4 = .ok (.getfield 38, 3) := by decide +kernel
theorem dX1_guardsAllow_7 : decode cX1_guardsAllow 7 = .ok (.aload_n 1, 1) := by decide +kernel
theorem dX1_guardsAllow_8 : decode cX1_guardsAllow 8 = .ok (.invokevirtual 42, 3) := by decide +kernel
theorem dX1_guardsAllow_11 : decode cX1_guardsAllow 11 = .ok (.ifCond .eq 28, 3) := by decide +kernel
theorem dX1_guardsAllow_14 : decode cX1_guardsAllow 14 = .ok (.aload_n 0, 1) := by decide +kernel
theorem dX1_guardsAllow_15 : decode cX1_guardsAllow 15 = .ok (.getfield 20, 3) := by decide +kernel
theorem dX1_guardsAllow_18 : decode cX1_guardsAllow 18 = .ok (.ifnull 17, 3) := by decide +kernel
theorem dX1_guardsAllow_21 : decode cX1_guardsAllow 21 = .ok (.aload_n 0, 1) := by decide +kernel
theorem dX1_guardsAllow_22 : decode cX1_guardsAllow 22 = .ok (.getfield 20, 3) := by decide +kernel
theorem dX1_guardsAllow_25 : decode cX1_guardsAllow 25 = .ok (.getfield 38, 3) := by decide +kernel
theorem dX1_guardsAllow_28 : decode cX1_guardsAllow 28 = .ok (.aload_n 1, 1) := by decide +kernel
theorem dX1_guardsAllow_29 : decode cX1_guardsAllow 29 = .ok (.invokevirtual 42, 3) := by decide +kernel
theorem dX1_guardsAllow_32 : decode cX1_guardsAllow 32 = .ok (.ifCond .eq 7, 3) := by decide +kernel
theorem dX1_guardsAllow_35 : decode cX1_guardsAllow 35 = .ok (.iconst 1, 1) := by decide +kernel
theorem dX1_guardsAllow_36 : decode cX1_guardsAllow 36 = .ok (.goto 4, 3) := by decide +kernel
theorem dX1_guardsAllow_39 : decode cX1_guardsAllow 39 = .ok (.iconst 0, 1) := by decide +kernel
theorem dX1_guardsAllow_40 : decode cX1_guardsAllow 40 = .ok (.ireturn, 1) := by decide +kernel
theorem dX1_guardsNarrow_0 : decode cX1_guardsNarrow 0 = .ok (.aload_n 0, 1) := by decide +kernel
theorem dX1_guardsNarrow_1 : decode cX1_guardsNarrow 1 = .ok (.getfield 16, 3) := by decide +kernel
theorem dX1_guardsNarrow_4 : decode cX1_guardsNarrow 4 = .ok (.getfield 38, 3) := by decide +kernel
theorem dX1_guardsNarrow_7 : decode cX1_guardsNarrow 7 = .ok (.aload_n 1, 1) := by decide +kernel
theorem dX1_guardsNarrow_8 : decode cX1_guardsNarrow 8 = .ok (.invokevirtual 48, 3) := by decide +kernel
theorem dX1_guardsNarrow_11 : decode cX1_guardsNarrow 11 = .ok (.ifCond .eq 28, 3) := by decide +kernel
theorem dX1_guardsNarrow_14 : decode cX1_guardsNarrow 14 = .ok (.aload_n 0, 1) := by decide +kernel
theorem dX1_guardsNarrow_15 : decode cX1_guardsNarrow 15 = .ok (.getfield 20, 3) := by decide +kernel
theorem dX1_guardsNarrow_18 : decode cX1_guardsNarrow 18 = .ok (.ifnull 17, 3) := by decide +kernel
theorem dX1_guardsNarrow_21 : decode cX1_guardsNarrow 21 = .ok (.aload_n 0, 1) := by decide +kernel
theorem dX1_guardsNarrow_22 : decode cX1_guardsNarrow 22 = .ok (.getfield 20, 3) := by decide +kernel
theorem dX1_guardsNarrow_25 : decode cX1_guardsNarrow 25 = .ok (.getfield 38, 3) := by decide +kernel
theorem dX1_guardsNarrow_28 : decode cX1_guardsNarrow 28 = .ok (.aload_n 1, 1) := by decide +kernel
theorem dX1_guardsNarrow_29 : decode cX1_guardsNarrow 29 = .ok (.invokevirtual 48, 3) := by decide +kernel
theorem dX1_guardsNarrow_32 : decode cX1_guardsNarrow 32 = .ok (.ifCond .eq 7, 3) := by decide +kernel
theorem dX1_guardsNarrow_35 : decode cX1_guardsNarrow 35 = .ok (.iconst 1, 1) := by decide +kernel
theorem dX1_guardsNarrow_36 : decode cX1_guardsNarrow 36 = .ok (.goto 4, 3) := by decide +kernel
theorem dX1_guardsNarrow_39 : decode cX1_guardsNarrow 39 = .ok (.iconst 0, 1) := by decide +kernel
theorem dX1_guardsNarrow_40 : decode cX1_guardsNarrow 40 = .ok (.ireturn, 1) := by decide +kernel
theorem dX2_init_0 : decode cX2_init 0 = .ok (.aload_n 0, 1) := by decide +kernel
theorem dX2_init_1 : decode cX2_init 1 = .ok (.invokespecial 3, 3) := by decide +kernel
theorem dX2_init_4 : decode cX2_init 4 = .ok (.aload_n 0, 1) := by decide +kernel
theorem dX2_init_5 : decode cX2_init 5 = .ok (.bipush 20, 2) := by decide +kernel
theorem dX2_init_7 : decode cX2_init 7 = .ok (.anewarray 9, 3) := by decide +kernel
theorem dX2_init_10 : decode cX2_init 10 = .ok (.putfield 11, 3) := by decide +kernel
theorem dX2_init_13 : decode cX2_init 13 = .ok (.aload_n 0, 1) := by decide +kernel
theorem dX2_init_14 : decode cX2_init 14 = .ok (.sipush 400, 3) := by decide +kernel
theorem dX2_init_17 : decode cX2_init 17 = .ok (.anewarray 17, 3) := by decide +kernel
theorem dX2_init_20 : decode cX2_init 20 = .ok (.putfield 19, 3) := by decide +kernel
theorem dX2_init_23 : decode cX2_init 23 = .ok (.aload_n 0, 1) := by decide +kernel
theorem dX2_init_24 : decode cX2_init 24 = .ok (.bipush 18, 2) := by decide +kernel
theorem dX2_init_26 : decode cX2_init 26 = .ok (.anewarray 23, 3) := by decide +kernel
theorem dX2_init_29 : decode cX2_init 29 = .ok (.putfield 25, 3) := by decide +kernel
theorem dX2_init_32 : decode cX2_init 32 = .ok (.iconst 0, 1) := by decide +kernel
theorem dX2_init_33 : decode cX2_init 33 = .ok (.istore_n 1, 1) := by decide +kernel
theorem dX2_init_34 : decode cX2_init 34 = .ok (.iload_n 1, 1) := by decide +kernel
theorem dX2_init_35 : decode cX2_init 35 = .ok (.bipush 18, 2) := by decide +kernel
theorem dX2_init_37 : decode cX2_init 37 = .ok (.if_icmp .ge 22, 3) := by decide +kernel
theorem dX2_init_40 : decode cX2_init 40 = .ok (.aload_n 0, 1) := by decide +kernel
theorem dX2_init_41 : decode cX2_init 41 = .ok (.getfield 25, 3) := by decide +kernel
theorem dX2_init_44 : decode cX2_init 44 = .ok (.iload_n 1, 1) := by decide +kernel
theorem dX2_init_45 : decode cX2_init 45 = .ok (.new 23, 3) := by decide +kernel
theorem dX2_init_48 : decode cX2_init 48 = .ok (.dup, 1) := by decide +kernel
theorem dX2_init_49 : decode cX2_init 49 = .ok (.invokespecial 29, 3) := by decide +kernel
theorem dX2_init_52 : decode cX2_init 52 = .ok (.aastore, 1) := by decide +kernel
theorem dX2_init_53 : decode cX2_init 53 = .ok (.iinc 1 1, 3) := by decide +kernel
theorem dX2_init_56 : decode cX2_init 56 = .ok (.goto (-22), 3) := by decide +kernel
theorem dX2_init_59 : decode cX2_init 59 = .ok (.return_, 1) := by decide +kernel
theorem dX2_isEdge_0 : decode cX2_isEdge 0 = .ok (.iload_n 1, 1) := by decide +kernel
theorem dX2_isEdge_1 : decode cX2_isEdge 1 = .ok (.ifCond .lt 15, 3) := by decide +kernel
theorem dX2_isEdge_4 : decode cX2_isEdge 4 = .ok (.iload_n 1, 1) := by decide +kernel
theorem dX2_isEdge_5 : decode cX2_isEdge 5 = .ok (.aload_n 0, 1) := by decide +kernel
theorem dX2_isEdge_6 : decode cX2_isEdge 6 = .ok (.getfield 30, 3) := by decide +kernel
theorem dX2_isEdge_9 : decode cX2_isEdge 9 = .ok (.if_icmp .ge 7, 3) := by decide +kernel
theorem dX2_isEdge_12 : decode cX2_isEdge 12 = .ok (.iconst 1, 1) := by decide +kernel
theorem dX2_isEdge_13 : decode cX2_isEdge 13 = .ok (.goto 4, 3) := by decide +kernel
theorem dX2_isEdge_16 : decode cX2_isEdge 16 = .ok (.iconst 0, 1) := by decide +kernel
theorem dX2_isEdge_17 : decode cX2_isEdge 17 = .ok (.ireturn, 1) := by decide +kernel
theorem dX2_limitsOf_0 : decode cX2_limitsOf 0 = .ok (.aload_n 0, 1) := by decide +kernel
theorem dX2_limitsOf_1 : decode cX2_limitsOf 1 = .ok (.getfield 25, 3) := by decide +kernel
theorem dX2_limitsOf_4 : decode cX2_limitsOf 4 = .ok (.iload_n 1, 1) := by decide +kernel
theorem dX2_limitsOf_5 : decode cX2_limitsOf 5 = .ok (.bipush 6, 2) := by decide +kernel
theorem dX2_limitsOf_7 : decode cX2_limitsOf 7 = .ok (.imul, 1) := by decide +kernel
theorem dX2_limitsOf_8 : decode cX2_limitsOf 8 = .ok (.iload_n 2, 1) := by decide +kernel
theorem dX2_limitsOf_9 : decode cX2_limitsOf 9 = .ok (.iadd, 1) := by decide +kernel
theorem dX2_limitsOf_10 : decode cX2_limitsOf 10 = .ok (.aaload, 1) := by decide +kernel
theorem dX2_limitsOf_11 : decode cX2_limitsOf 11 = .ok (.areturn, 1) := by decide +kernel
theorem dX2_addEdge_0 : decode cX2_addEdge 0 = .ok (.aload_n 0, 1) := by decide +kernel
theorem dX2_addEdge_1 : decode cX2_addEdge 1 = .ok (.getfield 30, 3) := by decide +kernel
theorem dX2_addEdge_4 : decode cX2_addEdge 4 = .ok (.istore_n 2, 1) := by decide +kernel
theorem dX2_addEdge_5 : decode cX2_addEdge 5 = .ok (.iload_n 2, 1) := by decide +kernel
theorem dX2_addEdge_6 : decode cX2_addEdge 6 = .ok (.bipush 20, 2) := by decide +kernel
theorem dX2_addEdge_8 : decode cX2_addEdge 8 = .ok (.if_icmp .lt 6, 3) := by decide +kernel
theorem dX2_addEdge_11 : decode cX2_addEdge 11 = .ok (.bipush (-104), 2) := by decide +kernel
theorem dX2_addEdge_13 : decode cX2_addEdge 13 = .ok (.ireturn, 1) := by decide +kernel
theorem dX2_addEdge_14 : decode cX2_addEdge 14 = .ok (.aload_n 0, 1) := by decide +kernel
theorem dX2_addEdge_15 : decode cX2_addEdge 15 = .ok (.getfield 11, 3) := by decide +kernel
theorem dX2_addEdge_18 : decode cX2_addEdge 18 = .ok (.iload_n 2, 1) := by decide +kernel
theorem dX2_addEdge_19 : decode cX2_addEdge 19 = .ok (.aload_n 1, 1) := by decide +kernel
theorem dX2_addEdge_20 : decode cX2_addEdge 20 = .ok (.aastore, 1) := by decide +kernel
theorem dX2_addEdge_21 : decode cX2_addEdge 21 = .ok (.aload_n 0, 1) := by decide +kernel
theorem dX2_addEdge_22 : decode cX2_addEdge 22 = .ok (.dup, 1) := by decide +kernel
theorem dX2_addEdge_23 : decode cX2_addEdge 23 = .ok (.getfield 30, 3) := by decide +kernel
theorem dX2_addEdge_26 : decode cX2_addEdge 26 = .ok (.iconst 1, 1) := by decide +kernel
theorem dX2_addEdge_27 : decode cX2_addEdge 27 = .ok (.iadd, 1) := by decide +kernel
theorem dX2_addEdge_28 : decode cX2_addEdge 28 = .ok (.putfield 30, 3) := by decide +kernel
theorem dX2_addEdge_31 : decode cX2_addEdge 31 = .ok (.aload_n 1, 1) := by decide +kernel
theorem dX2_addEdge_32 : decode cX2_addEdge 32 = .ok (.getfield 34, 3) := by decide +kernel
theorem dX2_addEdge_35 : decode cX2_addEdge 35 = .ok (.ifCond .ne 18, 3) := by decide +kernel
theorem dX2_addEdge_38 : decode cX2_addEdge 38 = .ok (.aload_n 0, 1) := by decide +kernel
theorem dX2_addEdge_39 : decode cX2_addEdge 39 = .ok (.new 17, 3) := by decide +kernel
theorem dX2_addEdge_42 : decode cX2_addEdge 42 = .ok (.dup, 1) := by decide +kernel
theorem dX2_addEdge_43 : decode cX2_addEdge 43 = .ok (.iload_n 2, 1) := by decide +kernel
theorem dX2_addEdge_44 : decode cX2_addEdge 44 = .ok (.iconst (-1), 1) := by decide +kernel
theorem dX2_addEdge_45 : decode cX2_addEdge 45 = .ok (.aload_n 1, 1) := by decide +kernel
theorem dX2_addEdge_46 : decode cX2_addEdge 46 = .ok (.aconst_null, 1) := by decide +kernel
theorem dX2_addEdge_47 : decode cX2_addEdge 47 = .ok (.invokespecial 37, 3) := by decide +kernel
theorem dX2_addEdge_50 : decode cX2_addEdge 50 = .ok (.invokevirtual 40, 3) := by decide +kernel
theorem dX2_addEdge_53 : decode cX2_addEdge 53 = .ok (.iconst 0, 1) := by decide +kernel
theorem dX2_addEdge_54 : decode cX2_addEdge 54 = .ok (.istore_n 3, 1) := by decide +kernel
theorem dX2_addEdge_55 : decode cX2_addEdge 55 = .ok (.iload_n 3, 1) := by decide +kernel
theorem dX2_addEdge_56 : decode cX2_addEdge 56 = .ok (.iload_n 2, 1) := by decide +kernel
theorem dX2_addEdge_57 : decode cX2_addEdge 57 = .ok (.if_icmp .ge 78, 3) := by decide +kernel
theorem dX2_addEdge_60 : decode cX2_addEdge 60 = .ok (.aload_n 1, 1) := by decide +kernel
theorem dX2_addEdge_61 : decode cX2_addEdge 61 = .ok (.aload_n 0, 1) := by decide +kernel
theorem dX2_addEdge_62 : decode cX2_addEdge 62 = .ok (.getfield 11, 3) := by decide +kernel
theorem dX2_addEdge_65 : decode cX2_addEdge 65 = .ok (.iload_n 3, 1) := by decide +kernel
theorem dX2_addEdge_66 : decode cX2_addEdge 66 = .ok (.aaload, 1) := by decide +kernel
theorem dX2_addEdge_67 : decode cX2_addEdge 67 = .ok (.invokevirtual 44, 3) := by decide +kernel
theorem dX2_addEdge_70 : decode cX2_addEdge 70 = .ok (.ifCond .eq 26, 3) := by decide +kernel
theorem dX2_addEdge_73 : decode cX2_addEdge 73 = .ok (.aload_n 0, 1) := by decide +kernel
theorem dX2_addEdge_74 : decode cX2_addEdge 74 = .ok (.new 17, 3) := by decide +kernel
theorem dX2_addEdge_77 : decode cX2_addEdge 77 = .ok (.dup, 1) := by decide +kernel
theorem dX2_addEdge_78 : decode cX2_addEdge 78 = .ok (.iload_n 2, 1) := by decide +kernel
theorem dX2_addEdge_79 : decode cX2_addEdge 79 = .ok (.iload_n 3, 1) := by decide +kernel
theorem dX2_addEdge_80 : decode cX2_addEdge 80 = .ok (.aload_n 1, 1) := by decide +kernel
theorem dX2_addEdge_81 : decode cX2_addEdge 81 = .ok (.aload_n 0, 1) := by decide +kernel
theorem dX2_addEdge_82 : decode cX2_addEdge 82 = .ok (.getfield 11, 3) := by decide +kernel
theorem dX2_addEdge_85 : decode cX2_addEdge 85 = .ok (.iload_n 3, 1) := by decide +kernel
theorem dX2_addEdge_86 : decode cX2_addEdge 86 = .ok (.aaload, 1) := by decide +kernel
theorem dX2_addEdge_87 : decode cX2_addEdge 87 = .ok (.invokespecial 37, 3) := by decide +kernel
theorem dX2_addEdge_90 : decode cX2_addEdge 90 = .ok (.invokevirtual 40, 3) := by decide +kernel
theorem dX2_addEdge_93 : decode cX2_addEdge 93 = .ok (.goto 36, 3) := by decide +kernel
theorem dX2_addEdge_96 : decode cX2_addEdge 96 = .ok (.aload_n 0, 1) := by decide +kernel
theorem dX2_addEdge_97 : decode cX2_addEdge 97 = .ok (.getfield 11, 3) := by decide +kernel
theorem dX2_addEdge_100 : decode cX2_addEdge 100 = .ok (.iload_n 3, 1) := by decide +kernel
theorem dX2_addEdge_101 : decode cX2_addEdge 101 = .ok (.aaload, 1) := by decide +kernel
theorem dX2_addEdge_102 : decode cX2_addEdge 102 = .ok (.aload_n 1, 1) := by decide +kernel
theorem dX2_addEdge_103 : decode cX2_addEdge 103 = .ok (.invokevirtual 44, 3) := by decide +kernel
theorem dX2_addEdge_106 : decode cX2_addEdge 106 = .ok (.ifCond .eq 23, 3) := by decide +kernel
theorem dX2_addEdge_109 : decode cX2_addEdge 109 = .ok (.aload_n 0, 1) := by decide +kernel
theorem dX2_addEdge_110 : decode cX2_addEdge 110 = .ok (.new 17, 3) := by decide +kernel
theorem dX2_addEdge_113 : decode cX2_addEdge 113 = .ok (.dup, 1) := by decide +kernel
theorem dX2_addEdge_114 : decode cX2_addEdge 114 = .ok (.iload_n 3, 1) := by decide +kernel
theorem dX2_addEdge_115 : decode cX2_addEdge 115 = .ok (.iload_n 2, 1) := by decide +kernel
theorem dX2_addEdge_116 : decode cX2_addEdge 116 = .ok (.aload_n 0, 1) := by decide +kernel
theorem dX2_addEdge_117 : decode cX2_addEdge 117 = .ok (.getfield 11, 3) := by decide +kernel
theorem dX2_addEdge_120 : decode cX2_addEdge 120 = .ok (.iload_n 3, 1) := by decide +kernel
theorem dX2_addEdge_121 : decode cX2_addEdge 121 = .ok (.aaload, 1) := by decide +kernel
theorem dX2_addEdge_122 : decode cX2_addEdge 122 = .ok (.aload_n 1, 1) := by decide +kernel
theorem dX2_addEdge_123 : decode cX2_addEdge 123 = .ok (.invokespecial 37, 3) := by decide +kernel
theorem dX2_addEdge_126 : decode cX2_addEdge 126 = .ok (.invokevirtual 40, 3) := by decide +kernel
theorem dX2_addEdge_129 : decode cX2_addEdge 129 = .ok (.iinc 3 1, 3) := by decide +kernel
theorem dX2_addEdge_132 : decode cX2_addEdge 132 = .ok (.goto (-77), 3) := by decide +kernel
theorem dX2_addEdge_135 : decode cX2_addEdge 135 = .ok (.iload_n 2, 1) := by decide +kernel
theorem dX2_addEdge_136 : decode cX2_addEdge 136 = .ok (.ireturn, 1) := by decide +kernel
theorem dX2_insert_0 : decode cX2_insert 0 = .ok (.aload_n 0, 1) := by decide +kernel
theorem dX2_insert_1 : decode cX2_insert 1 = .ok (.getfield 48, 3) := by decide +kernel
theorem dX2_insert_4 : decode cX2_insert 4 = .ok (.aload_n 0, 1) := by decide +kernel
theorem dX2_insert_5 : decode cX2_insert 5 = .ok (.getfield 19, 3) := by decide +kernel
theorem dX2_insert_8 : decode cX2_insert 8 = .ok (.arraylength, 1) := by decide +kernel
theorem dX2_insert_9 : decode cX2_insert 9 = .ok (.if_icmp .lt 4, 3) := by decide +kernel
theorem dX2_insert_12 : decode cX2_insert 12 = .ok (.return_, 1) := by decide +kernel
theorem dX2_insert_13 : decode cX2_insert 13 = .ok (.aload_n 0, 1) := by decide +kernel
theorem dX2_insert_14 : decode cX2_insert 14 = .ok (.getfield 48, 3) := by decide +kernel
theorem dX2_insert_17 : decode cX2_insert 17 = .ok (.istore_n 2, 1) := by decide +kernel
theorem dX2_insert_18 : decode cX2_insert 18 = .ok (.iload_n 2, 1) := by decide +kernel
theorem dX2_insert_19 : decode cX2_insert 19 = .ok (.ifCond .le 38, 3) := by decide +kernel
theorem dX2_insert_22 : decode cX2_insert 22 = .ok (.aload_n 0, 1) := by decide +kernel
theorem dX2_insert_23 : decode cX2_insert 23 = .ok (.getfield 19, 3) := by decide +kernel
theorem dX2_insert_26 : decode cX2_insert 26 = .ok (.iload_n 2, 1) := by decide +kernel
theorem dX2_insert_27 : decode cX2_insert 27 = .ok (.iconst 1, 1) := by decide +kernel
theorem dX2_insert_28 : decode cX2_insert 28 = .ok (.isub, 1) := by decide +kernel
theorem dX2_insert_29 : decode cX2_insert 29 = .ok (.aaload, 1) := by decide +kernel
theorem dX2_insert_30 : decode cX2_insert 30 = .ok (.aload_n 1, 1) := by decide +kernel
theorem dX2_insert_31 : decode cX2_insert 31 = .ok (.invokevirtual 51, 3) := by decide +kernel
theorem dX2_insert_34 : decode cX2_insert 34 = .ok (.ifCond .eq 23, 3) := by decide +kernel
theorem dX2_insert_37 : decode cX2_insert 37 = .ok (.aload_n 0, 1) := by decide +kernel
theorem dX2_insert_38 : decode cX2_insert 38 = .ok (.getfield 19, 3) := by decide +kernel
theorem dX2_insert_41 : decode cX2_insert 41 = .ok (.iload_n 2, 1) := by decide +kernel
theorem dX2_insert_42 : decode cX2_insert 42 = .ok (.aload_n 0, 1) := by decide +kernel
theorem dX2_insert_43 : decode cX2_insert 43 = .ok (.getfield 19, 3) := by decide +kernel
theorem dX2_insert_46 : decode cX2_insert 46 = .ok (.iload_n 2, 1) := by decide +kernel
theorem dX2_insert_47 : decode cX2_insert 47 = .ok (.iconst 1, 1) := by decide +kernel
theorem dX2_insert_48 : decode cX2_insert 48 = .ok (.isub, 1) := by decide +kernel
theorem dX2_insert_49 : decode cX2_insert 49 = .ok (.aaload, 1) := by decide +kernel
theorem dX2_insert_50 : decode cX2_insert 50 = .ok (.aastore, 1) := by decide +kernel
theorem dX2_insert_51 : decode cX2_insert 51 = .ok (.iinc 2 (-1), 3) := by decide +kernel
theorem dX2_insert_54 : decode cX2_insert 54 = .ok (.goto (-36), 3) := by decide +kernel
theorem dX2_insert_57 : decode cX2_insert 57 = .ok (.aload_n 0, 1) := by decide +kernel
theorem dX2_insert_58 : decode cX2_insert 58 = .ok (.getfield 19, 3) := by decide +kernel
theorem dX2_insert_61 : decode cX2_insert 61 = .ok (.iload_n 2, 1) := by decide +kernel
theorem dX2_insert_62 : decode cX2_insert 62 = .ok (.aload_n 1, 1) := by decide +kernel
theorem dX2_insert_63 : decode cX2_insert 63 = .ok (.aastore, 1) := by decide +kernel
theorem dX2_insert_64 : decode cX2_insert 64 = .ok (.aload_n 0, 1) := by decide +kernel
theorem dX2_insert_65 : decode cX2_insert 65 = .ok (.dup, 1) := by decide +kernel
theorem dX2_insert_66 : decode cX2_insert 66 = .ok (.getfield 48, 3) := by decide +kernel
theorem dX2_insert_69 : decode cX2_insert 69 = .ok (.iconst 1, 1) := by decide +kernel
theorem dX2_insert_70 : decode cX2_insert 70 = .ok (.iadd, 1) := by decide +kernel
theorem dX2_insert_71 : decode cX2_insert 71 = .ok (.putfield 48, 3) := by decide +kernel
theorem dX2_insert_74 : decode cX2_insert 74 = .ok (.return_, 1) := by decide +kernel
theorem dX2_find_0 : decode cX2_find 0 = .ok (.iconst 0, 1) := by decide +kernel
theorem dX2_find_1 : decode cX2_find 1 = .ok (.istore_n 3, 1) := by decide +kernel
theorem dX2_find_2 : decode cX2_find 2 = .ok (.iload_n 3, 1) := by decide +kernel
theorem dX2_find_3 : decode cX2_find 3 = .ok (.aload_n 0, 1) := by decide +kernel
theorem dX2_find_4 : decode cX2_find 4 = .ok (.getfield 48, 3) := by decide +kernel
theorem dX2_find_7 : decode cX2_find 7 = .ok (.if_icmp .ge 42, 3) := by decide +kernel
theorem dX2_find_10 : decode cX2_find 10 = .ok (.aload_n 0, 1) := by decide +kernel
theorem dX2_find_11 : decode cX2_find 11 = .ok (.getfield 19, 3) := by decide +kernel
theorem dX2_find_14 : decode cX2_find 14 = .ok (.iload_n 3, 1) := by decide +kernel
theorem dX2_find_15 : decode cX2_find 15 = .ok (.aaload, 1) := by decide +kernel
theorem dX2_find_16 : decode cX2_find 16 = .ok (.getfield 55, 3) := by decide +kernel
theorem dX2_find_19 : decode cX2_find 19 = .ok (.iload_n 1, 1) := by decide +kernel
theorem dX2_find_20 : decode cX2_find 20 = .ok (.if_icmp .ne 23, 3) := by decide +kernel
theorem dX2_find_23 : decode cX2_find 23 = .ok (.aload_n 0, 1) := by decide +kernel
theorem dX2_find_24 : decode cX2_find 24 = .ok (.getfield 19, 3) := by decide +kernel
theorem dX2_find_27 : decode cX2_find 27 = .ok (.iload_n 3, 1) := by decide +kernel
theorem dX2_find_28 : decode cX2_find 28 = .ok (.aaload, 1) := by decide +kernel
theorem dX2_find_29 : decode cX2_find 29 = .ok (.getfield 58, 3) := by decide +kernel
theorem dX2_find_32 : decode cX2_find 32 = .ok (.iload_n 2, 1) := by decide +kernel
theorem dX2_find_33 : decode cX2_find 33 = .ok (.if_icmp .ne 10, 3) := by decide +kernel
theorem dX2_find_36 : decode cX2_find 36 = .ok (.aload_n 0, 1) := by decide +kernel
theorem dX2_find_37 : decode cX2_find 37 = .ok (.getfield 19, 3) := by decide +kernel
theorem dX2_find_40 : decode cX2_find 40 = .ok (.iload_n 3, 1) := by decide +kernel
theorem dX2_find_41 : decode cX2_find 41 = .ok (.aaload, 1) := by decide +kernel
theorem dX2_find_42 : decode cX2_find 42 = .ok (.areturn, 1) := by decide +kernel
theorem dX2_find_43 : decode cX2_find 43 = .ok (.iinc 3 1, 3) := by decide +kernel
theorem dX2_find_46 : decode cX2_find 46 = .ok (.goto (-44), 3) := by decide +kernel
theorem dX2_find_49 : decode cX2_find 49 = .ok (.aconst_null, 1) := by decide +kernel
theorem dX2_find_50 : decode cX2_find 50 = .ok (.areturn, 1) := by decide +kernel
theorem dX2_clear_0 : decode cX2_clear 0 = .ok (.aload_n 0, 1) := by decide +kernel
theorem dX2_clear_1 : decode cX2_clear 1 = .ok (.iconst 0, 1) := by decide +kernel
theorem dX2_clear_2 : decode cX2_clear 2 = .ok (.putfield 30, 3) := by decide +kernel
theorem dX2_clear_5 : decode cX2_clear 5 = .ok (.aload_n 0, 1) := by decide +kernel
theorem dX2_clear_6 : decode cX2_clear 6 = .ok (.iconst 0, 1) := by decide +kernel
theorem dX2_clear_7 : decode cX2_clear 7 = .ok (.putfield 48, 3) := by decide +kernel
theorem dX2_clear_10 : decode cX2_clear 10 = .ok (.iconst 0, 1) := by decide +kernel
theorem dX2_clear_11 : decode cX2_clear 11 = .ok (.istore_n 1, 1) := by decide +kernel
theorem dX2_clear_12 : decode cX2_clear 12 = .ok (.iload_n 1, 1) := by decide +kernel
theorem dX2_clear_13 : decode cX2_clear 13 = .ok (.bipush 18, 2) := by decide +kernel
theorem dX2_clear_15 : decode cX2_clear 15 = .ok (.if_icmp .ge 19, 3) := by decide +kernel
theorem dX2_clear_18 : decode cX2_clear 18 = .ok (.aload_n 0, 1) := by decide +kernel
theorem dX2_clear_19 : decode cX2_clear 19 = .ok (.getfield 25, 3) := by decide +kernel
theorem dX2_clear_22 : decode cX2_clear 22 = .ok (.iload_n 1, 1) := by decide +kernel
theorem dX2_clear_23 : decode cX2_clear 23 = .ok (.aaload, 1) := by decide +kernel
theorem dX2_clear_24 : decode cX2_clear 24 = .ok (.iconst 0, 1) := by decide +kernel
theorem dX2_clear_25 : decode cX2_clear 25 = .ok (.putfield 61, 3) := by decide +kernel
theorem dX2_clear_28 : decode cX2_clear 28 = .ok (.iinc 1 1, 3) := by decide +kernel
theorem dX2_clear_31 : decode cX2_clear 31 = .ok (.goto (-19), 3) := by decide +kernel
theorem dX2_clear_34 : decode cX2_clear 34 = .ok (.return_, 1) := by decide +kernel
theorem dX2_limitsAllow_0 : decode cX2_limitsAllow 0 = .ok (.iconst 0, 1) := by decide +kernel
theorem dX2_limitsAllow_1 : decode cX2_limitsAllow 1 = .ok (.istore_n 3, 1) := by decide +kernel
theorem dX2_limitsAllow_2 : decode cX2_limitsAllow 2 = .ok (.iload_n 3, 1) := by decide +kernel
theorem dX2_limitsAllow_3 : decode cX2_limitsAllow 3 = .ok (.iconst 3, 1) := by decide +kernel
theorem dX2_limitsAllow_4 : decode cX2_limitsAllow 4 = .ok (.if_icmp .ge 26, 3) := by decide +kernel
theorem dX2_limitsAllow_7 : decode cX2_limitsAllow 7 = .ok (.aload_n 0, 1) := by decide +kernel
theorem dX2_limitsAllow_8 : decode cX2_limitsAllow 8 = .ok (.iload_n 3, 1) := by decide +kernel
theorem dX2_limitsAllow_9 : decode cX2_limitsAllow 9 = .ok (.aload_n 1, 1) := by decide +kernel
theorem dX2_limitsAllow_10 : decode cX2_limitsAllow 10 = .ok (.iload_n 3, 1) := by decide +kernel
theorem dX2_limitsAllow_11 : decode cX2_limitsAllow 11 = .ok (.iaload, 1) := by decide +kernel
theorem dX2_limitsAllow_12 : decode cX2_limitsAllow 12 = .ok (.invokevirtual 64, 3) := by decide +kernel
theorem dX2_limitsAllow_15 : decode cX2_limitsAllow 15 = .ok (.aload_n 2, 1) := by decide +kernel
theorem dX2_limitsAllow_16 : decode cX2_limitsAllow 16 = .ok (.invokevirtual 68, 3) := by decide +kernel
theorem dX2_limitsAllow_19 : decode cX2_limitsAllow 19 = .ok (.ifCond .ne 5, 3) := by decide +kernel
theorem dX2_limitsAllow_22 : decode cX2_limitsAllow 22 = .ok (.iconst 0, 1) := by decide +kernel
theorem dX2_limitsAllow_23 : decode cX2_limitsAllow 23 = .ok (.ireturn, 1) := by decide +kernel
theorem dX2_limitsAllow_24 : decode cX2_limitsAllow 24 = .ok (.iinc 3 1, 3) := by decide +kernel
theorem dX2_limitsAllow_27 : decode cX2_limitsAllow 27 = .ok (.goto (-25), 3) := by decide +kernel
theorem dX2_limitsAllow_30 : decode cX2_limitsAllow 30 = .ok (.iconst 1, 1) := by decide +kernel
theorem dX2_limitsAllow_31 : decode cX2_limitsAllow 31 = .ok (.ireturn, 1) := by decide +kernel
theorem dX2_limitsNarrow_0 : decode cX2_limitsNarrow 0 = .ok (.iconst 0, 1) := by decide +kernel
theorem dX2_limitsNarrow_1 : decode cX2_limitsNarrow 1 = .ok (.istore_n 3, 1) := by decide +kernel
theorem dX2_limitsNarrow_2 : decode cX2_limitsNarrow 2 = .ok (.iload_n 3, 1) := by decide +kernel
theorem dX2_limitsNarrow_3 : decode cX2_limitsNarrow 3 = .ok (.iconst 3, 1) := by decide +kernel
theorem dX2_limitsNarrow_4 : decode cX2_limitsNarrow 4 = .ok (.if_icmp .ge 26, 3) := by decide +kernel
theorem dX2_limitsNarrow_7 : decode cX2_limitsNarrow 7 = .ok (.aload_n 0, 1) := by decide +kernel
theorem dX2_limitsNarrow_8 : decode cX2_limitsNarrow 8 = .ok (.iload_n 3, 1) := by decide +kernel
theorem dX2_limitsNarrow_9 : decode cX2_limitsNarrow 9 = .ok (.aload_n 1, 1) := by decide +kernel
theorem dX2_limitsNarrow_10 : decode cX2_limitsNarrow 10 = .ok (.iload_n 3, 1) := by decide +kernel
theorem dX2_limitsNarrow_11 : decode cX2_limitsNarrow 11 = .ok (.iaload, 1) := by decide +kernel
theorem dX2_limitsNarrow_12 : decode cX2_limitsNarrow 12 = .ok (.invokevirtual 64, 3) := by decide +kernel
theorem dX2_limitsNarrow_15 : decode cX2_limitsNarrow 15 = .ok (.aload_n 2, 1) := by decide +kernel
theorem dX2_limitsNarrow_16 : decode cX2_limitsNarrow 16 = .ok (.invokevirtual 72, 3) := by decide +kernel
theorem dX2_limitsNarrow_19 : decode cX2_limitsNarrow 19 = .ok (.ifCond .ne 5, 3) := by decide +kernel
theorem dX2_limitsNarrow_22 : decode cX2_limitsNarrow 22 = .ok (.iconst 0, 1) := by decide +kernel
theorem dX2_limitsNarrow_23 : decode cX2_limitsNarrow 23 = .ok (.ireturn, 1) := by decide +kernel
theorem dX2_limitsNarrow_24 : decode cX2_limitsNarrow 24 = .ok (.iinc 3 1, 3) := by decide +kernel
theorem dX2_limitsNarrow_27 : decode cX2_limitsNarrow 27 = .ok (.goto (-25), 3) := by decide +kernel
theorem dX2_limitsNarrow_30 : decode cX2_limitsNarrow 30 = .ok (.iconst 1, 1) := by decide +kernel
theorem dX2_limitsNarrow_31 : decode cX2_limitsNarrow 31 = .ok (.ireturn, 1) := by decide +kernel
theorem dX2_greatestOf_0 : decode cX2_greatestOf 0 = .ok (.iconst 0, 1) := by decide +kernel
theorem dX2_greatestOf_1 : decode cX2_greatestOf 1 = .ok (.istore_n 2, 1) := by decide +kernel
theorem dX2_greatestOf_2 : decode cX2_greatestOf 2 = .ok (.iconst 0, 1) := by decide +kernel
theorem dX2_greatestOf_3 : decode cX2_greatestOf 3 = .ok (.istore_n 3, 1) := by decide +kernel
theorem dX2_greatestOf_4 : decode cX2_greatestOf 4 = .ok (.iload_n 3, 1) := by decide +kernel
theorem dX2_greatestOf_5 : decode cX2_greatestOf 5 = .ok (.aload_n 0, 1) := by decide +kernel
theorem dX2_greatestOf_6 : decode cX2_greatestOf 6 = .ok (.getfield 30, 3) := by decide +kernel
theorem dX2_greatestOf_9 : decode cX2_greatestOf 9 = .ok (.if_icmp .ge 27, 3) := by decide +kernel
theorem dX2_greatestOf_12 : decode cX2_greatestOf 12 = .ok (.iload_n 2, 1) := by decide +kernel
theorem dX2_greatestOf_13 : decode cX2_greatestOf 13 = .ok (.aload_n 0, 1) := by decide +kernel
theorem dX2_greatestOf_14 : decode cX2_greatestOf 14 = .ok (.getfield 11, 3) := by decide +kernel
theorem dX2_greatestOf_17 : decode cX2_greatestOf 17 = .ok (.iload_n 3, 1) := by decide +kernel
theorem dX2_greatestOf_18 : decode cX2_greatestOf 18 = .ok (.aaload, 1) := by decide +kernel
theorem dX2_greatestOf_19 : decode cX2_greatestOf 19 = .ok (.getfield 76, 3) := by decide +kernel
theorem dX2_greatestOf_22 : decode cX2_greatestOf 22 = .ok (.iload_n 1, 1) := by decide +kernel
theorem dX2_greatestOf_23 : decode cX2_greatestOf 23 = .ok (.invokevirtual 80, 3) := by decide +kernel
theorem dX2_greatestOf_26 : decode cX2_greatestOf 26 = .ok (.invokestatic 84, 3) := by decide +kernel
theorem dX2_greatestOf_29 : decode cX2_greatestOf 29 = .ok (.istore_n 2, 1) := by decide +kernel
theorem dX2_greatestOf_30 : decode cX2_greatestOf 30 = .ok (.iinc 3 1, 3) := by decide +kernel
theorem dX2_greatestOf_33 : decode cX2_greatestOf 33 = .ok (.goto (-29), 3) := by decide +kernel
theorem dX2_greatestOf_36 : decode cX2_greatestOf 36 = .ok (.iconst 0, 1) := by decide +kernel
theorem dX2_greatestOf_37 : decode cX2_greatestOf 37 = .ok (.istore_n 3, 1) := by decide +kernel
theorem dX2_greatestOf_38 : decode cX2_greatestOf 38 = .ok (.iload_n 3, 1) := by decide +kernel
theorem dX2_greatestOf_39 : decode cX2_greatestOf 39 = .ok (.bipush 18, 2) := by decide +kernel
theorem dX2_greatestOf_41 : decode cX2_greatestOf 41 = .ok (.if_icmp .ge 24, 3) := by decide +kernel
theorem dX2_greatestOf_44 : decode cX2_greatestOf 44 = .ok (.iload_n 2, 1) := by decide +kernel
theorem dX2_greatestOf_45 : decode cX2_greatestOf 45 = .ok (.aload_n 0, 1) := by decide +kernel
theorem dX2_greatestOf_46 : decode cX2_greatestOf 46 = .ok (.getfield 25, 3) := by decide +kernel
theorem dX2_greatestOf_49 : decode cX2_greatestOf 49 = .ok (.iload_n 3, 1) := by decide +kernel
theorem dX2_greatestOf_50 : decode cX2_greatestOf 50 = .ok (.aaload, 1) := by decide +kernel
theorem dX2_greatestOf_51 : decode cX2_greatestOf 51 = .ok (.iload_n 1, 1) := by decide +kernel
theorem dX2_greatestOf_52 : decode cX2_greatestOf 52 = .ok (.invokevirtual 80, 3) := by decide +kernel
theorem dX2_greatestOf_55 : decode cX2_greatestOf 55 = .ok (.invokestatic 84, 3) := by decide +kernel
theorem dX2_greatestOf_58 : decode cX2_greatestOf 58 = .ok (.istore_n 2, 1) := by decide +kernel
theorem dX2_greatestOf_59 : decode cX2_greatestOf 59 = .ok (.iinc 3 1, 3) := by decide +kernel
theorem dX2_greatestOf_62 : decode cX2_greatestOf 62 = .ok (.goto (-24), 3) := by decide +kernel
theorem dX2_greatestOf_65 : decode cX2_greatestOf 65 = .ok (.iload_n 2, 1) := by decide +kernel
theorem dX2_greatestOf_66 : decode cX2_greatestOf 66 = .ok (.ireturn, 1) := by decide +kernel
theorem dX2_guardCount_0 : decode cX2_guardCount 0 = .ok (.iconst 0, 1) := by decide +kernel
theorem dX2_guardCount_1 : decode cX2_guardCount 1 = .ok (.istore_n 1, 1) := by decide +kernel
theorem dX2_guardCount_2 : decode cX2_guardCount 2 = .ok (.iconst 0, 1) := by decide +kernel
theorem dX2_guardCount_3 : decode cX2_guardCount 3 = .ok (.istore_n 2, 1) := by decide +kernel
theorem dX2_guardCount_4 : decode cX2_guardCount 4 = .ok (.iload_n 2, 1) := by decide +kernel
theorem dX2_guardCount_5 : decode cX2_guardCount 5 = .ok (.aload_n 0, 1) := by decide +kernel
theorem dX2_guardCount_6 : decode cX2_guardCount 6 = .ok (.getfield 30, 3) := by decide +kernel
theorem dX2_guardCount_9 : decode cX2_guardCount 9 = .ok (.if_icmp .ge 24, 3) := by decide +kernel
theorem dX2_guardCount_12 : decode cX2_guardCount 12 = .ok (.iload_n 1, 1) := by decide +kernel
theorem dX2_guardCount_13 : decode cX2_guardCount 13 = .ok (.aload_n 0, 1) := by decide +kernel
theorem dX2_guardCount_14 : decode cX2_guardCount 14 = .ok (.getfield 11, 3) := by decide +kernel
theorem dX2_guardCount_17 : decode cX2_guardCount 17 = .ok (.iload_n 2, 1) := by decide +kernel
theorem dX2_guardCount_18 : decode cX2_guardCount 18 = .ok (.aaload, 1) := by decide +kernel
theorem dX2_guardCount_19 : decode cX2_guardCount 19 = .ok (.getfield 76, 3) := by decide +kernel
theorem dX2_guardCount_22 : decode cX2_guardCount 22 = .ok (.getfield 61, 3) := by decide +kernel
theorem dX2_guardCount_25 : decode cX2_guardCount 25 = .ok (.iadd, 1) := by decide +kernel
theorem dX2_guardCount_26 : decode cX2_guardCount 26 = .ok (.istore_n 1, 1) := by decide +kernel
theorem dX2_guardCount_27 : decode cX2_guardCount 27 = .ok (.iinc 2 1, 3) := by decide +kernel
theorem dX2_guardCount_30 : decode cX2_guardCount 30 = .ok (.goto (-26), 3) := by decide +kernel
theorem dX2_guardCount_33 : decode cX2_guardCount 33 = .ok (.iload_n 1, 1) := by decide +kernel
theorem dX2_guardCount_34 : decode cX2_guardCount 34 = .ok (.ireturn, 1) := by decide +kernel
theorem dX2_limitCount_0 : decode cX2_limitCount 0 = .ok (.iconst 0, 1) := by decide +kernel
theorem dX2_limitCount_1 : decode cX2_limitCount 1 = .ok (.istore_n 1, 1) := by decide +kernel
theorem dX2_limitCount_2 : decode cX2_limitCount 2 = .ok (.iconst 0, 1) := by decide +kernel
theorem dX2_limitCount_3 : decode cX2_limitCount 3 = .ok (.istore_n 2, 1) := by decide +kernel
theorem dX2_limitCount_4 : decode cX2_limitCount 4 = .ok (.iload_n 2, 1) := by decide +kernel
theorem dX2_limitCount_5 : decode cX2_limitCount 5 = .ok (.bipush 18, 2) := by decide +kernel
theorem dX2_limitCount_7 : decode cX2_limitCount 7 = .ok (.if_icmp .ge 21, 3) := by decide +kernel
theorem dX2_limitCount_10 : decode cX2_limitCount 10 = .ok (.iload_n 1, 1) := by decide +kernel
theorem dX2_limitCount_11 : decode cX2_limitCount 11 = .ok (.aload_n 0, 1) := by decide +kernel
theorem dX2_limitCount_12 : decode cX2_limitCount 12 = .ok (.getfield 25, 3) := by decide +kernel
theorem dX2_limitCount_15 : decode cX2_limitCount 15 = .ok (.iload_n 2, 1) := by decide +kernel
theorem dX2_limitCount_16 : decode cX2_limitCount 16 = .ok (.aaload, 1) := by decide +kernel
theorem dX2_limitCount_17 : decode cX2_limitCount 17 = .ok (.getfield 61, 3) := by decide +kernel
theorem dX2_limitCount_20 : decode cX2_limitCount 20 = .ok (.iadd, 1) := by decide +kernel
theorem dX2_limitCount_21 : decode cX2_limitCount 21 = .ok (.istore_n 1, 1) := by decide +kernel
theorem dX2_limitCount_22 : decode cX2_limitCount 22 = .ok (.iinc 2 1, 3) := by decide +kernel
theorem dX2_limitCount_25 : decode cX2_limitCount 25 = .ok (.goto (-21), 3) := by decide +kernel
theorem dX2_limitCount_28 : decode cX2_limitCount 28 = .ok (.iload_n 1, 1) := by decide +kernel
theorem dX2_limitCount_29 : decode cX2_limitCount 29 = .ok (.ireturn, 1) := by decide +kernel
theorem dX3_init_0 : decode cX3_init 0 = .ok (.aload_n 0, 1) := by decide +kernel
theorem dX3_init_1 : decode cX3_init 1 = .ok (.invokespecial 3, 3) := by decide +kernel
theorem dX3_init_4 : decode cX3_init 4 = .ok (.aload_n 0, 1) := by decide +kernel
theorem dX3_init_5 : decode cX3_init 5 = .ok (.new 9, 3) := by decide +kernel
theorem dX3_init_8 : decode cX3_init 8 = .ok (.dup, 1) := by decide +kernel
theorem dX3_init_9 : decode cX3_init 9 = .ok (.invokespecial 11, 3) := by decide +kernel
theorem dX3_init_12 : decode cX3_init 12 = .ok (.putfield 12, 3) := by decide +kernel
theorem dX3_init_15 : decode cX3_init 15 = .ok (.aload_n 0, 1) := by decide +kernel
theorem dX3_init_16 : decode cX3_init 16 = .ok (.iconst 1, 1) := by decide +kernel
theorem dX3_init_17 : decode cX3_init 17 = .ok (.putfield 18, 3) := by decide +kernel
theorem dX3_init_20 : decode cX3_init 20 = .ok (.aload_n 0, 1) := by decide +kernel
theorem dX3_init_21 : decode cX3_init 21 = .ok (.bipush 7, 2) := by decide +kernel
theorem dX3_init_23 : decode cX3_init 23 = .ok (.newarray .int, 2) := by decide +kernel
theorem dX3_init_25 : decode cX3_init 25 = .ok (.putfield 22, 3) := by decide +kernel
theorem dX3_init_28 : decode cX3_init 28 = .ok (.aload_n 0, 1) := by decide +kernel
theorem dX3_init_29 : decode cX3_init 29 = .ok (.new 26, 3) := by decide +kernel
theorem dX3_init_32 : decode cX3_init 32 = .ok (.dup, 1) := by decide +kernel
theorem dX3_init_33 : decode cX3_init 33 = .ok (.invokespecial 28, 3) := by decide +kernel
theorem dX3_init_36 : decode cX3_init 36 = .ok (.putfield 29, 3) := by decide +kernel
theorem dX3_init_39 : decode cX3_init 39 = .ok (.aload_n 0, 1) := by decide +kernel
theorem dX3_init_40 : decode cX3_init 40 = .ok (.iconst 4, 1) := by decide +kernel
theorem dX3_init_41 : decode cX3_init 41 = .ok (.newarray .int, 2) := by decide +kernel
theorem dX3_init_43 : decode cX3_init 43 = .ok (.putfield 33, 3) := by decide +kernel
theorem dX3_init_46 : decode cX3_init 46 = .ok (.return_, 1) := by decide +kernel
theorem dX3_meetAll_0 : decode cX3_meetAll 0 = .ok (.aload_n 0, 1) := by decide +kernel
theorem dX3_meetAll_1 : decode cX3_meetAll 1 = .ok (.aload_n 1, 1) := by decide +kernel
theorem dX3_meetAll_2 : decode cX3_meetAll 2 = .ok (.invokevirtual 36, 3) := by decide +kernel
theorem dX3_meetAll_5 : decode cX3_meetAll 5 = .ok (.aload_n 0, 1) := by decide +kernel
theorem dX3_meetAll_6 : decode cX3_meetAll 6 = .ok (.invokevirtual 40, 3) := by decide +kernel
theorem dX3_meetAll_9 : decode cX3_meetAll 9 = .ok (.aload_n 0, 1) := by decide +kernel
theorem dX3_meetAll_10 : decode cX3_meetAll 10 = .ok (.aload_n 1, 1) := by decide +kernel
theorem dX3_meetAll_11 : decode cX3_meetAll 11 = .ok (.invokevirtual 43, 3) := by decide +kernel
theorem dX3_meetAll_14 : decode cX3_meetAll 14 = .ok (.ifCond .eq 18, 3) := by decide +kernel
theorem dX3_meetAll_17 : decode cX3_meetAll 17 = .ok (.aload_n 0, 1) := by decide +kernel
theorem dX3_meetAll_18 : decode cX3_meetAll 18 = .ok (.getfield 12, 3) := by decide +kernel
theorem dX3_meetAll_21 : decode cX3_meetAll 21 = .ok (.aload_n 0, 1) := by decide +kernel
theorem dX3_meetAll_22 : decode cX3_meetAll 22 = .ok (.getfield 22, 3) := by decide +kernel
theorem dX3_meetAll_25 : decode cX3_meetAll 25 = .ok (.aload_n 0, 1) := by decide +kernel
theorem dX3_meetAll_26 : decode cX3_meetAll 26 = .ok (.getfield 29, 3) := by decide +kernel
theorem dX3_meetAll_29 : decode cX3_meetAll 29 = .ok (.invokevirtual 47, 3) := by decide +kernel
theorem dX3_meetAll_32 : decode cX3_meetAll 32 = .ok (.iconst 0, 1) := by decide +kernel
theorem dX3_meetAll_33 : decode cX3_meetAll 33 = .ok (.istore_n 3, 1) := by decide +kernel
theorem dX3_meetAll_34 : decode cX3_meetAll 34 = .ok (.iload_n 3, 1) := by decide +kernel
theorem dX3_meetAll_35 : decode cX3_meetAll 35 = .ok (.aload_n 0, 1) := by decide +kernel
theorem dX3_meetAll_36 : decode cX3_meetAll 36 = .ok (.getfield 12, 3) := by decide +kernel
theorem dX3_meetAll_39 : decode cX3_meetAll 39 = .ok (.getfield 51, 3) := by decide +kernel
theorem dX3_meetAll_42 : decode cX3_meetAll 42 = .ok (.if_icmp .ge 107, 3) := by decide +kernel
theorem dX3_meetAll_45 : decode cX3_meetAll 45 = .ok (.iload_n 3, 1) := by decide +kernel
theorem dX3_meetAll_46 : decode cX3_meetAll 46 = .ok (.bipush 120, 2) := by decide +kernel
theorem dX3_meetAll_48 : decode cX3_meetAll 48 = .ok (.if_icmp .ge 101, 3) := by decide +kernel
theorem dX3_meetAll_51 : decode cX3_meetAll 51 = .ok (.iconst 0, 1) := by decide +kernel
theorem dX3_meetAll_52 : decode cX3_meetAll 52 = .ok (.istore 4, 2) := by decide +kernel
theorem dX3_meetAll_54 : decode cX3_meetAll 54 = .ok (.iload 4, 2) := by decide +kernel
theorem dX3_meetAll_56 : decode cX3_meetAll 56 = .ok (.aload_n 1, 1) := by decide +kernel
theorem dX3_meetAll_57 : decode cX3_meetAll 57 = .ok (.getfield 55, 3) := by decide +kernel
theorem dX3_meetAll_60 : decode cX3_meetAll 60 = .ok (.if_icmp .ge 83, 3) := by decide +kernel
theorem dX3_meetAll_63 : decode cX3_meetAll 63 = .ok (.aload_n 0, 1) := by decide +kernel
theorem dX3_meetAll_64 : decode cX3_meetAll 64 = .ok (.iload_n 3, 1) := by decide +kernel
theorem dX3_meetAll_65 : decode cX3_meetAll 65 = .ok (.aload_n 1, 1) := by decide +kernel
theorem dX3_meetAll_66 : decode cX3_meetAll 66 = .ok (.getfield 60, 3) := by decide +kernel
theorem dX3_meetAll_69 : decode cX3_meetAll 69 = .ok (.iload 4, 2) := by decide +kernel
theorem dX3_meetAll_71 : decode cX3_meetAll 71 = .ok (.aaload, 1) := by decide +kernel
theorem dX3_meetAll_72 : decode cX3_meetAll 72 = .ok (.invokevirtual 64, 3) := by decide +kernel
theorem dX3_meetAll_75 : decode cX3_meetAll 75 = .ok (.ifCond .eq 62, 3) := by decide +kernel
theorem dX3_meetAll_78 : decode cX3_meetAll 78 = .ok (.aload_n 0, 1) := by decide +kernel
theorem dX3_meetAll_79 : decode cX3_meetAll 79 = .ok (.aload_n 1, 1) := by decide +kernel
theorem dX3_meetAll_80 : decode cX3_meetAll 80 = .ok (.invokevirtual 43, 3) := by decide +kernel
theorem dX3_meetAll_83 : decode cX3_meetAll 83 = .ok (.ifCond .eq 54, 3) := by decide +kernel
theorem dX3_meetAll_86 : decode cX3_meetAll 86 = .ok (.aload_n 0, 1) := by decide +kernel
theorem dX3_meetAll_87 : decode cX3_meetAll 87 = .ok (.getfield 12, 3) := by decide +kernel
theorem dX3_meetAll_90 : decode cX3_meetAll 90 = .ok (.aload_n 0, 1) := by decide +kernel
theorem dX3_meetAll_91 : decode cX3_meetAll 91 = .ok (.getfield 22, 3) := by decide +kernel
theorem dX3_meetAll_94 : decode cX3_meetAll 94 = .ok (.aload_n 0, 1) := by decide +kernel
theorem dX3_meetAll_95 : decode cX3_meetAll 95 = .ok (.getfield 29, 3) := by decide +kernel
theorem dX3_meetAll_98 : decode cX3_meetAll 98 = .ok (.invokevirtual 68, 3) := by decide +kernel
theorem dX3_meetAll_101 : decode cX3_meetAll 101 = .ok (.ifCond .eq 6, 3) := by decide +kernel
theorem dX3_meetAll_104 : decode cX3_meetAll 104 = .ok (.goto 33, 3) := by decide +kernel
theorem dX3_meetAll_107 : decode cX3_meetAll 107 = .ok (.aload_n 0, 1) := by decide +kernel
theorem dX3_meetAll_108 : decode cX3_meetAll 108 = .ok (.getfield 12, 3) := by decide +kernel
theorem dX3_meetAll_111 : decode cX3_meetAll 111 = .ok (.getfield 51, 3) := by decide +kernel
theorem dX3_meetAll_114 : decode cX3_meetAll 114 = .ok (.iload_n 2, 1) := by decide +kernel
theorem dX3_meetAll_115 : decode cX3_meetAll 115 = .ok (.if_icmp .lt 7, 3) := by decide +kernel
theorem dX3_meetAll_118 : decode cX3_meetAll 118 = .ok (.iconst (-1), 1) := by decide +kernel
theorem dX3_meetAll_119 : decode cX3_meetAll 119 = .ok (.iload_n 2, 1) := by decide +kernel
theorem dX3_meetAll_120 : decode cX3_meetAll 120 = .ok (.isub, 1) := by decide +kernel
theorem dX3_meetAll_121 : decode cX3_meetAll 121 = .ok (.ireturn, 1) := by decide +kernel
theorem dX3_meetAll_122 : decode cX3_meetAll 122 = .ok (.aload_n 0, 1) := by decide +kernel
theorem dX3_meetAll_123 : decode cX3_meetAll 123 = .ok (.getfield 12, 3) := by decide +kernel
theorem dX3_meetAll_126 : decode cX3_meetAll 126 = .ok (.aload_n 0, 1) := by decide +kernel
theorem dX3_meetAll_127 : decode cX3_meetAll 127 = .ok (.getfield 22, 3) := by decide +kernel
theorem dX3_meetAll_130 : decode cX3_meetAll 130 = .ok (.aload_n 0, 1) := by decide +kernel
theorem dX3_meetAll_131 : decode cX3_meetAll 131 = .ok (.getfield 29, 3) := by decide +kernel
theorem dX3_meetAll_134 : decode cX3_meetAll 134 = .ok (.invokevirtual 47, 3) := by decide +kernel
theorem dX3_meetAll_137 : decode cX3_meetAll 137 = .ok (.iinc 4 1, 3) := by decide +kernel
theorem dX3_meetAll_140 : decode cX3_meetAll 140 = .ok (.goto (-86), 3) := by decide +kernel
theorem dX3_meetAll_143 : decode cX3_meetAll 143 = .ok (.iinc 3 1, 3) := by decide +kernel
theorem dX3_meetAll_146 : decode cX3_meetAll 146 = .ok (.goto (-112), 3) := by decide +kernel
theorem dX3_meetAll_149 : decode cX3_meetAll 149 = .ok (.aload_n 0, 1) := by decide +kernel
theorem dX3_meetAll_150 : decode cX3_meetAll 150 = .ok (.getfield 12, 3) := by decide +kernel
theorem dX3_meetAll_153 : decode cX3_meetAll 153 = .ok (.getfield 51, 3) := by decide +kernel
theorem dX3_meetAll_156 : decode cX3_meetAll 156 = .ok (.ireturn, 1) := by decide +kernel
theorem dX3_prepare_0 : decode cX3_prepare 0 = .ok (.aload_n 0, 1) := by decide +kernel
theorem dX3_prepare_1 : decode cX3_prepare 1 = .ok (.getfield 12, 3) := by decide +kernel
theorem dX3_prepare_4 : decode cX3_prepare 4 = .ok (.iconst 0, 1) := by decide +kernel
theorem dX3_prepare_5 : decode cX3_prepare 5 = .ok (.putfield 51, 3) := by decide +kernel
theorem dX3_prepare_8 : decode cX3_prepare 8 = .ok (.aload_n 0, 1) := by decide +kernel
theorem dX3_prepare_9 : decode cX3_prepare 9 = .ok (.iconst 0, 1) := by decide +kernel
theorem dX3_prepare_10 : decode cX3_prepare 10 = .ok (.putfield 18, 3) := by decide +kernel
theorem dX3_prepare_13 : decode cX3_prepare 13 = .ok (.aload_n 0, 1) := by decide +kernel
theorem dX3_prepare_14 : decode cX3_prepare 14 = .ok (.dup, 1) := by decide +kernel
theorem dX3_prepare_15 : decode cX3_prepare 15 = .ok (.getfield 72, 3) := by decide +kernel
theorem dX3_prepare_18 : decode cX3_prepare 18 = .ok (.iconst 1, 1) := by decide +kernel
theorem dX3_prepare_19 : decode cX3_prepare 19 = .ok (.iadd, 1) := by decide +kernel
theorem dX3_prepare_20 : decode cX3_prepare 20 = .ok (.putfield 72, 3) := by decide +kernel
theorem dX3_prepare_23 : decode cX3_prepare 23 = .ok (.iconst 1, 1) := by decide +kernel
theorem dX3_prepare_24 : decode cX3_prepare 24 = .ok (.istore_n 2, 1) := by decide +kernel
theorem dX3_prepare_25 : decode cX3_prepare 25 = .ok (.iload_n 2, 1) := by decide +kernel
theorem dX3_prepare_26 : decode cX3_prepare 26 = .ok (.iconst 4, 1) := by decide +kernel
theorem dX3_prepare_27 : decode cX3_prepare 27 = .ok (.if_icmp .ge 20, 3) := by decide +kernel
theorem dX3_prepare_30 : decode cX3_prepare 30 = .ok (.aload_n 0, 1) := by decide +kernel
theorem dX3_prepare_31 : decode cX3_prepare 31 = .ok (.getfield 33, 3) := by decide +kernel
theorem dX3_prepare_34 : decode cX3_prepare 34 = .ok (.iload_n 2, 1) := by decide +kernel
theorem dX3_prepare_35 : decode cX3_prepare 35 = .ok (.aload_n 1, 1) := by decide +kernel
theorem dX3_prepare_36 : decode cX3_prepare 36 = .ok (.iload_n 2, 1) := by decide +kernel
theorem dX3_prepare_37 : decode cX3_prepare 37 = .ok (.invokevirtual 75, 3) := by decide +kernel
theorem dX3_prepare_40 : decode cX3_prepare 40 = .ok (.iastore, 1) := by decide +kernel
theorem dX3_prepare_41 : decode cX3_prepare 41 = .ok (.iinc 2 1, 3) := by decide +kernel
theorem dX3_prepare_44 : decode cX3_prepare 44 = .ok (.goto (-19), 3) := by decide +kernel
theorem dX3_prepare_47 : decode cX3_prepare 47 = .ok (.return_, 1) := by decide +kernel
theorem dX3_standAtStart_0 : decode cX3_standAtStart 0 = .ok (.aload_n 0, 1) := by decide +kernel
theorem dX3_standAtStart_1 : decode cX3_standAtStart 1 = .ok (.getfield 22, 3) := by decide +kernel
theorem dX3_standAtStart_4 : decode cX3_standAtStart 4 = .ok (.iconst 0, 1) := by decide +kernel
theorem dX3_standAtStart_5 : decode cX3_standAtStart 5 = .ok (.invokestatic 79, 3) := by decide +kernel
theorem dX3_standAtStart_8 : decode cX3_standAtStart 8 = .ok (.aload_n 0, 1) := by decide +kernel
theorem dX3_standAtStart_9 : decode cX3_standAtStart 9 = .ok (.getfield 22, 3) := by decide +kernel
theorem dX3_standAtStart_12 : decode cX3_standAtStart 12 = .ok (.iconst 3, 1) := by decide +kernel
theorem dX3_standAtStart_13 : decode cX3_standAtStart 13 = .ok (.iconst (-1), 1) := by decide +kernel
theorem dX3_standAtStart_14 : decode cX3_standAtStart 14 = .ok (.iastore, 1) := by decide +kernel
theorem dX3_standAtStart_15 : decode cX3_standAtStart 15 = .ok (.aload_n 0, 1) := by decide +kernel
theorem dX3_standAtStart_16 : decode cX3_standAtStart 16 = .ok (.getfield 22, 3) := by decide +kernel
theorem dX3_standAtStart_19 : decode cX3_standAtStart 19 = .ok (.iconst 4, 1) := by decide +kernel
theorem dX3_standAtStart_20 : decode cX3_standAtStart 20 = .ok (.iconst (-1), 1) := by decide +kernel
theorem dX3_standAtStart_21 : decode cX3_standAtStart 21 = .ok (.iastore, 1) := by decide +kernel
theorem dX3_standAtStart_22 : decode cX3_standAtStart 22 = .ok (.aload_n 0, 1) := by decide +kernel
theorem dX3_standAtStart_23 : decode cX3_standAtStart 23 = .ok (.getfield 22, 3) := by decide +kernel
theorem dX3_standAtStart_26 : decode cX3_standAtStart 26 = .ok (.iconst 5, 1) := by decide +kernel
theorem dX3_standAtStart_27 : decode cX3_standAtStart 27 = .ok (.iconst (-1), 1) := by decide +kernel
theorem dX3_standAtStart_28 : decode cX3_standAtStart 28 = .ok (.iastore, 1) := by decide +kernel
theorem dX3_standAtStart_29 : decode cX3_standAtStart 29 = .ok (.aload_n 0, 1) := by decide +kernel
theorem dX3_standAtStart_30 : decode cX3_standAtStart 30 = .ok (.getfield 29, 3) := by decide +kernel
theorem dX3_standAtStart_33 : decode cX3_standAtStart 33 = .ok (.invokevirtual 85, 3) := by decide +kernel
theorem dX3_standAtStart_36 : decode cX3_standAtStart 36 = .ok (.return_, 1) := by decide +kernel
theorem dX3_goesBy_0 : decode cX3_goesBy 0 = .ok (.aload_n 0, 1) := by decide +kernel
theorem dX3_goesBy_1 : decode cX3_goesBy 1 = .ok (.getfield 12, 3) := by decide +kernel
theorem dX3_goesBy_4 : decode cX3_goesBy 4 = .ok (.iload_n 1, 1) := by decide +kernel
theorem dX3_goesBy_5 : decode cX3_goesBy 5 = .ok (.aload_n 0, 1) := by decide +kernel
theorem dX3_goesBy_6 : decode cX3_goesBy 6 = .ok (.getfield 22, 3) := by decide +kernel
theorem dX3_goesBy_9 : decode cX3_goesBy 9 = .ok (.invokevirtual 88, 3) := by decide +kernel
theorem dX3_goesBy_12 : decode cX3_goesBy 12 = .ok (.aload_n 0, 1) := by decide +kernel
theorem dX3_goesBy_13 : decode cX3_goesBy 13 = .ok (.getfield 22, 3) := by decide +kernel
theorem dX3_goesBy_16 : decode cX3_goesBy 16 = .ok (.bipush 6, 2) := by decide +kernel
theorem dX3_goesBy_18 : decode cX3_goesBy 18 = .ok (.iaload, 1) := by decide +kernel
theorem dX3_goesBy_19 : decode cX3_goesBy 19 = .ok (.bipush 40, 2) := by decide +kernel
theorem dX3_goesBy_21 : decode cX3_goesBy 21 = .ok (.if_icmp .ge 14, 3) := by decide +kernel
theorem dX3_goesBy_24 : decode cX3_goesBy 24 = .ok (.aload_n 2, 1) := by decide +kernel
theorem dX3_goesBy_25 : decode cX3_goesBy 25 = .ok (.aload_n 0, 1) := by decide +kernel
theorem dX3_goesBy_26 : decode cX3_goesBy 26 = .ok (.getfield 22, 3) := by decide +kernel
theorem dX3_goesBy_29 : decode cX3_goesBy 29 = .ok (.invokevirtual 92, 3) := by decide +kernel
theorem dX3_goesBy_32 : decode cX3_goesBy 32 = .ok (.ifCond .ne 5, 3) := by decide +kernel
theorem dX3_goesBy_35 : decode cX3_goesBy 35 = .ok (.iconst 0, 1) := by decide +kernel
theorem dX3_goesBy_36 : decode cX3_goesBy 36 = .ok (.ireturn, 1) := by decide +kernel
theorem dX3_goesBy_37 : decode cX3_goesBy 37 = .ok (.aload_n 0, 1) := by decide +kernel
theorem dX3_goesBy_38 : decode cX3_goesBy 38 = .ok (.getfield 12, 3) := by decide +kernel
theorem dX3_goesBy_41 : decode cX3_goesBy 41 = .ok (.iload_n 1, 1) := by decide +kernel
theorem dX3_goesBy_42 : decode cX3_goesBy 42 = .ok (.aload_n 0, 1) := by decide +kernel
theorem dX3_goesBy_43 : decode cX3_goesBy 43 = .ok (.getfield 29, 3) := by decide +kernel
theorem dX3_goesBy_46 : decode cX3_goesBy 46 = .ok (.invokevirtual 98, 3) := by decide +kernel
theorem dX3_goesBy_49 : decode cX3_goesBy 49 = .ok (.aload_n 2, 1) := by decide +kernel
theorem dX3_goesBy_50 : decode cX3_goesBy 50 = .ok (.aload_n 0, 1) := by decide +kernel
theorem dX3_goesBy_51 : decode cX3_goesBy 51 = .ok (.getfield 29, 3) := by decide +kernel
theorem dX3_goesBy_54 : decode cX3_goesBy 54 = .ok (.invokevirtual 102, 3) := by decide +kernel
theorem dX3_goesBy_57 : decode cX3_goesBy 57 = .ok (.ifCond .ne 5, 3) := by decide +kernel
theorem dX3_goesBy_60 : decode cX3_goesBy 60 = .ok (.iconst 0, 1) := by decide +kernel
theorem dX3_goesBy_61 : decode cX3_goesBy 61 = .ok (.ireturn, 1) := by decide +kernel
theorem dX3_goesBy_62 : decode cX3_goesBy 62 = .ok (.iconst 1, 1) := by decide +kernel
theorem dX3_goesBy_63 : decode cX3_goesBy 63 = .ok (.istore_n 3, 1) := by decide +kernel
theorem dX3_goesBy_64 : decode cX3_goesBy 64 = .ok (.iload_n 3, 1) := by decide +kernel
theorem dX3_goesBy_65 : decode cX3_goesBy 65 = .ok (.iconst 4, 1) := by decide +kernel
theorem dX3_goesBy_66 : decode cX3_goesBy 66 = .ok (.if_icmp .ge 25, 3) := by decide +kernel
theorem dX3_goesBy_69 : decode cX3_goesBy 69 = .ok (.aload_n 2, 1) := by decide +kernel
theorem dX3_goesBy_70 : decode cX3_goesBy 70 = .ok (.iload_n 3, 1) := by decide +kernel
theorem dX3_goesBy_71 : decode cX3_goesBy 71 = .ok (.invokevirtual 106, 3) := by decide +kernel
theorem dX3_goesBy_74 : decode cX3_goesBy 74 = .ok (.ifCond .eq 11, 3) := by decide +kernel
theorem dX3_goesBy_77 : decode cX3_goesBy 77 = .ok (.aload_n 0, 1) := by decide +kernel
theorem dX3_goesBy_78 : decode cX3_goesBy 78 = .ok (.getfield 29, 3) := by decide +kernel
theorem dX3_goesBy_81 : decode cX3_goesBy 81 = .ok (.iload_n 3, 1) := by decide +kernel
theorem dX3_goesBy_82 : decode cX3_goesBy 82 = .ok (.invokevirtual 110, 3) := by decide +kernel
theorem dX3_goesBy_85 : decode cX3_goesBy 85 = .ok (.iinc 3 1, 3) := by decide +kernel
theorem dX3_goesBy_88 : decode cX3_goesBy 88 = .ok (.goto (-24), 3) := by decide +kernel
theorem dX3_goesBy_91 : decode cX3_goesBy 91 = .ok (.aload_n 2, 1) := by decide +kernel
theorem dX3_goesBy_92 : decode cX3_goesBy 92 = .ok (.aload_n 0, 1) := by decide +kernel
theorem dX3_goesBy_93 : decode cX3_goesBy 93 = .ok (.getfield 22, 3) := by decide +kernel
theorem dX3_goesBy_96 : decode cX3_goesBy 96 = .ok (.invokevirtual 114, 3) := by decide +kernel
theorem dX3_goesBy_99 : decode cX3_goesBy 99 = .ok (.aload_n 0, 1) := by decide +kernel
theorem dX3_goesBy_100 : decode cX3_goesBy 100 = .ok (.getfield 22, 3) := by decide +kernel
theorem dX3_goesBy_103 : decode cX3_goesBy 103 = .ok (.iconst 3, 1) := by decide +kernel
theorem dX3_goesBy_104 : decode cX3_goesBy 104 = .ok (.iload_n 1, 1) := by decide +kernel
theorem dX3_goesBy_105 : decode cX3_goesBy 105 = .ok (.iastore, 1) := by decide +kernel
theorem dX3_goesBy_106 : decode cX3_goesBy 106 = .ok (.aload_n 0, 1) := by decide +kernel
theorem dX3_goesBy_107 : decode cX3_goesBy 107 = .ok (.getfield 22, 3) := by decide +kernel
theorem dX3_goesBy_110 : decode cX3_goesBy 110 = .ok (.iconst 4, 1) := by decide +kernel
theorem dX3_goesBy_111 : decode cX3_goesBy 111 = .ok (.aload_n 2, 1) := by decide +kernel
theorem dX3_goesBy_112 : decode cX3_goesBy 112 = .ok (.getfield 118, 3) := by decide +kernel
theorem dX3_goesBy_115 : decode cX3_goesBy 115 = .ok (.iastore, 1) := by decide +kernel
theorem dX3_goesBy_116 : decode cX3_goesBy 116 = .ok (.aload_n 0, 1) := by decide +kernel
theorem dX3_goesBy_117 : decode cX3_goesBy 117 = .ok (.getfield 22, 3) := by decide +kernel
theorem dX3_goesBy_120 : decode cX3_goesBy 120 = .ok (.iconst 5, 1) := by decide +kernel
theorem dX3_goesBy_121 : decode cX3_goesBy 121 = .ok (.aload_n 2, 1) := by decide +kernel
theorem dX3_goesBy_122 : decode cX3_goesBy 122 = .ok (.getfield 121, 3) := by decide +kernel
theorem dX3_goesBy_125 : decode cX3_goesBy 125 = .ok (.iastore, 1) := by decide +kernel
theorem dX3_goesBy_126 : decode cX3_goesBy 126 = .ok (.aload_n 0, 1) := by decide +kernel
theorem dX3_goesBy_127 : decode cX3_goesBy 127 = .ok (.getfield 22, 3) := by decide +kernel
theorem dX3_goesBy_130 : decode cX3_goesBy 130 = .ok (.bipush 6, 2) := by decide +kernel
theorem dX3_goesBy_132 : decode cX3_goesBy 132 = .ok (.dup2, 1) := by decide +kernel
theorem dX3_goesBy_133 : decode cX3_goesBy 133 = .ok (.iaload, 1) := by decide +kernel
theorem dX3_goesBy_134 : decode cX3_goesBy 134 = .ok (.iconst 1, 1) := by decide +kernel
theorem dX3_goesBy_135 : decode cX3_goesBy 135 = .ok (.iadd, 1) := by decide +kernel
theorem dX3_goesBy_136 : decode cX3_goesBy 136 = .ok (.iastore, 1) := by decide +kernel
theorem dX3_goesBy_137 : decode cX3_goesBy 137 = .ok (.iconst 1, 1) := by decide +kernel
theorem dX3_goesBy_138 : decode cX3_goesBy 138 = .ok (.ireturn, 1) := by decide +kernel
theorem dX3_settles_0 : decode cX3_settles 0 = .ok (.aload_n 1, 1) := by decide +kernel
theorem dX3_settles_1 : decode cX3_settles 1 = .ok (.aload_n 0, 1) := by decide +kernel
theorem dX3_settles_2 : decode cX3_settles 2 = .ok (.getfield 22, 3) := by decide +kernel
theorem dX3_settles_5 : decode cX3_settles 5 = .ok (.aload_n 0, 1) := by decide +kernel
theorem dX3_settles_6 : decode cX3_settles 6 = .ok (.getfield 29, 3) := by decide +kernel
theorem dX3_settles_9 : decode cX3_settles 9 = .ok (.invokevirtual 124, 3) := by decide +kernel
theorem dX3_settles_12 : decode cX3_settles 12 = .ok (.ifCond .ne 5, 3) := by decide +kernel
theorem dX3_settles_15 : decode cX3_settles 15 = .ok (.iconst 0, 1) := by decide +kernel
theorem dX3_settles_16 : decode cX3_settles 16 = .ok (.ireturn, 1) := by decide +kernel
theorem dX3_settles_17 : decode cX3_settles 17 = .ok (.aload_n 0, 1) := by decide +kernel
theorem dX3_settles_18 : decode cX3_settles 18 = .ok (.getfield 29, 3) := by decide +kernel
theorem dX3_settles_21 : decode cX3_settles 21 = .ok (.invokevirtual 127, 3) := by decide +kernel
theorem dX3_settles_24 : decode cX3_settles 24 = .ok (.aload_n 1, 1) := by decide +kernel
theorem dX3_settles_25 : decode cX3_settles 25 = .ok (.aload_n 0, 1) := by decide +kernel
theorem dX3_settles_26 : decode cX3_settles 26 = .ok (.getfield 22, 3) := by decide +kernel
theorem dX3_settles_29 : decode cX3_settles 29 = .ok (.aload_n 0, 1) := by decide +kernel
theorem dX3_settles_30 : decode cX3_settles 30 = .ok (.getfield 29, 3) := by decide +kernel
theorem dX3_settles_33 : decode cX3_settles 33 = .ok (.invokevirtual 124, 3) := by decide +kernel
theorem dX3_settles_36 : decode cX3_settles 36 = .ok (.ifCond .ne 5, 3) := by decide +kernel
theorem dX3_settles_39 : decode cX3_settles 39 = .ok (.iconst 0, 1) := by decide +kernel
theorem dX3_settles_40 : decode cX3_settles 40 = .ok (.ireturn, 1) := by decide +kernel
theorem dX3_settles_41 : decode cX3_settles 41 = .ok (.aload_n 0, 1) := by decide +kernel
theorem dX3_settles_42 : decode cX3_settles 42 = .ok (.getfield 29, 3) := by decide +kernel
theorem dX3_settles_45 : decode cX3_settles 45 = .ok (.aload_n 0, 1) := by decide +kernel
theorem dX3_settles_46 : decode cX3_settles 46 = .ok (.getfield 33, 3) := by decide +kernel
theorem dX3_settles_49 : decode cX3_settles 49 = .ok (.invokevirtual 130, 3) := by decide +kernel
theorem dX3_settles_52 : decode cX3_settles 52 = .ok (.iconst 1, 1) := by decide +kernel
theorem dX3_settles_53 : decode cX3_settles 53 = .ok (.ireturn, 1) := by decide +kernel
theorem dX4_init_0 : decode cX4_init 0 = .ok (.aload_n 0, 1) := by decide +kernel
theorem dX4_init_1 : decode cX4_init 1 = .ok (.invokespecial 3, 3) := by decide +kernel
theorem dX4_init_4 : decode cX4_init 4 = .ok (.aload_n 0, 1) := by decide +kernel
theorem dX4_init_5 : decode cX4_init 5 = .ok (.sipush 840, 3) := by decide +kernel
theorem dX4_init_8 : decode cX4_init 8 = .ok (.newarray .int, 2) := by decide +kernel
theorem dX4_init_10 : decode cX4_init 10 = .ok (.putfield 9, 3) := by decide +kernel
theorem dX4_init_13 : decode cX4_init 13 = .ok (.aload_n 0, 1) := by decide +kernel
theorem dX4_init_14 : decode cX4_init 14 = .ok (.sipush 1920, 3) := by decide +kernel
theorem dX4_init_17 : decode cX4_init 17 = .ok (.newarray .int, 2) := by decide +kernel
theorem dX4_init_19 : decode cX4_init 19 = .ok (.putfield 15, 3) := by decide +kernel
theorem dX4_init_22 : decode cX4_init 22 = .ok (.return_, 1) := by decide +kernel
theorem dX4_isMet_0 : decode cX4_isMet 0 = .ok (.iload_n 1, 1) := by decide +kernel
theorem dX4_isMet_1 : decode cX4_isMet 1 = .ok (.ifCond .lt 15, 3) := by decide +kernel
theorem dX4_isMet_4 : decode cX4_isMet 4 = .ok (.iload_n 1, 1) := by decide +kernel
theorem dX4_isMet_5 : decode cX4_isMet 5 = .ok (.aload_n 0, 1) := by decide +kernel
theorem dX4_isMet_6 : decode cX4_isMet 6 = .ok (.getfield 18, 3) := by decide +kernel
theorem dX4_isMet_9 : decode cX4_isMet 9 = .ok (.if_icmp .ge 7, 3) := by decide +kernel
theorem dX4_isMet_12 : decode cX4_isMet 12 = .ok (.iconst 1, 1) := by decide +kernel
theorem dX4_isMet_13 : decode cX4_isMet 13 = .ok (.goto 4, 3) := by decide +kernel
theorem dX4_isMet_16 : decode cX4_isMet 16 = .ok (.iconst 0, 1) := by decide +kernel
theorem dX4_isMet_17 : decode cX4_isMet 17 = .ok (.ireturn, 1) := by decide +kernel
theorem dX4_isStep_0 : decode cX4_isStep 0 = .ok (.aload_n 0, 1) := by decide +kernel
theorem dX4_isStep_1 : decode cX4_isStep 1 = .ok (.iload_n 1, 1) := by decide +kernel
theorem dX4_isStep_2 : decode cX4_isStep 2 = .ok (.invokevirtual 22, 3) := by decide +kernel
theorem dX4_isStep_5 : decode cX4_isStep 5 = .ok (.ifCond .eq 22, 3) := by decide +kernel
theorem dX4_isStep_8 : decode cX4_isStep 8 = .ok (.iload_n 2, 1) := by decide +kernel
theorem dX4_isStep_9 : decode cX4_isStep 9 = .ok (.ifCond .lt 18, 3) := by decide +kernel
theorem dX4_isStep_12 : decode cX4_isStep 12 = .ok (.iload_n 2, 1) := by decide +kernel
theorem dX4_isStep_13 : decode cX4_isStep 13 = .ok (.aload_n 0, 1) := by decide +kernel
theorem dX4_isStep_14 : decode cX4_isStep 14 = .ok (.iload_n 1, 1) := by decide +kernel
theorem dX4_isStep_15 : decode cX4_isStep 15 = .ok (.bipush 6, 2) := by decide +kernel
theorem dX4_isStep_17 : decode cX4_isStep 17 = .ok (.invokevirtual 26, 3) := by decide +kernel
theorem dX4_isStep_20 : decode cX4_isStep 20 = .ok (.if_icmp .ge 7, 3) := by decide +kernel
theorem dX4_isStep_23 : decode cX4_isStep 23 = .ok (.iconst 1, 1) := by decide +kernel
theorem dX4_isStep_24 : decode cX4_isStep 24 = .ok (.goto 4, 3) := by decide +kernel
theorem dX4_isStep_27 : decode cX4_isStep 27 = .ok (.iconst 0, 1) := by decide +kernel
theorem dX4_isStep_28 : decode cX4_isStep 28 = .ok (.ireturn, 1) := by decide +kernel
theorem dX4_fact_0 : decode cX4_fact 0 = .ok (.aload_n 0, 1) := by decide +kernel
theorem dX4_fact_1 : decode cX4_fact 1 = .ok (.getfield 9, 3) := by decide +kernel
theorem dX4_fact_4 : decode cX4_fact 4 = .ok (.iload_n 1, 1) := by decide +kernel
theorem dX4_fact_5 : decode cX4_fact 5 = .ok (.bipush 7, 2) := by decide +kernel
theorem dX4_fact_7 : decode cX4_fact 7 = .ok (.imul, 1) := by decide +kernel
theorem dX4_fact_8 : decode cX4_fact 8 = .ok (.iload_n 2, 1) := by decide +kernel
theorem dX4_fact_9 : decode cX4_fact 9 = .ok (.iadd, 1) := by decide +kernel
theorem dX4_fact_10 : decode cX4_fact 10 = .ok (.iaload, 1) := by decide +kernel
theorem dX4_fact_11 : decode cX4_fact 11 = .ok (.ireturn, 1) := by decide +kernel
theorem dX4_boundOf_0 : decode cX4_boundOf 0 = .ok (.aload_n 0, 1) := by decide +kernel
theorem dX4_boundOf_1 : decode cX4_boundOf 1 = .ok (.getfield 15, 3) := by decide +kernel
theorem dX4_boundOf_4 : decode cX4_boundOf 4 = .ok (.iload_n 1, 1) := by decide +kernel
theorem dX4_boundOf_5 : decode cX4_boundOf 5 = .ok (.bipush 16, 2) := by decide +kernel
theorem dX4_boundOf_7 : decode cX4_boundOf 7 = .ok (.imul, 1) := by decide +kernel
theorem dX4_boundOf_8 : decode cX4_boundOf 8 = .ok (.iload_n 2, 1) := by decide +kernel
theorem dX4_boundOf_9 : decode cX4_boundOf 9 = .ok (.iconst 4, 1) := by decide +kernel
theorem dX4_boundOf_10 : decode cX4_boundOf 10 = .ok (.imul, 1) := by decide +kernel
theorem dX4_boundOf_11 : decode cX4_boundOf 11 = .ok (.iadd, 1) := by decide +kernel
theorem dX4_boundOf_12 : decode cX4_boundOf 12 = .ok (.iload_n 3, 1) := by decide +kernel
theorem dX4_boundOf_13 : decode cX4_boundOf 13 = .ok (.iadd, 1) := by decide +kernel
theorem dX4_boundOf_14 : decode cX4_boundOf 14 = .ok (.iaload, 1) := by decide +kernel
theorem dX4_boundOf_15 : decode cX4_boundOf 15 = .ok (.ireturn, 1) := by decide +kernel
theorem dX4_add_0 : decode cX4_add 0 = .ok (.aload_n 0, 1) := by decide +kernel
theorem dX4_add_1 : decode cX4_add 1 = .ok (.getfield 18, 3) := by decide +kernel
theorem dX4_add_4 : decode cX4_add 4 = .ok (.bipush 120, 2) := by decide +kernel
theorem dX4_add_6 : decode cX4_add 6 = .ok (.if_icmp .ge 52, 3) := by decide +kernel
theorem dX4_add_9 : decode cX4_add 9 = .ok (.aload_n 1, 1) := by decide +kernel
theorem dX4_add_10 : decode cX4_add 10 = .ok (.iconst 0, 1) := by decide +kernel
theorem dX4_add_11 : decode cX4_add 11 = .ok (.aload_n 0, 1) := by decide +kernel
theorem dX4_add_12 : decode cX4_add 12 = .ok (.getfield 9, 3) := by decide +kernel
theorem dX4_add_15 : decode cX4_add 15 = .ok (.aload_n 0, 1) := by decide +kernel
theorem dX4_add_16 : decode cX4_add 16 = .ok (.getfield 18, 3) := by decide +kernel
theorem dX4_add_19 : decode cX4_add 19 = .ok (.bipush 7, 2) := by decide +kernel
theorem dX4_add_21 : decode cX4_add 21 = .ok (.imul, 1) := by decide +kernel
theorem dX4_add_22 : decode cX4_add 22 = .ok (.bipush 7, 2) := by decide +kernel
theorem dX4_add_24 : decode cX4_add 24 = .ok (.invokestatic 30, 3) := by decide +kernel
theorem dX4_add_27 : decode cX4_add 27 = .ok (.aload_n 2, 1) := by decide +kernel
theorem dX4_add_28 : decode cX4_add 28 = .ok (.getfield 36, 3) := by decide +kernel
theorem dX4_add_31 : decode cX4_add 31 = .ok (.iconst 0, 1) := by decide +kernel
theorem dX4_add_32 : decode cX4_add 32 = .ok (.aload_n 0, 1) := by decide +kernel
theorem dX4_add_33 : decode cX4_add 33 = .ok (.getfield 15, 3) := by decide +kernel
theorem dX4_add_36 : decode cX4_add 36 = .ok (.aload_n 0, 1) := by decide +kernel
theorem dX4_add_37 : decode cX4_add 37 = .ok (.getfield 18, 3) := by decide +kernel
theorem dX4_add_40 : decode cX4_add 40 = .ok (.bipush 16, 2) := by decide +kernel
theorem dX4_add_42 : decode cX4_add 42 = .ok (.imul, 1) := by decide +kernel
theorem dX4_add_43 : decode cX4_add 43 = .ok (.bipush 16, 2) := by decide +kernel
theorem dX4_add_45 : decode cX4_add 45 = .ok (.invokestatic 30, 3) := by decide +kernel
theorem dX4_add_48 : decode cX4_add 48 = .ok (.aload_n 0, 1) := by decide +kernel
theorem dX4_add_49 : decode cX4_add 49 = .ok (.dup, 1) := by decide +kernel
theorem dX4_add_50 : decode cX4_add 50 = .ok (.getfield 18, 3) := by decide +kernel
theorem dX4_add_53 : decode cX4_add 53 = .ok (.iconst 1, 1) := by decide +kernel
theorem dX4_add_54 : decode cX4_add 54 = .ok (.iadd, 1) := by decide +kernel
theorem dX4_add_55 : decode cX4_add 55 = .ok (.putfield 18, 3) := by decide +kernel
theorem dX4_add_58 : decode cX4_add 58 = .ok (.return_, 1) := by decide +kernel
theorem dX4_copyFacts_0 : decode cX4_copyFacts 0 = .ok (.aload_n 0, 1) := by decide +kernel
theorem dX4_copyFacts_1 : decode cX4_copyFacts 1 = .ok (.getfield 9, 3) := by decide +kernel
theorem dX4_copyFacts_4 : decode cX4_copyFacts 4 = .ok (.iload_n 1, 1) := by decide +kernel
theorem dX4_copyFacts_5 : decode cX4_copyFacts 5 = .ok (.bipush 7, 2) := by decide +kernel
theorem dX4_copyFacts_7 : decode cX4_copyFacts 7 = .ok (.imul, 1) := by decide +kernel
theorem dX4_copyFacts_8 : decode cX4_copyFacts 8 = .ok (.aload_n 2, 1) := by decide +kernel
theorem dX4_copyFacts_9 : decode cX4_copyFacts 9 = .ok (.iconst 0, 1) := by decide +kernel
theorem dX4_copyFacts_10 : decode cX4_copyFacts 10 = .ok (.bipush 7, 2) := by decide +kernel
theorem dX4_copyFacts_12 : decode cX4_copyFacts 12 = .ok (.invokestatic 30, 3) := by decide +kernel
theorem dX4_copyFacts_15 : decode cX4_copyFacts 15 = .ok (.return_, 1) := by decide +kernel
theorem dX4_copyZone_0 : decode cX4_copyZone 0 = .ok (.aload_n 0, 1) := by decide +kernel
theorem dX4_copyZone_1 : decode cX4_copyZone 1 = .ok (.getfield 15, 3) := by decide +kernel
theorem dX4_copyZone_4 : decode cX4_copyZone 4 = .ok (.iload_n 1, 1) := by decide +kernel
theorem dX4_copyZone_5 : decode cX4_copyZone 5 = .ok (.bipush 16, 2) := by decide +kernel
theorem dX4_copyZone_7 : decode cX4_copyZone 7 = .ok (.imul, 1) := by decide +kernel
theorem dX4_copyZone_8 : decode cX4_copyZone 8 = .ok (.aload_n 2, 1) := by decide +kernel
theorem dX4_copyZone_9 : decode cX4_copyZone 9 = .ok (.getfield 36, 3) := by decide +kernel
theorem dX4_copyZone_12 : decode cX4_copyZone 12 = .ok (.iconst 0, 1) := by decide +kernel
theorem dX4_copyZone_13 : decode cX4_copyZone 13 = .ok (.bipush 16, 2) := by decide +kernel
theorem dX4_copyZone_15 : decode cX4_copyZone 15 = .ok (.invokestatic 30, 3) := by decide +kernel
theorem dX4_copyZone_18 : decode cX4_copyZone 18 = .ok (.return_, 1) := by decide +kernel
theorem dX4_onWay_0 : decode cX4_onWay 0 = .ok (.iload_n 1, 1) := by decide +kernel
theorem dX4_onWay_1 : decode cX4_onWay 1 = .ok (.istore_n 3, 1) := by decide +kernel
theorem dX4_onWay_2 : decode cX4_onWay 2 = .ok (.aload_n 0, 1) := by decide +kernel
theorem dX4_onWay_3 : decode cX4_onWay 3 = .ok (.iload_n 1, 1) := by decide +kernel
theorem dX4_onWay_4 : decode cX4_onWay 4 = .ok (.bipush 6, 2) := by decide +kernel
theorem dX4_onWay_6 : decode cX4_onWay 6 = .ok (.invokevirtual 26, 3) := by decide +kernel
theorem dX4_onWay_9 : decode cX4_onWay 9 = .ok (.iconst 1, 1) := by decide +kernel
theorem dX4_onWay_10 : decode cX4_onWay 10 = .ok (.isub, 1) := by decide +kernel
theorem dX4_onWay_11 : decode cX4_onWay 11 = .ok (.istore 4, 2) := by decide +kernel
theorem dX4_onWay_13 : decode cX4_onWay 13 = .ok (.iload 4, 2) := by decide +kernel
theorem dX4_onWay_15 : decode cX4_onWay 15 = .ok (.iload_n 2, 1) := by decide +kernel
theorem dX4_onWay_16 : decode cX4_onWay 16 = .ok (.if_icmp .le 16, 3) := by decide +kernel
theorem dX4_onWay_19 : decode cX4_onWay 19 = .ok (.aload_n 0, 1) := by decide +kernel
theorem dX4_onWay_20 : decode cX4_onWay 20 = .ok (.iload_n 3, 1) := by decide +kernel
theorem dX4_onWay_21 : decode cX4_onWay 21 = .ok (.iconst 3, 1) := by decide +kernel
theorem dX4_onWay_22 : decode cX4_onWay 22 = .ok (.invokevirtual 26, 3) := by decide +kernel
theorem dX4_onWay_25 : decode cX4_onWay 25 = .ok (.istore_n 3, 1) := by decide +kernel
theorem dX4_onWay_26 : decode cX4_onWay 26 = .ok (.iinc 4 (-1), 3) := by decide +kernel
theorem dX4_onWay_29 : decode cX4_onWay 29 = .ok (.goto (-16), 3) := by decide +kernel
theorem dX4_onWay_32 : decode cX4_onWay 32 = .ok (.iload_n 3, 1) := by decide +kernel
theorem dX4_onWay_33 : decode cX4_onWay 33 = .ok (.ireturn, 1) := by decide +kernel
theorem dX4_isAt_0 : decode cX4_isAt 0 = .ok (.iconst 0, 1) := by decide +kernel
theorem dX4_isAt_1 : decode cX4_isAt 1 = .ok (.istore_n 3, 1) := by decide +kernel
theorem dX4_isAt_2 : decode cX4_isAt 2 = .ok (.iload_n 3, 1) := by decide +kernel
theorem dX4_isAt_3 : decode cX4_isAt 3 = .ok (.iconst 3, 1) := by decide +kernel
theorem dX4_isAt_4 : decode cX4_isAt 4 = .ok (.if_icmp .ge 30, 3) := by decide +kernel
theorem dX4_isAt_7 : decode cX4_isAt 7 = .ok (.aload_n 2, 1) := by decide +kernel
theorem dX4_isAt_8 : decode cX4_isAt 8 = .ok (.iload_n 3, 1) := by decide +kernel
theorem dX4_isAt_9 : decode cX4_isAt 9 = .ok (.iaload, 1) := by decide +kernel
theorem dX4_isAt_10 : decode cX4_isAt 10 = .ok (.iconst (-1), 1) := by decide +kernel
theorem dX4_isAt_11 : decode cX4_isAt 11 = .ok (.if_icmp .eq 17, 3) := by decide +kernel
theorem dX4_isAt_14 : decode cX4_isAt 14 = .ok (.aload_n 2, 1) := by decide +kernel
theorem dX4_isAt_15 : decode cX4_isAt 15 = .ok (.iload_n 3, 1) := by decide +kernel
theorem dX4_isAt_16 : decode cX4_isAt 16 = .ok (.iaload, 1) := by decide +kernel
theorem dX4_isAt_17 : decode cX4_isAt 17 = .ok (.aload_n 0, 1) := by decide +kernel
theorem dX4_isAt_18 : decode cX4_isAt 18 = .ok (.iload_n 1, 1) := by decide +kernel
theorem dX4_isAt_19 : decode cX4_isAt 19 = .ok (.iload_n 3, 1) := by decide +kernel
theorem dX4_isAt_20 : decode cX4_isAt 20 = .ok (.invokevirtual 26, 3) := by decide +kernel
theorem dX4_isAt_23 : decode cX4_isAt 23 = .ok (.if_icmp .eq 5, 3) := by decide +kernel
theorem dX4_isAt_26 : decode cX4_isAt 26 = .ok (.iconst 0, 1) := by decide +kernel
theorem dX4_isAt_27 : decode cX4_isAt 27 = .ok (.ireturn, 1) := by decide +kernel
theorem dX4_isAt_28 : decode cX4_isAt 28 = .ok (.iinc 3 1, 3) := by decide +kernel
theorem dX4_isAt_31 : decode cX4_isAt 31 = .ok (.goto (-29), 3) := by decide +kernel
theorem dX4_isAt_34 : decode cX4_isAt 34 = .ok (.iconst 1, 1) := by decide +kernel
theorem dX4_isAt_35 : decode cX4_isAt 35 = .ok (.ireturn, 1) := by decide +kernel
theorem dX4_firstAt_0 : decode cX4_firstAt 0 = .ok (.iconst 0, 1) := by decide +kernel
theorem dX4_firstAt_1 : decode cX4_firstAt 1 = .ok (.istore_n 2, 1) := by decide +kernel
theorem dX4_firstAt_2 : decode cX4_firstAt 2 = .ok (.iload_n 2, 1) := by decide +kernel
theorem dX4_firstAt_3 : decode cX4_firstAt 3 = .ok (.aload_n 0, 1) := by decide +kernel
theorem dX4_firstAt_4 : decode cX4_firstAt 4 = .ok (.getfield 18, 3) := by decide +kernel
theorem dX4_firstAt_7 : decode cX4_firstAt 7 = .ok (.if_icmp .ge 20, 3) := by decide +kernel
theorem dX4_firstAt_10 : decode cX4_firstAt 10 = .ok (.aload_n 0, 1) := by decide +kernel
theorem dX4_firstAt_11 : decode cX4_firstAt 11 = .ok (.iload_n 2, 1) := by decide +kernel
theorem dX4_firstAt_12 : decode cX4_firstAt 12 = .ok (.aload_n 1, 1) := by decide +kernel
theorem dX4_firstAt_13 : decode cX4_firstAt 13 = .ok (.invokevirtual 39, 3) := by decide +kernel
theorem dX4_firstAt_16 : decode cX4_firstAt 16 = .ok (.ifCond .eq 5, 3) := by decide +kernel
theorem dX4_firstAt_19 : decode cX4_firstAt 19 = .ok (.iload_n 2, 1) := by decide +kernel
theorem dX4_firstAt_20 : decode cX4_firstAt 20 = .ok (.ireturn, 1) := by decide +kernel
theorem dX4_firstAt_21 : decode cX4_firstAt 21 = .ok (.iinc 2 1, 3) := by decide +kernel
theorem dX4_firstAt_24 : decode cX4_firstAt 24 = .ok (.goto (-22), 3) := by decide +kernel
theorem dX4_firstAt_27 : decode cX4_firstAt 27 = .ok (.iconst (-1), 1) := by decide +kernel
theorem dX4_firstAt_28 : decode cX4_firstAt 28 = .ok (.ireturn, 1) := by decide +kernel
theorem dX4_firstHolding_0 : decode cX4_firstHolding 0 = .ok (.iconst 0, 1) := by decide +kernel
theorem dX4_firstHolding_1 : decode cX4_firstHolding 1 = .ok (.istore_n 3, 1) := by decide +kernel
theorem dX4_firstHolding_2 : decode cX4_firstHolding 2 = .ok (.iload_n 3, 1) := by decide +kernel
theorem dX4_firstHolding_3 : decode cX4_firstHolding 3 = .ok (.aload_n 0, 1) := by decide +kernel
theorem dX4_firstHolding_4 : decode cX4_firstHolding 4 = .ok (.getfield 18, 3) := by decide +kernel
theorem dX4_firstHolding_7 : decode cX4_firstHolding 7 = .ok (.if_icmp .ge 29, 3) := by decide +kernel
theorem dX4_firstHolding_10 : decode cX4_firstHolding 10 = .ok (.aload_n 0, 1) := by decide +kernel
theorem dX4_firstHolding_11 : decode cX4_firstHolding 11 = .ok (.iload_n 3, 1) := by decide +kernel
theorem dX4_firstHolding_12 : decode cX4_firstHolding 12 = .ok (.aload_n 1, 1) := by decide +kernel
theorem dX4_firstHolding_13 : decode cX4_firstHolding 13 = .ok (.invokevirtual 39, 3) := by decide +kernel
theorem dX4_firstHolding_16 : decode cX4_firstHolding 16 = .ok (.ifCond .eq 14, 3) := by decide +kernel
theorem dX4_firstHolding_19 : decode cX4_firstHolding 19 = .ok (.aload_n 0, 1) := by decide +kernel
theorem dX4_firstHolding_20 : decode cX4_firstHolding 20 = .ok (.iload_n 3, 1) := by decide +kernel
theorem dX4_firstHolding_21 : decode cX4_firstHolding 21 = .ok (.aload_n 2, 1) := by decide +kernel
theorem dX4_firstHolding_22 : decode cX4_firstHolding 22 = .ok (.invokevirtual 43, 3) := by decide +kernel
theorem dX4_firstHolding_25 : decode cX4_firstHolding 25 = .ok (.ifCond .eq 5, 3) := by decide +kernel
theorem dX4_firstHolding_28 : decode cX4_firstHolding 28 = .ok (.iload_n 3, 1) := by decide +kernel
theorem dX4_firstHolding_29 : decode cX4_firstHolding 29 = .ok (.ireturn, 1) := by decide +kernel
theorem dX4_firstHolding_30 : decode cX4_firstHolding 30 = .ok (.iinc 3 1, 3) := by decide +kernel
theorem dX4_firstHolding_33 : decode cX4_firstHolding 33 = .ok (.goto (-31), 3) := by decide +kernel
theorem dX4_firstHolding_36 : decode cX4_firstHolding 36 = .ok (.iconst (-1), 1) := by decide +kernel
theorem dX4_firstHolding_37 : decode cX4_firstHolding 37 = .ok (.ireturn, 1) := by decide +kernel
theorem dX4_cover_0 : decode cX4_cover 0 = .ok (.iconst 0, 1) := by decide +kernel
theorem dX4_cover_1 : decode cX4_cover 1 = .ok (.istore_n 3, 1) := by decide +kernel
theorem dX4_cover_2 : decode cX4_cover 2 = .ok (.iload_n 3, 1) := by decide +kernel
theorem dX4_cover_3 : decode cX4_cover 3 = .ok (.aload_n 0, 1) := by decide +kernel
theorem dX4_cover_4 : decode cX4_cover 4 = .ok (.getfield 18, 3) := by decide +kernel
theorem dX4_cover_7 : decode cX4_cover 7 = .ok (.if_icmp .ge 29, 3) := by decide +kernel
theorem dX4_cover_10 : decode cX4_cover 10 = .ok (.aload_n 0, 1) := by decide +kernel
theorem dX4_cover_11 : decode cX4_cover 11 = .ok (.iload_n 3, 1) := by decide +kernel
theorem dX4_cover_12 : decode cX4_cover 12 = .ok (.aload_n 1, 1) := by decide +kernel
theorem dX4_cover_13 : decode cX4_cover 13 = .ok (.invokevirtual 39, 3) := by decide +kernel
theorem dX4_cover_16 : decode cX4_cover 16 = .ok (.ifCond .eq 14, 3) := by decide +kernel
theorem dX4_cover_19 : decode cX4_cover 19 = .ok (.aload_n 0, 1) := by decide +kernel
theorem dX4_cover_20 : decode cX4_cover 20 = .ok (.iload_n 3, 1) := by decide +kernel
theorem dX4_cover_21 : decode cX4_cover 21 = .ok (.aload_n 2, 1) := by decide +kernel
theorem dX4_cover_22 : decode cX4_cover 22 = .ok (.invokevirtual 46, 3) := by decide +kernel
theorem dX4_cover_25 : decode cX4_cover 25 = .ok (.ifCond .eq 5, 3) := by decide +kernel
theorem dX4_cover_28 : decode cX4_cover 28 = .ok (.iconst 1, 1) := by decide +kernel
theorem dX4_cover_29 : decode cX4_cover 29 = .ok (.ireturn, 1) := by decide +kernel
theorem dX4_cover_30 : decode cX4_cover 30 = .ok (.iinc 3 1, 3) := by decide +kernel
theorem dX4_cover_33 : decode cX4_cover 33 = .ok (.goto (-31), 3) := by decide +kernel
theorem dX4_cover_36 : decode cX4_cover 36 = .ok (.iconst 0, 1) := by decide +kernel
theorem dX4_cover_37 : decode cX4_cover 37 = .ok (.ireturn, 1) := by decide +kernel
theorem dX4_takesIn_0 : decode cX4_takesIn 0 = .ok (.iconst 0, 1) := by decide +kernel
theorem dX4_takesIn_1 : decode cX4_takesIn 1 = .ok (.istore_n 3, 1) := by decide +kernel
theorem dX4_takesIn_2 : decode cX4_takesIn 2 = .ok (.iload_n 3, 1) := by decide +kernel
theorem dX4_takesIn_3 : decode cX4_takesIn 3 = .ok (.bipush 16, 2) := by decide +kernel
theorem dX4_takesIn_5 : decode cX4_takesIn 5 = .ok (.if_icmp .ge 31, 3) := by decide +kernel
theorem dX4_takesIn_8 : decode cX4_takesIn 8 = .ok (.aload_n 2, 1) := by decide +kernel
theorem dX4_takesIn_9 : decode cX4_takesIn 9 = .ok (.getfield 36, 3) := by decide +kernel
theorem dX4_takesIn_12 : decode cX4_takesIn 12 = .ok (.iload_n 3, 1) := by decide +kernel
theorem dX4_takesIn_13 : decode cX4_takesIn 13 = .ok (.iaload, 1) := by decide +kernel
theorem dX4_takesIn_14 : decode cX4_takesIn 14 = .ok (.aload_n 0, 1) := by decide +kernel
theorem dX4_takesIn_15 : decode cX4_takesIn 15 = .ok (.getfield 15, 3) := by decide +kernel
theorem dX4_takesIn_18 : decode cX4_takesIn 18 = .ok (.iload_n 1, 1) := by decide +kernel
theorem dX4_takesIn_19 : decode cX4_takesIn 19 = .ok (.bipush 16, 2) := by decide +kernel
theorem dX4_takesIn_21 : decode cX4_takesIn 21 = .ok (.imul, 1) := by decide +kernel
theorem dX4_takesIn_22 : decode cX4_takesIn 22 = .ok (.iload_n 3, 1) := by decide +kernel
theorem dX4_takesIn_23 : decode cX4_takesIn 23 = .ok (.iadd, 1) := by decide +kernel
theorem dX4_takesIn_24 : decode cX4_takesIn 24 = .ok (.iaload, 1) := by decide +kernel
theorem dX4_takesIn_25 : decode cX4_takesIn 25 = .ok (.if_icmp .le 5, 3) := by decide +kernel
theorem dX4_takesIn_28 : decode cX4_takesIn 28 = .ok (.iconst 0, 1) := by decide +kernel
theorem dX4_takesIn_29 : decode cX4_takesIn 29 = .ok (.ireturn, 1) := by decide +kernel
theorem dX4_takesIn_30 : decode cX4_takesIn 30 = .ok (.iinc 3 1, 3) := by decide +kernel
theorem dX4_takesIn_33 : decode cX4_takesIn 33 = .ok (.goto (-31), 3) := by decide +kernel
theorem dX4_takesIn_36 : decode cX4_takesIn 36 = .ok (.iconst 1, 1) := by decide +kernel
theorem dX4_takesIn_37 : decode cX4_takesIn 37 = .ok (.ireturn, 1) := by decide +kernel
theorem dX4_holds_0 : decode cX4_holds 0 = .ok (.iconst 0, 1) := by decide +kernel
theorem dX4_holds_1 : decode cX4_holds 1 = .ok (.istore_n 3, 1) := by decide +kernel
theorem dX4_holds_2 : decode cX4_holds 2 = .ok (.iload_n 3, 1) := by decide +kernel
theorem dX4_holds_3 : decode cX4_holds 3 = .ok (.iconst 4, 1) := by decide +kernel
theorem dX4_holds_4 : decode cX4_holds 4 = .ok (.if_icmp .ge 72, 3) := by decide +kernel
theorem dX4_holds_7 : decode cX4_holds 7 = .ok (.iconst 0, 1) := by decide +kernel
theorem dX4_holds_8 : decode cX4_holds 8 = .ok (.istore 4, 2) := by decide +kernel
theorem dX4_holds_10 : decode cX4_holds 10 = .ok (.iload 4, 2) := by decide +kernel
theorem dX4_holds_12 : decode cX4_holds 12 = .ok (.iconst 4, 1) := by decide +kernel
theorem dX4_holds_13 : decode cX4_holds 13 = .ok (.if_icmp .ge 57, 3) := by decide +kernel
theorem dX4_holds_16 : decode cX4_holds 16 = .ok (.aload_n 0, 1) := by decide +kernel
theorem dX4_holds_17 : decode cX4_holds 17 = .ok (.iload_n 1, 1) := by decide +kernel
theorem dX4_holds_18 : decode cX4_holds 18 = .ok (.iload_n 3, 1) := by decide +kernel
theorem dX4_holds_19 : decode cX4_holds 19 = .ok (.iload 4, 2) := by decide +kernel
theorem dX4_holds_21 : decode cX4_holds 21 = .ok (.invokevirtual 50, 3) := by decide +kernel
theorem dX4_holds_24 : decode cX4_holds 24 = .ok (.istore 5, 2) := by decide +kernel
theorem dX4_holds_26 : decode cX4_holds 26 = .ok (.bipush 64, 2) := by decide +kernel
theorem dX4_holds_28 : decode cX4_holds 28 = .ok (.iload 5, 2) := by decide +kernel
theorem dX4_holds_30 : decode cX4_holds 30 = .ok (.iconst 1, 1) := by decide +kernel
theorem dX4_holds_31 : decode cX4_holds 31 = .ok (.ishr, 1) := by decide +kernel
theorem dX4_holds_32 : decode cX4_holds 32 = .ok (.imul, 1) := by decide +kernel
theorem dX4_holds_33 : decode cX4_holds 33 = .ok (.iconst 1, 1) := by decide +kernel
theorem dX4_holds_34 : decode cX4_holds 34 = .ok (.isub, 1) := by decide +kernel
theorem dX4_holds_35 : decode cX4_holds 35 = .ok (.iload 5, 2) := by decide +kernel
theorem dX4_holds_37 : decode cX4_holds 37 = .ok (.iconst 1, 1) := by decide +kernel
theorem dX4_holds_38 : decode cX4_holds 38 = .ok (.iand, 1) := by decide +kernel
theorem dX4_holds_39 : decode cX4_holds 39 = .ok (.iadd, 1) := by decide +kernel
theorem dX4_holds_40 : decode cX4_holds 40 = .ok (.istore 6, 2) := by decide +kernel
theorem dX4_holds_42 : decode cX4_holds 42 = .ok (.iload 5, 2) := by decide +kernel
theorem dX4_holds_44 : decode cX4_holds 44 = .ok (.ldc 54, 2) := by decide +kernel
theorem dX4_holds_46 : decode cX4_holds 46 = .ok (.if_icmp .eq 18, 3) := by decide +kernel
theorem dX4_holds_49 : decode cX4_holds 49 = .ok (.aload_n 2, 1) := by decide +kernel
theorem dX4_holds_50 : decode cX4_holds 50 = .ok (.iload_n 3, 1) := by decide +kernel
theorem dX4_holds_51 : decode cX4_holds 51 = .ok (.iaload, 1) := by decide +kernel
theorem dX4_holds_52 : decode cX4_holds 52 = .ok (.aload_n 2, 1) := by decide +kernel
theorem dX4_holds_53 : decode cX4_holds 53 = .ok (.iload 4, 2) := by decide +kernel
theorem dX4_holds_55 : decode cX4_holds 55 = .ok (.iaload, 1) := by decide +kernel
theorem dX4_holds_56 : decode cX4_holds 56 = .ok (.isub, 1) := by decide +kernel
theorem dX4_holds_57 : decode cX4_holds 57 = .ok (.iload 6, 2) := by decide +kernel
theorem dX4_holds_59 : decode cX4_holds 59 = .ok (.if_icmp .le 5, 3) := by decide +kernel
theorem dX4_holds_62 : decode cX4_holds 62 = .ok (.iconst 0, 1) := by decide +kernel
theorem dX4_holds_63 : decode cX4_holds 63 = .ok (.ireturn, 1) := by decide +kernel
theorem dX4_holds_64 : decode cX4_holds 64 = .ok (.iinc 4 1, 3) := by decide +kernel
theorem dX4_holds_67 : decode cX4_holds 67 = .ok (.goto (-57), 3) := by decide +kernel
theorem dX4_holds_70 : decode cX4_holds 70 = .ok (.iinc 3 1, 3) := by decide +kernel
theorem dX4_holds_73 : decode cX4_holds 73 = .ok (.goto (-71), 3) := by decide +kernel
theorem dX4_holds_76 : decode cX4_holds 76 = .ok (.iconst 1, 1) := by decide +kernel
theorem dX4_holds_77 : decode cX4_holds 77 = .ok (.ireturn, 1) := by decide +kernel
theorem dX5_init_0 : decode cX5_init 0 = .ok (.aload_n 0, 1) := by decide +kernel
theorem dX5_init_1 : decode cX5_init 1 = .ok (.invokespecial 3, 3) := by decide +kernel
theorem dX5_init_4 : decode cX5_init 4 = .ok (.aload_n 0, 1) := by decide +kernel
theorem dX5_init_5 : decode cX5_init 5 = .ok (.iload_n 1, 1) := by decide +kernel
theorem dX5_init_6 : decode cX5_init 6 = .ok (.putfield 9, 3) := by decide +kernel
theorem dX5_init_9 : decode cX5_init 9 = .ok (.aload_n 0, 1) := by decide +kernel
theorem dX5_init_10 : decode cX5_init 10 = .ok (.iload_n 2, 1) := by decide +kernel
theorem dX5_init_11 : decode cX5_init 11 = .ok (.putfield 15, 3) := by decide +kernel
theorem dX5_init_14 : decode cX5_init 14 = .ok (.aload_n 0, 1) := by decide +kernel
theorem dX5_init_15 : decode cX5_init 15 = .ok (.iload_n 3, 1) := by decide +kernel
theorem dX5_init_16 : decode cX5_init 16 = .ok (.putfield 18, 3) := by decide +kernel
theorem dX5_init_19 : decode cX5_init 19 = .ok (.return_, 1) := by decide +kernel
theorem dX5_isCeiling_0 : decode cX5_isCeiling 0 = .ok (.aload_n 0, 1) := by decide +kernel
theorem dX5_isCeiling_1 : decode cX5_isCeiling 1 = .ok (.getfield 15, 3) := by decide +kernel
theorem dX5_isCeiling_4 : decode cX5_isCeiling 4 = .ok (.iconst 2, 1) := by decide +kernel
theorem dX5_isCeiling_5 : decode cX5_isCeiling 5 = .ok (.if_icmp .gt 7, 3) := by decide +kernel
theorem dX5_isCeiling_8 : decode cX5_isCeiling 8 = .ok (.iconst 1, 1) := by decide +kernel
theorem dX5_isCeiling_9 : decode cX5_isCeiling 9 = .ok (.goto 4, 3) := by decide +kernel
theorem dX5_isCeiling_12 : decode cX5_isCeiling 12 = .ok (.iconst 0, 1) := by decide +kernel
theorem dX5_isCeiling_13 : decode cX5_isCeiling 13 = .ok (.ireturn, 1) := by decide +kernel
theorem dX5_isFloor_0 : decode cX5_isFloor 0 = .ok (.aload_n 0, 1) := by decide +kernel
theorem dX5_isFloor_1 : decode cX5_isFloor 1 = .ok (.getfield 15, 3) := by decide +kernel
theorem dX5_isFloor_4 : decode cX5_isFloor 4 = .ok (.iconst 2, 1) := by decide +kernel
theorem dX5_isFloor_5 : decode cX5_isFloor 5 = .ok (.if_icmp .lt 7, 3) := by decide +kernel
theorem dX5_isFloor_8 : decode cX5_isFloor 8 = .ok (.iconst 1, 1) := by decide +kernel
theorem dX5_isFloor_9 : decode cX5_isFloor 9 = .ok (.goto 4, 3) := by decide +kernel
theorem dX5_isFloor_12 : decode cX5_isFloor 12 = .ok (.iconst 0, 1) := by decide +kernel
theorem dX5_isFloor_13 : decode cX5_isFloor 13 = .ok (.ireturn, 1) := by decide +kernel
theorem dX5_ceiling_0 : decode cX5_ceiling 0 = .ok (.iconst 2, 1) := by decide +kernel
theorem dX5_ceiling_1 : decode cX5_ceiling 1 = .ok (.aload_n 0, 1) := by decide +kernel
theorem dX5_ceiling_2 : decode cX5_ceiling 2 = .ok (.getfield 18, 3) := by decide +kernel
theorem dX5_ceiling_5 : decode cX5_ceiling 5 = .ok (.imul, 1) := by decide +kernel
theorem dX5_ceiling_6 : decode cX5_ceiling 6 = .ok (.aload_n 0, 1) := by decide +kernel
theorem dX5_ceiling_7 : decode cX5_ceiling 7 = .ok (.getfield 15, 3) := by decide +kernel
theorem dX5_ceiling_10 : decode cX5_ceiling 10 = .ok (.ifCond .ne 7, 3) := by decide +kernel
theorem dX5_ceiling_13 : decode cX5_ceiling 13 = .ok (.iconst 0, 1) := by decide +kernel
theorem dX5_ceiling_14 : decode cX5_ceiling 14 = .ok (.goto 4, 3) := by decide +kernel
theorem dX5_ceiling_17 : decode cX5_ceiling 17 = .ok (.iconst 1, 1) := by decide +kernel
theorem dX5_ceiling_18 : decode cX5_ceiling 18 = .ok (.iadd, 1) := by decide +kernel
theorem dX5_ceiling_19 : decode cX5_ceiling 19 = .ok (.ireturn, 1) := by decide +kernel
theorem dX5_floor_0 : decode cX5_floor 0 = .ok (.bipush (-2), 2) := by decide +kernel
theorem dX5_floor_2 : decode cX5_floor 2 = .ok (.aload_n 0, 1) := by decide +kernel
theorem dX5_floor_3 : decode cX5_floor 3 = .ok (.getfield 18, 3) := by decide +kernel
theorem dX5_floor_6 : decode cX5_floor 6 = .ok (.imul, 1) := by decide +kernel
theorem dX5_floor_7 : decode cX5_floor 7 = .ok (.aload_n 0, 1) := by decide +kernel
theorem dX5_floor_8 : decode cX5_floor 8 = .ok (.getfield 15, 3) := by decide +kernel
theorem dX5_floor_11 : decode cX5_floor 11 = .ok (.iconst 4, 1) := by decide +kernel
theorem dX5_floor_12 : decode cX5_floor 12 = .ok (.if_icmp .ne 7, 3) := by decide +kernel
theorem dX5_floor_15 : decode cX5_floor 15 = .ok (.iconst 0, 1) := by decide +kernel
theorem dX5_floor_16 : decode cX5_floor 16 = .ok (.goto 4, 3) := by decide +kernel
theorem dX5_floor_19 : decode cX5_floor 19 = .ok (.iconst 1, 1) := by decide +kernel
theorem dX5_floor_20 : decode cX5_floor 20 = .ok (.iadd, 1) := by decide +kernel
theorem dX5_floor_21 : decode cX5_floor 21 = .ok (.ireturn, 1) := by decide +kernel
theorem dX5_mostParts_0 : decode cX5_mostParts 0 = .ok (.bipush 64, 2) := by decide +kernel
theorem dX5_mostParts_2 : decode cX5_mostParts 2 = .ok (.aload_n 0, 1) := by decide +kernel
theorem dX5_mostParts_3 : decode cX5_mostParts 3 = .ok (.getfield 18, 3) := by decide +kernel
theorem dX5_mostParts_6 : decode cX5_mostParts 6 = .ok (.imul, 1) := by decide +kernel
theorem dX5_mostParts_7 : decode cX5_mostParts 7 = .ok (.aload_n 0, 1) := by decide +kernel
theorem dX5_mostParts_8 : decode cX5_mostParts 8 = .ok (.getfield 15, 3) := by decide +kernel
theorem dX5_mostParts_11 : decode cX5_mostParts 11 = .ok (.ifCond .ne 7, 3) := by decide +kernel
theorem dX5_mostParts_14 : decode cX5_mostParts 14 = .ok (.iconst 1, 1) := by decide +kernel
theorem dX5_mostParts_15 : decode cX5_mostParts 15 = .ok (.goto 4, 3) := by decide +kernel
theorem dX5_mostParts_18 : decode cX5_mostParts 18 = .ok (.iconst 0, 1) := by decide +kernel
theorem dX5_mostParts_19 : decode cX5_mostParts 19 = .ok (.isub, 1) := by decide +kernel
theorem dX5_mostParts_20 : decode cX5_mostParts 20 = .ok (.ireturn, 1) := by decide +kernel
theorem dX5_leastParts_0 : decode cX5_leastParts 0 = .ok (.bipush 64, 2) := by decide +kernel
theorem dX5_leastParts_2 : decode cX5_leastParts 2 = .ok (.aload_n 0, 1) := by decide +kernel
theorem dX5_leastParts_3 : decode cX5_leastParts 3 = .ok (.getfield 18, 3) := by decide +kernel
theorem dX5_leastParts_6 : decode cX5_leastParts 6 = .ok (.imul, 1) := by decide +kernel
theorem dX5_leastParts_7 : decode cX5_leastParts 7 = .ok (.aload_n 0, 1) := by decide +kernel
theorem dX5_leastParts_8 : decode cX5_leastParts 8 = .ok (.getfield 15, 3) := by decide +kernel
theorem dX5_leastParts_11 : decode cX5_leastParts 11 = .ok (.iconst 4, 1) := by decide +kernel
theorem dX5_leastParts_12 : decode cX5_leastParts 12 = .ok (.if_icmp .ne 7, 3) := by decide +kernel
theorem dX5_leastParts_15 : decode cX5_leastParts 15 = .ok (.iconst 1, 1) := by decide +kernel
theorem dX5_leastParts_16 : decode cX5_leastParts 16 = .ok (.goto 4, 3) := by decide +kernel
theorem dX5_leastParts_19 : decode cX5_leastParts 19 = .ok (.iconst 0, 1) := by decide +kernel
theorem dX5_leastParts_20 : decode cX5_leastParts 20 = .ok (.iadd, 1) := by decide +kernel
theorem dX5_leastParts_21 : decode cX5_leastParts 21 = .ok (.ireturn, 1) := by decide +kernel
theorem dX5_allows_0 : decode cX5_allows 0 = .ok (.aload_n 0, 1) := by decide +kernel
theorem dX5_allows_1 : decode cX5_allows 1 = .ok (.invokevirtual 21, 3) := by decide +kernel
theorem dX5_allows_4 : decode cX5_allows 4 = .ok (.ifCond .eq 11, 3) := by decide +kernel
theorem dX5_allows_7 : decode cX5_allows 7 = .ok (.iload_n 1, 1) := by decide +kernel
theorem dX5_allows_8 : decode cX5_allows 8 = .ok (.aload_n 0, 1) := by decide +kernel
theorem dX5_allows_9 : decode cX5_allows 9 = .ok (.invokevirtual 25, 3) := by decide +kernel
theorem dX5_allows_12 : decode cX5_allows 12 = .ok (.if_icmp .gt 22, 3) := by decide +kernel
theorem dX5_allows_15 : decode cX5_allows 15 = .ok (.aload_n 0, 1) := by decide +kernel
theorem dX5_allows_16 : decode cX5_allows 16 = .ok (.invokevirtual 29, 3) := by decide +kernel
theorem dX5_allows_19 : decode cX5_allows 19 = .ok (.ifCond .eq 11, 3) := by decide +kernel
theorem dX5_allows_22 : decode cX5_allows 22 = .ok (.iload_n 1, 1) := by decide +kernel
theorem dX5_allows_23 : decode cX5_allows 23 = .ok (.aload_n 0, 1) := by decide +kernel
theorem dX5_allows_24 : decode cX5_allows 24 = .ok (.invokevirtual 32, 3) := by decide +kernel
theorem dX5_allows_27 : decode cX5_allows 27 = .ok (.if_icmp .lt 7, 3) := by decide +kernel
theorem dX5_allows_30 : decode cX5_allows 30 = .ok (.iconst 1, 1) := by decide +kernel
theorem dX5_allows_31 : decode cX5_allows 31 = .ok (.goto 4, 3) := by decide +kernel
theorem dX5_allows_34 : decode cX5_allows 34 = .ok (.iconst 0, 1) := by decide +kernel
theorem dX5_allows_35 : decode cX5_allows 35 = .ok (.ireturn, 1) := by decide +kernel
theorem dX6_init_0 : decode cX6_init 0 = .ok (.aload_n 0, 1) := by decide +kernel
theorem dX6_init_1 : decode cX6_init 1 = .ok (.invokespecial 3, 3) := by decide +kernel
theorem dX6_init_4 : decode cX6_init 4 = .ok (.aload_n 0, 1) := by decide +kernel
theorem dX6_init_5 : decode cX6_init 5 = .ok (.iconst 2, 1) := by decide +kernel
theorem dX6_init_6 : decode cX6_init 6 = .ok (.anewarray 9, 3) := by decide +kernel
theorem dX6_init_9 : decode cX6_init 9 = .ok (.putfield 11, 3) := by decide +kernel
theorem dX6_init_12 : decode cX6_init 12 = .ok (.return_, 1) := by decide +kernel
theorem dX6_add_0 : decode cX6_add 0 = .ok (.aload_n 0, 1) := by decide +kernel
theorem dX6_add_1 : decode cX6_add 1 = .ok (.getfield 17, 3) := by decide +kernel
theorem dX6_add_4 : decode cX6_add 4 = .ok (.iconst 2, 1) := by decide +kernel
theorem dX6_add_5 : decode cX6_add 5 = .ok (.if_icmp .ge 23, 3) := by decide +kernel
theorem dX6_add_8 : decode cX6_add 8 = .ok (.aload_n 0, 1) := by decide +kernel
theorem dX6_add_9 : decode cX6_add 9 = .ok (.getfield 11, 3) := by decide +kernel
theorem dX6_add_12 : decode cX6_add 12 = .ok (.aload_n 0, 1) := by decide +kernel
theorem dX6_add_13 : decode cX6_add 13 = .ok (.getfield 17, 3) := by decide +kernel
theorem dX6_add_16 : decode cX6_add 16 = .ok (.aload_n 1, 1) := by decide +kernel
theorem dX6_add_17 : decode cX6_add 17 = .ok (.aastore, 1) := by decide +kernel
theorem dX6_add_18 : decode cX6_add 18 = .ok (.aload_n 0, 1) := by decide +kernel
theorem dX6_add_19 : decode cX6_add 19 = .ok (.dup, 1) := by decide +kernel
theorem dX6_add_20 : decode cX6_add 20 = .ok (.getfield 17, 3) := by decide +kernel
theorem dX6_add_23 : decode cX6_add 23 = .ok (.iconst 1, 1) := by decide +kernel
theorem dX6_add_24 : decode cX6_add 24 = .ok (.iadd, 1) := by decide +kernel
theorem dX6_add_25 : decode cX6_add 25 = .ok (.putfield 17, 3) := by decide +kernel
theorem dX6_add_28 : decode cX6_add 28 = .ok (.return_, 1) := by decide +kernel
theorem dX6_allow_0 : decode cX6_allow 0 = .ok (.iconst 0, 1) := by decide +kernel
theorem dX6_allow_1 : decode cX6_allow 1 = .ok (.istore_n 2, 1) := by decide +kernel
theorem dX6_allow_2 : decode cX6_allow 2 = .ok (.iload_n 2, 1) := by decide +kernel
theorem dX6_allow_3 : decode cX6_allow 3 = .ok (.aload_n 0, 1) := by decide +kernel
theorem dX6_allow_4 : decode cX6_allow 4 = .ok (.getfield 17, 3) := by decide +kernel
theorem dX6_allow_7 : decode cX6_allow 7 = .ok (.if_icmp .ge 34, 3) := by decide +kernel
theorem dX6_allow_10 : decode cX6_allow 10 = .ok (.aload_n 0, 1) := by decide +kernel
theorem dX6_allow_11 : decode cX6_allow 11 = .ok (.getfield 11, 3) := by decide +kernel
theorem dX6_allow_14 : decode cX6_allow 14 = .ok (.iload_n 2, 1) := by decide +kernel
theorem dX6_allow_15 : decode cX6_allow 15 = .ok (.aaload, 1) := by decide +kernel
theorem dX6_allow_16 : decode cX6_allow 16 = .ok (.aload_n 1, 1) := by decide +kernel
theorem dX6_allow_17 : decode cX6_allow 17 = .ok (.aload_n 0, 1) := by decide +kernel
theorem dX6_allow_18 : decode cX6_allow 18 = .ok (.getfield 11, 3) := by decide +kernel
theorem dX6_allow_21 : decode cX6_allow 21 = .ok (.iload_n 2, 1) := by decide +kernel
theorem dX6_allow_22 : decode cX6_allow 22 = .ok (.aaload, 1) := by decide +kernel
theorem dX6_allow_23 : decode cX6_allow 23 = .ok (.getfield 21, 3) := by decide +kernel
theorem dX6_allow_26 : decode cX6_allow 26 = .ok (.iaload, 1) := by decide +kernel
theorem dX6_allow_27 : decode cX6_allow 27 = .ok (.invokevirtual 24, 3) := by decide +kernel
theorem dX6_allow_30 : decode cX6_allow 30 = .ok (.ifCond .ne 5, 3) := by decide +kernel
theorem dX6_allow_33 : decode cX6_allow 33 = .ok (.iconst 0, 1) := by decide +kernel
theorem dX6_allow_34 : decode cX6_allow 34 = .ok (.ireturn, 1) := by decide +kernel
theorem dX6_allow_35 : decode cX6_allow 35 = .ok (.iinc 2 1, 3) := by decide +kernel
theorem dX6_allow_38 : decode cX6_allow 38 = .ok (.goto (-36), 3) := by decide +kernel
theorem dX6_allow_41 : decode cX6_allow 41 = .ok (.iconst 1, 1) := by decide +kernel
theorem dX6_allow_42 : decode cX6_allow 42 = .ok (.ireturn, 1) := by decide +kernel
theorem dX6_narrow_0 : decode cX6_narrow 0 = .ok (.iconst 0, 1) := by decide +kernel
theorem dX6_narrow_1 : decode cX6_narrow 1 = .ok (.istore_n 2, 1) := by decide +kernel
theorem dX6_narrow_2 : decode cX6_narrow 2 = .ok (.iload_n 2, 1) := by decide +kernel
theorem dX6_narrow_3 : decode cX6_narrow 3 = .ok (.aload_n 0, 1) := by decide +kernel
theorem dX6_narrow_4 : decode cX6_narrow 4 = .ok (.getfield 17, 3) := by decide +kernel
theorem dX6_narrow_7 : decode cX6_narrow 7 = .ok (.if_icmp .ge 66, 3) := by decide +kernel
theorem dX6_narrow_10 : decode cX6_narrow 10 = .ok (.aload_n 0, 1) := by decide +kernel
theorem dX6_narrow_11 : decode cX6_narrow 11 = .ok (.getfield 11, 3) := by decide +kernel
theorem dX6_narrow_14 : decode cX6_narrow 14 = .ok (.iload_n 2, 1) := by decide +kernel
theorem dX6_narrow_15 : decode cX6_narrow 15 = .ok (.aaload, 1) := by decide +kernel
theorem dX6_narrow_16 : decode cX6_narrow 16 = .ok (.astore_n 3, 1) := by decide +kernel
theorem dX6_narrow_17 : decode cX6_narrow 17 = .ok (.aload_n 3, 1) := by decide +kernel
theorem dX6_narrow_18 : decode cX6_narrow 18 = .ok (.invokevirtual 28, 3) := by decide +kernel
theorem dX6_narrow_21 : decode cX6_narrow 21 = .ok (.ifCond .eq 21, 3) := by decide +kernel
theorem dX6_narrow_24 : decode cX6_narrow 24 = .ok (.aload_n 1, 1) := by decide +kernel
theorem dX6_narrow_25 : decode cX6_narrow 25 = .ok (.aload_n 3, 1) := by decide +kernel
theorem dX6_narrow_26 : decode cX6_narrow 26 = .ok (.getfield 21, 3) := by decide +kernel
theorem dX6_narrow_29 : decode cX6_narrow 29 = .ok (.iconst 0, 1) := by decide +kernel
theorem dX6_narrow_30 : decode cX6_narrow 30 = .ok (.aload_n 3, 1) := by decide +kernel
theorem dX6_narrow_31 : decode cX6_narrow 31 = .ok (.invokevirtual 32, 3) := by decide +kernel
theorem dX6_narrow_34 : decode cX6_narrow 34 = .ok (.invokevirtual 36, 3) := by decide +kernel
theorem dX6_narrow_37 : decode cX6_narrow 37 = .ok (.ifCond .ne 5, 3) := by decide +kernel
theorem dX6_narrow_40 : decode cX6_narrow 40 = .ok (.iconst 0, 1) := by decide +kernel
theorem dX6_narrow_41 : decode cX6_narrow 41 = .ok (.ireturn, 1) := by decide +kernel
theorem dX6_narrow_42 : decode cX6_narrow 42 = .ok (.aload_n 3, 1) := by decide +kernel
theorem dX6_narrow_43 : decode cX6_narrow 43 = .ok (.invokevirtual 42, 3) := by decide +kernel
theorem dX6_narrow_46 : decode cX6_narrow 46 = .ok (.ifCond .eq 21, 3) := by decide +kernel
theorem dX6_narrow_49 : decode cX6_narrow 49 = .ok (.aload_n 1, 1) := by decide +kernel
theorem dX6_narrow_50 : decode cX6_narrow 50 = .ok (.iconst 0, 1) := by decide +kernel
theorem dX6_narrow_51 : decode cX6_narrow 51 = .ok (.aload_n 3, 1) := by decide +kernel
theorem dX6_narrow_52 : decode cX6_narrow 52 = .ok (.getfield 21, 3) := by decide +kernel
theorem dX6_narrow_55 : decode cX6_narrow 55 = .ok (.aload_n 3, 1) := by decide +kernel
theorem dX6_narrow_56 : decode cX6_narrow 56 = .ok (.invokevirtual 45, 3) := by decide +kernel
theorem dX6_narrow_59 : decode cX6_narrow 59 = .ok (.invokevirtual 36, 3) := by decide +kernel
theorem dX6_narrow_62 : decode cX6_narrow 62 = .ok (.ifCond .ne 5, 3) := by decide +kernel
theorem dX6_narrow_65 : decode cX6_narrow 65 = .ok (.iconst 0, 1) := by decide +kernel
theorem dX6_narrow_66 : decode cX6_narrow 66 = .ok (.ireturn, 1) := by decide +kernel
theorem dX6_narrow_67 : decode cX6_narrow 67 = .ok (.iinc 2 1, 3) := by decide +kernel
theorem dX6_narrow_70 : decode cX6_narrow 70 = .ok (.goto (-68), 3) := by decide +kernel
theorem dX6_narrow_73 : decode cX6_narrow 73 = .ok (.iconst 1, 1) := by decide +kernel
theorem dX6_narrow_74 : decode cX6_narrow 74 = .ok (.ireturn, 1) := by decide +kernel
theorem dX6_greatestNumber_0 : decode cX6_greatestNumber 0 = .ok (.iconst 0, 1) := by decide +kernel
theorem dX6_greatestNumber_1 : decode cX6_greatestNumber 1 = .ok (.istore_n 2, 1) := by decide +kernel
theorem dX6_greatestNumber_2 : decode cX6_greatestNumber 2 = .ok (.iconst 0, 1) := by decide +kernel
theorem dX6_greatestNumber_3 : decode cX6_greatestNumber 3 = .ok (.istore_n 3, 1) := by decide +kernel
theorem dX6_greatestNumber_4 : decode cX6_greatestNumber 4 = .ok (.iload_n 3, 1) := by decide +kernel
theorem dX6_greatestNumber_5 : decode cX6_greatestNumber 5 = .ok (.aload_n 0, 1) := by decide +kernel
theorem dX6_greatestNumber_6 : decode cX6_greatestNumber 6 = .ok (.getfield 17, 3) := by decide +kernel
theorem dX6_greatestNumber_9 : decode cX6_greatestNumber 9 = .ok (.if_icmp .ge 36, 3) := by decide +kernel
theorem dX6_greatestNumber_12 : decode cX6_greatestNumber 12 = .ok (.aload_n 0, 1) := by decide +kernel
theorem dX6_greatestNumber_13 : decode cX6_greatestNumber 13 = .ok (.getfield 11, 3) := by decide +kernel
theorem dX6_greatestNumber_16 : decode cX6_greatestNumber 16 = .ok (.iload_n 3, 1) := by decide +kernel
theorem dX6_greatestNumber_17 : decode cX6_greatestNumber 17 = .ok (.aaload, 1) := by decide +kernel
theorem dX6_greatestNumber_18 : decode cX6_greatestNumber 18 = .ok (.getfield 21, 3) := by decide +kernel
theorem dX6_greatestNumber_21 : decode cX6_greatestNumber 21 = .ok (.iload_n 1, 1) := by decide +kernel
theorem dX6_greatestNumber_22 : decode cX6_greatestNumber 22 = .ok (.if_icmp .ne 17, 3) := by decide +kernel
theorem dX6_greatestNumber_25 : decode cX6_greatestNumber 25 = .ok (.iload_n 2, 1) := by decide +kernel
theorem dX6_greatestNumber_26 : decode cX6_greatestNumber 26 = .ok (.aload_n 0, 1) := by decide +kernel
theorem dX6_greatestNumber_27 : decode cX6_greatestNumber 27 = .ok (.getfield 11, 3) := by decide +kernel
theorem dX6_greatestNumber_30 : decode cX6_greatestNumber 30 = .ok (.iload_n 3, 1) := by decide +kernel
theorem dX6_greatestNumber_31 : decode cX6_greatestNumber 31 = .ok (.aaload, 1) := by decide +kernel
theorem dX6_greatestNumber_32 : decode cX6_greatestNumber 32 = .ok (.getfield 48, 3) := by decide +kernel
theorem dX6_greatestNumber_35 : decode cX6_greatestNumber 35 = .ok (.invokestatic 51, 3) := by decide +kernel
theorem dX6_greatestNumber_38 : decode cX6_greatestNumber 38 = .ok (.istore_n 2, 1) := by decide +kernel
theorem dX6_greatestNumber_39 : decode cX6_greatestNumber 39 = .ok (.iinc 3 1, 3) := by decide +kernel
theorem dX6_greatestNumber_42 : decode cX6_greatestNumber 42 = .ok (.goto (-38), 3) := by decide +kernel
theorem dX6_greatestNumber_45 : decode cX6_greatestNumber 45 = .ok (.iload_n 2, 1) := by decide +kernel
theorem dX6_greatestNumber_46 : decode cX6_greatestNumber 46 = .ok (.ireturn, 1) := by decide +kernel
theorem dX7_init_0 : decode cX7_init 0 = .ok (.aload_n 0, 1) := by decide +kernel
theorem dX7_init_1 : decode cX7_init 1 = .ok (.invokespecial 3, 3) := by decide +kernel
theorem dX7_init_4 : decode cX7_init 4 = .ok (.aload_n 0, 1) := by decide +kernel
theorem dX7_init_5 : decode cX7_init 5 = .ok (.bipush 41, 2) := by decide +kernel
theorem dX7_init_7 : decode cX7_init 7 = .ok (.newarray .int, 2) := by decide +kernel
theorem dX7_init_9 : decode cX7_init 9 = .ok (.putfield 9, 3) := by decide +kernel
theorem dX7_init_12 : decode cX7_init 12 = .ok (.aload_n 0, 1) := by decide +kernel
theorem dX7_init_13 : decode cX7_init 13 = .ok (.bipush 41, 2) := by decide +kernel
theorem dX7_init_15 : decode cX7_init 15 = .ok (.newarray .int, 2) := by decide +kernel
theorem dX7_init_17 : decode cX7_init 17 = .ok (.putfield 15, 3) := by decide +kernel
theorem dX7_init_20 : decode cX7_init 20 = .ok (.aload_n 0, 1) := by decide +kernel
theorem dX7_init_21 : decode cX7_init 21 = .ok (.iconst 4, 1) := by decide +kernel
theorem dX7_init_22 : decode cX7_init 22 = .ok (.newarray .int, 2) := by decide +kernel
theorem dX7_init_24 : decode cX7_init 24 = .ok (.putfield 18, 3) := by decide +kernel
theorem dX7_init_27 : decode cX7_init 27 = .ok (.aload_n 0, 1) := by decide +kernel
theorem dX7_init_28 : decode cX7_init 28 = .ok (.sipush 615, 3) := by decide +kernel
theorem dX7_init_31 : decode cX7_init 31 = .ok (.newarray .int, 2) := by decide +kernel
theorem dX7_init_33 : decode cX7_init 33 = .ok (.putfield 21, 3) := by decide +kernel
theorem dX7_init_36 : decode cX7_init 36 = .ok (.aload_n 0, 1) := by decide +kernel
theorem dX7_init_37 : decode cX7_init 37 = .ok (.sipush 615, 3) := by decide +kernel
theorem dX7_init_40 : decode cX7_init 40 = .ok (.newarray .int, 2) := by decide +kernel
theorem dX7_init_42 : decode cX7_init 42 = .ok (.putfield 24, 3) := by decide +kernel
theorem dX7_init_45 : decode cX7_init 45 = .ok (.aload_n 0, 1) := by decide +kernel
theorem dX7_init_46 : decode cX7_init 46 = .ok (.sipush 615, 3) := by decide +kernel
theorem dX7_init_49 : decode cX7_init 49 = .ok (.newarray .int, 2) := by decide +kernel
theorem dX7_init_51 : decode cX7_init 51 = .ok (.putfield 27, 3) := by decide +kernel
theorem dX7_init_54 : decode cX7_init 54 = .ok (.return_, 1) := by decide +kernel
theorem dX7_fill_0 : decode cX7_fill 0 = .ok (.aload_n 2, 1) := by decide +kernel
theorem dX7_fill_1 : decode cX7_fill 1 = .ok (.iload_n 3, 1) := by decide +kernel
theorem dX7_fill_2 : decode cX7_fill 2 = .ok (.bipush 6, 2) := by decide +kernel
theorem dX7_fill_4 : decode cX7_fill 4 = .ok (.invokevirtual 30, 3) := by decide +kernel
theorem dX7_fill_7 : decode cX7_fill 7 = .ok (.bipush 40, 2) := by decide +kernel
theorem dX7_fill_9 : decode cX7_fill 9 = .ok (.invokestatic 36, 3) := by decide +kernel
theorem dX7_fill_12 : decode cX7_fill 12 = .ok (.istore 4, 2) := by decide +kernel
theorem dX7_fill_14 : decode cX7_fill 14 = .ok (.aload_n 0, 1) := by decide +kernel
theorem dX7_fill_15 : decode cX7_fill 15 = .ok (.aload_n 2, 1) := by decide +kernel
theorem dX7_fill_16 : decode cX7_fill 16 = .ok (.iload_n 3, 1) := by decide +kernel
theorem dX7_fill_17 : decode cX7_fill 17 = .ok (.iload 4, 2) := by decide +kernel
theorem dX7_fill_19 : decode cX7_fill 19 = .ok (.invokevirtual 41, 3) := by decide +kernel
theorem dX7_fill_22 : decode cX7_fill 22 = .ok (.aload_n 0, 1) := by decide +kernel
theorem dX7_fill_23 : decode cX7_fill 23 = .ok (.iconst 0, 1) := by decide +kernel
theorem dX7_fill_24 : decode cX7_fill 24 = .ok (.putfield 45, 3) := by decide +kernel
theorem dX7_fill_27 : decode cX7_fill 27 = .ok (.aload_n 0, 1) := by decide +kernel
theorem dX7_fill_28 : decode cX7_fill 28 = .ok (.getfield 18, 3) := by decide +kernel
theorem dX7_fill_31 : decode cX7_fill 31 = .ok (.iconst 0, 1) := by decide +kernel
theorem dX7_fill_32 : decode cX7_fill 32 = .ok (.invokestatic 49, 3) := by decide +kernel
theorem dX7_fill_35 : decode cX7_fill 35 = .ok (.iconst 1, 1) := by decide +kernel
theorem dX7_fill_36 : decode cX7_fill 36 = .ok (.istore 5, 2) := by decide +kernel
theorem dX7_fill_38 : decode cX7_fill 38 = .ok (.iload 5, 2) := by decide +kernel
theorem dX7_fill_40 : decode cX7_fill 40 = .ok (.iload 4, 2) := by decide +kernel
theorem dX7_fill_42 : decode cX7_fill 42 = .ok (.if_icmp .gt 70, 3) := by decide +kernel
theorem dX7_fill_45 : decode cX7_fill 45 = .ok (.aload_n 0, 1) := by decide +kernel
theorem dX7_fill_46 : decode cX7_fill 46 = .ok (.iload 5, 2) := by decide +kernel
theorem dX7_fill_48 : decode cX7_fill 48 = .ok (.iconst 1, 1) := by decide +kernel
theorem dX7_fill_49 : decode cX7_fill 49 = .ok (.isub, 1) := by decide +kernel
theorem dX7_fill_50 : decode cX7_fill 50 = .ok (.iload 5, 2) := by decide +kernel
theorem dX7_fill_52 : decode cX7_fill 52 = .ok (.iconst 0, 1) := by decide +kernel
theorem dX7_fill_53 : decode cX7_fill 53 = .ok (.invokevirtual 55, 3) := by decide +kernel
theorem dX7_fill_56 : decode cX7_fill 56 = .ok (.aload_n 0, 1) := by decide +kernel
theorem dX7_fill_57 : decode cX7_fill 57 = .ok (.aload_n 1, 1) := by decide +kernel
theorem dX7_fill_58 : decode cX7_fill 58 = .ok (.aload_n 2, 1) := by decide +kernel
theorem dX7_fill_59 : decode cX7_fill 59 = .ok (.aload_n 0, 1) := by decide +kernel
theorem dX7_fill_60 : decode cX7_fill 60 = .ok (.getfield 15, 3) := by decide +kernel
theorem dX7_fill_63 : decode cX7_fill 63 = .ok (.iload 5, 2) := by decide +kernel
theorem dX7_fill_65 : decode cX7_fill 65 = .ok (.iconst 1, 1) := by decide +kernel
theorem dX7_fill_66 : decode cX7_fill 66 = .ok (.isub, 1) := by decide +kernel
theorem dX7_fill_67 : decode cX7_fill 67 = .ok (.iaload, 1) := by decide +kernel
theorem dX7_fill_68 : decode cX7_fill 68 = .ok (.iload 5, 2) := by decide +kernel
theorem dX7_fill_70 : decode cX7_fill 70 = .ok (.invokevirtual 59, 3) := by decide +kernel
theorem dX7_fill_73 : decode cX7_fill 73 = .ok (.aload_n 0, 1) := by decide +kernel
theorem dX7_fill_74 : decode cX7_fill 74 = .ok (.getfield 15, 3) := by decide +kernel
theorem dX7_fill_77 : decode cX7_fill 77 = .ok (.iload 5, 2) := by decide +kernel
theorem dX7_fill_79 : decode cX7_fill 79 = .ok (.iaload, 1) := by decide +kernel
theorem dX7_fill_80 : decode cX7_fill 80 = .ok (.istore 6, 2) := by decide +kernel
theorem dX7_fill_82 : decode cX7_fill 82 = .ok (.aload_n 0, 1) := by decide +kernel
theorem dX7_fill_83 : decode cX7_fill 83 = .ok (.aload_n 1, 1) := by decide +kernel
theorem dX7_fill_84 : decode cX7_fill 84 = .ok (.aload_n 2, 1) := by decide +kernel
theorem dX7_fill_85 : decode cX7_fill 85 = .ok (.iload 6, 2) := by decide +kernel
theorem dX7_fill_87 : decode cX7_fill 87 = .ok (.iconst 4, 1) := by decide +kernel
theorem dX7_fill_88 : decode cX7_fill 88 = .ok (.invokevirtual 30, 3) := by decide +kernel
theorem dX7_fill_91 : decode cX7_fill 91 = .ok (.aload_n 2, 1) := by decide +kernel
theorem dX7_fill_92 : decode cX7_fill 92 = .ok (.iload 6, 2) := by decide +kernel
theorem dX7_fill_94 : decode cX7_fill 94 = .ok (.iconst 5, 1) := by decide +kernel
theorem dX7_fill_95 : decode cX7_fill 95 = .ok (.invokevirtual 30, 3) := by decide +kernel
theorem dX7_fill_98 : decode cX7_fill 98 = .ok (.invokevirtual 63, 3) := by decide +kernel
theorem dX7_fill_101 : decode cX7_fill 101 = .ok (.iload 5, 2) := by decide +kernel
theorem dX7_fill_103 : decode cX7_fill 103 = .ok (.invokevirtual 69, 3) := by decide +kernel
theorem dX7_fill_106 : decode cX7_fill 106 = .ok (.iinc 5 1, 3) := by decide +kernel
theorem dX7_fill_109 : decode cX7_fill 109 = .ok (.goto (-71), 3) := by decide +kernel
theorem dX7_fill_112 : decode cX7_fill 112 = .ok (.aload_n 0, 1) := by decide +kernel
theorem dX7_fill_113 : decode cX7_fill 113 = .ok (.aload_n 1, 1) := by decide +kernel
theorem dX7_fill_114 : decode cX7_fill 114 = .ok (.aload_n 2, 1) := by decide +kernel
theorem dX7_fill_115 : decode cX7_fill 115 = .ok (.aload_n 0, 1) := by decide +kernel
theorem dX7_fill_116 : decode cX7_fill 116 = .ok (.getfield 15, 3) := by decide +kernel
theorem dX7_fill_119 : decode cX7_fill 119 = .ok (.iload 4, 2) := by decide +kernel
theorem dX7_fill_121 : decode cX7_fill 121 = .ok (.iaload, 1) := by decide +kernel
theorem dX7_fill_122 : decode cX7_fill 122 = .ok (.iload 4, 2) := by decide +kernel
theorem dX7_fill_124 : decode cX7_fill 124 = .ok (.invokevirtual 59, 3) := by decide +kernel
theorem dX7_fill_127 : decode cX7_fill 127 = .ok (.aload_n 0, 1) := by decide +kernel
theorem dX7_fill_128 : decode cX7_fill 128 = .ok (.invokevirtual 73, 3) := by decide +kernel
theorem dX7_fill_131 : decode cX7_fill 131 = .ok (.return_, 1) := by decide +kernel
theorem dX7_visit_0 : decode cX7_visit 0 = .ok (.iload_n 2, 1) := by decide +kernel
theorem dX7_visit_1 : decode cX7_visit 1 = .ok (.istore 4, 2) := by decide +kernel
theorem dX7_visit_3 : decode cX7_visit 3 = .ok (.iload_n 3, 1) := by decide +kernel
theorem dX7_visit_4 : decode cX7_visit 4 = .ok (.istore 5, 2) := by decide +kernel
theorem dX7_visit_6 : decode cX7_visit 6 = .ok (.iload 5, 2) := by decide +kernel
theorem dX7_visit_8 : decode cX7_visit 8 = .ok (.ifCond .le 27, 3) := by decide +kernel
theorem dX7_visit_11 : decode cX7_visit 11 = .ok (.aload_n 0, 1) := by decide +kernel
theorem dX7_visit_12 : decode cX7_visit 12 = .ok (.getfield 15, 3) := by decide +kernel
theorem dX7_visit_15 : decode cX7_visit 15 = .ok (.iload 5, 2) := by decide +kernel
theorem dX7_visit_17 : decode cX7_visit 17 = .ok (.iload 4, 2) := by decide +kernel
theorem dX7_visit_19 : decode cX7_visit 19 = .ok (.iastore, 1) := by decide +kernel
theorem dX7_visit_20 : decode cX7_visit 20 = .ok (.aload_n 1, 1) := by decide +kernel
theorem dX7_visit_21 : decode cX7_visit 21 = .ok (.iload 4, 2) := by decide +kernel
theorem dX7_visit_23 : decode cX7_visit 23 = .ok (.iconst 3, 1) := by decide +kernel
theorem dX7_visit_24 : decode cX7_visit 24 = .ok (.invokevirtual 30, 3) := by decide +kernel
theorem dX7_visit_27 : decode cX7_visit 27 = .ok (.istore 4, 2) := by decide +kernel
theorem dX7_visit_29 : decode cX7_visit 29 = .ok (.iinc 5 (-1), 3) := by decide +kernel
theorem dX7_visit_32 : decode cX7_visit 32 = .ok (.goto (-26), 3) := by decide +kernel
theorem dX7_visit_35 : decode cX7_visit 35 = .ok (.aload_n 0, 1) := by decide +kernel
theorem dX7_visit_36 : decode cX7_visit 36 = .ok (.getfield 15, 3) := by decide +kernel
theorem dX7_visit_39 : decode cX7_visit 39 = .ok (.iconst 0, 1) := by decide +kernel
theorem dX7_visit_40 : decode cX7_visit 40 = .ok (.iload 4, 2) := by decide +kernel
theorem dX7_visit_42 : decode cX7_visit 42 = .ok (.iastore, 1) := by decide +kernel
theorem dX7_visit_43 : decode cX7_visit 43 = .ok (.return_, 1) := by decide +kernel
theorem dX7_addStep_0 : decode cX7_addStep 0 = .ok (.aload_n 1, 1) := by decide +kernel
theorem dX7_addStep_1 : decode cX7_addStep 1 = .ok (.ifnonnull 4, 3) := by decide +kernel
theorem dX7_addStep_4 : decode cX7_addStep 4 = .ok (.return_, 1) := by decide +kernel
theorem dX7_addStep_5 : decode cX7_addStep 5 = .ok (.aload_n 0, 1) := by decide +kernel
theorem dX7_addStep_6 : decode cX7_addStep 6 = .ok (.aload_n 1, 1) := by decide +kernel
theorem dX7_addStep_7 : decode cX7_addStep 7 = .ok (.getfield 76, 3) := by decide +kernel
theorem dX7_addStep_10 : decode cX7_addStep 10 = .ok (.getfield 82, 3) := by decide +kernel
theorem dX7_addStep_13 : decode cX7_addStep 13 = .ok (.iload_n 2, 1) := by decide +kernel
theorem dX7_addStep_14 : decode cX7_addStep 14 = .ok (.invokevirtual 88, 3) := by decide +kernel
theorem dX7_addStep_17 : decode cX7_addStep 17 = .ok (.aload_n 1, 1) := by decide +kernel
theorem dX7_addStep_18 : decode cX7_addStep 18 = .ok (.getfield 92, 3) := by decide +kernel
theorem dX7_addStep_21 : decode cX7_addStep 21 = .ok (.ifnull 15, 3) := by decide +kernel
theorem dX7_addStep_24 : decode cX7_addStep 24 = .ok (.aload_n 0, 1) := by decide +kernel
theorem dX7_addStep_25 : decode cX7_addStep 25 = .ok (.aload_n 1, 1) := by decide +kernel
theorem dX7_addStep_26 : decode cX7_addStep 26 = .ok (.getfield 92, 3) := by decide +kernel
theorem dX7_addStep_29 : decode cX7_addStep 29 = .ok (.getfield 82, 3) := by decide +kernel
theorem dX7_addStep_32 : decode cX7_addStep 32 = .ok (.iload_n 2, 1) := by decide +kernel
theorem dX7_addStep_33 : decode cX7_addStep 33 = .ok (.invokevirtual 88, 3) := by decide +kernel
theorem dX7_addStep_36 : decode cX7_addStep 36 = .ok (.iconst 1, 1) := by decide +kernel
theorem dX7_addStep_37 : decode cX7_addStep 37 = .ok (.istore_n 3, 1) := by decide +kernel
theorem dX7_addStep_38 : decode cX7_addStep 38 = .ok (.iload_n 3, 1) := by decide +kernel
theorem dX7_addStep_39 : decode cX7_addStep 39 = .ok (.iconst 4, 1) := by decide +kernel
theorem dX7_addStep_40 : decode cX7_addStep 40 = .ok (.if_icmp .ge 24, 3) := by decide +kernel
theorem dX7_addStep_43 : decode cX7_addStep 43 = .ok (.aload_n 1, 1) := by decide +kernel
theorem dX7_addStep_44 : decode cX7_addStep 44 = .ok (.iload_n 3, 1) := by decide +kernel
theorem dX7_addStep_45 : decode cX7_addStep 45 = .ok (.invokevirtual 95, 3) := by decide +kernel
theorem dX7_addStep_48 : decode cX7_addStep 48 = .ok (.ifCond .eq 10, 3) := by decide +kernel
theorem dX7_addStep_51 : decode cX7_addStep 51 = .ok (.aload_n 0, 1) := by decide +kernel
theorem dX7_addStep_52 : decode cX7_addStep 52 = .ok (.getfield 18, 3) := by decide +kernel
theorem dX7_addStep_55 : decode cX7_addStep 55 = .ok (.iload_n 3, 1) := by decide +kernel
theorem dX7_addStep_56 : decode cX7_addStep 56 = .ok (.iload_n 2, 1) := by decide +kernel
theorem dX7_addStep_57 : decode cX7_addStep 57 = .ok (.iastore, 1) := by decide +kernel
theorem dX7_addStep_58 : decode cX7_addStep 58 = .ok (.iinc 3 1, 3) := by decide +kernel
theorem dX7_addStep_61 : decode cX7_addStep 61 = .ok (.goto (-23), 3) := by decide +kernel
theorem dX7_addStep_64 : decode cX7_addStep 64 = .ok (.return_, 1) := by decide +kernel
theorem dX7_addLimits_0 : decode cX7_addLimits 0 = .ok (.iconst 0, 1) := by decide +kernel
theorem dX7_addLimits_1 : decode cX7_addLimits 1 = .ok (.istore 5, 2) := by decide +kernel
theorem dX7_addLimits_3 : decode cX7_addLimits 3 = .ok (.iload 5, 2) := by decide +kernel
theorem dX7_addLimits_5 : decode cX7_addLimits 5 = .ok (.iconst 3, 1) := by decide +kernel
theorem dX7_addLimits_6 : decode cX7_addLimits 6 = .ok (.if_icmp .ge 28, 3) := by decide +kernel
theorem dX7_addLimits_9 : decode cX7_addLimits 9 = .ok (.aload_n 0, 1) := by decide +kernel
theorem dX7_addLimits_10 : decode cX7_addLimits 10 = .ok (.aload_n 1, 1) := by decide +kernel
theorem dX7_addLimits_11 : decode cX7_addLimits 11 = .ok (.iload 5, 2) := by decide +kernel
theorem dX7_addLimits_13 : decode cX7_addLimits 13 = .ok (.aload_n 2, 1) := by decide +kernel
theorem dX7_addLimits_14 : decode cX7_addLimits 14 = .ok (.iload_n 3, 1) := by decide +kernel
theorem dX7_addLimits_15 : decode cX7_addLimits 15 = .ok (.iload 5, 2) := by decide +kernel
theorem dX7_addLimits_17 : decode cX7_addLimits 17 = .ok (.invokevirtual 30, 3) := by decide +kernel
theorem dX7_addLimits_20 : decode cX7_addLimits 20 = .ok (.invokevirtual 99, 3) := by decide +kernel
theorem dX7_addLimits_23 : decode cX7_addLimits 23 = .ok (.iload 4, 2) := by decide +kernel
theorem dX7_addLimits_25 : decode cX7_addLimits 25 = .ok (.invokevirtual 88, 3) := by decide +kernel
theorem dX7_addLimits_28 : decode cX7_addLimits 28 = .ok (.iinc 5 1, 3) := by decide +kernel
theorem dX7_addLimits_31 : decode cX7_addLimits 31 = .ok (.goto (-28), 3) := by decide +kernel
theorem dX7_addLimits_34 : decode cX7_addLimits 34 = .ok (.return_, 1) := by decide +kernel
theorem dX7_addTests_0 : decode cX7_addTests 0 = .ok (.iconst 0, 1) := by decide +kernel
theorem dX7_addTests_1 : decode cX7_addTests 1 = .ok (.istore_n 3, 1) := by decide +kernel
theorem dX7_addTests_2 : decode cX7_addTests 2 = .ok (.iload_n 3, 1) := by decide +kernel
theorem dX7_addTests_3 : decode cX7_addTests 3 = .ok (.aload_n 1, 1) := by decide +kernel
theorem dX7_addTests_4 : decode cX7_addTests 4 = .ok (.getfield 103, 3) := by decide +kernel
theorem dX7_addTests_7 : decode cX7_addTests 7 = .ok (.if_icmp .ge 70, 3) := by decide +kernel
theorem dX7_addTests_10 : decode cX7_addTests 10 = .ok (.aload_n 1, 1) := by decide +kernel
theorem dX7_addTests_11 : decode cX7_addTests 11 = .ok (.getfield 108, 3) := by decide +kernel
theorem dX7_addTests_14 : decode cX7_addTests 14 = .ok (.iload_n 3, 1) := by decide +kernel
theorem dX7_addTests_15 : decode cX7_addTests 15 = .ok (.aaload, 1) := by decide +kernel
theorem dX7_addTests_16 : decode cX7_addTests 16 = .ok (.astore 4, 2) := by decide +kernel
theorem dX7_addTests_18 : decode cX7_addTests 18 = .ok (.aload_n 0, 1) := by decide +kernel
theorem dX7_addTests_19 : decode cX7_addTests 19 = .ok (.getfield 18, 3) := by decide +kernel
theorem dX7_addTests_22 : decode cX7_addTests 22 = .ok (.aload 4, 2) := by decide +kernel
theorem dX7_addTests_24 : decode cX7_addTests 24 = .ok (.getfield 112, 3) := by decide +kernel
theorem dX7_addTests_27 : decode cX7_addTests 27 = .ok (.iaload, 1) := by decide +kernel
theorem dX7_addTests_28 : decode cX7_addTests 28 = .ok (.istore 5, 2) := by decide +kernel
theorem dX7_addTests_30 : decode cX7_addTests 30 = .ok (.aload 4, 2) := by decide +kernel
theorem dX7_addTests_32 : decode cX7_addTests 32 = .ok (.invokevirtual 117, 3) := by decide +kernel
theorem dX7_addTests_35 : decode cX7_addTests 35 = .ok (.ifCond .eq 16, 3) := by decide +kernel
theorem dX7_addTests_38 : decode cX7_addTests 38 = .ok (.aload_n 0, 1) := by decide +kernel
theorem dX7_addTests_39 : decode cX7_addTests 39 = .ok (.iload_n 2, 1) := by decide +kernel
theorem dX7_addTests_40 : decode cX7_addTests 40 = .ok (.iload 5, 2) := by decide +kernel
theorem dX7_addTests_42 : decode cX7_addTests 42 = .ok (.aload 4, 2) := by decide +kernel
theorem dX7_addTests_44 : decode cX7_addTests 44 = .ok (.invokevirtual 121, 3) := by decide +kernel
theorem dX7_addTests_47 : decode cX7_addTests 47 = .ok (.ineg, 1) := by decide +kernel
theorem dX7_addTests_48 : decode cX7_addTests 48 = .ok (.invokevirtual 55, 3) := by decide +kernel
theorem dX7_addTests_51 : decode cX7_addTests 51 = .ok (.aload 4, 2) := by decide +kernel
theorem dX7_addTests_53 : decode cX7_addTests 53 = .ok (.invokevirtual 125, 3) := by decide +kernel
theorem dX7_addTests_56 : decode cX7_addTests 56 = .ok (.ifCond .eq 15, 3) := by decide +kernel
theorem dX7_addTests_59 : decode cX7_addTests 59 = .ok (.aload_n 0, 1) := by decide +kernel
theorem dX7_addTests_60 : decode cX7_addTests 60 = .ok (.iload 5, 2) := by decide +kernel
theorem dX7_addTests_62 : decode cX7_addTests 62 = .ok (.iload_n 2, 1) := by decide +kernel
theorem dX7_addTests_63 : decode cX7_addTests 63 = .ok (.aload 4, 2) := by decide +kernel
theorem dX7_addTests_65 : decode cX7_addTests 65 = .ok (.invokevirtual 128, 3) := by decide +kernel
theorem dX7_addTests_68 : decode cX7_addTests 68 = .ok (.invokevirtual 55, 3) := by decide +kernel
theorem dX7_addTests_71 : decode cX7_addTests 71 = .ok (.iinc 3 1, 3) := by decide +kernel
theorem dX7_addTests_74 : decode cX7_addTests 74 = .ok (.goto (-72), 3) := by decide +kernel
theorem dX7_addTests_77 : decode cX7_addTests 77 = .ok (.return_, 1) := by decide +kernel
theorem dX7_addGap_0 : decode cX7_addGap 0 = .ok (.aload_n 0, 1) := by decide +kernel
theorem dX7_addGap_1 : decode cX7_addGap 1 = .ok (.getfield 45, 3) := by decide +kernel
theorem dX7_addGap_4 : decode cX7_addGap 4 = .ok (.sipush 615, 3) := by decide +kernel
theorem dX7_addGap_7 : decode cX7_addGap 7 = .ok (.if_icmp .ge 43, 3) := by decide +kernel
theorem dX7_addGap_10 : decode cX7_addGap 10 = .ok (.aload_n 0, 1) := by decide +kernel
theorem dX7_addGap_11 : decode cX7_addGap 11 = .ok (.getfield 21, 3) := by decide +kernel
theorem dX7_addGap_14 : decode cX7_addGap 14 = .ok (.aload_n 0, 1) := by decide +kernel
theorem dX7_addGap_15 : decode cX7_addGap 15 = .ok (.getfield 45, 3) := by decide +kernel
theorem dX7_addGap_18 : decode cX7_addGap 18 = .ok (.iload_n 1, 1) := by decide +kernel
theorem dX7_addGap_19 : decode cX7_addGap 19 = .ok (.iastore, 1) := by decide +kernel
theorem dX7_addGap_20 : decode cX7_addGap 20 = .ok (.aload_n 0, 1) := by decide +kernel
theorem dX7_addGap_21 : decode cX7_addGap 21 = .ok (.getfield 24, 3) := by decide +kernel
theorem dX7_addGap_24 : decode cX7_addGap 24 = .ok (.aload_n 0, 1) := by decide +kernel
theorem dX7_addGap_25 : decode cX7_addGap 25 = .ok (.getfield 45, 3) := by decide +kernel
theorem dX7_addGap_28 : decode cX7_addGap 28 = .ok (.iload_n 2, 1) := by decide +kernel
theorem dX7_addGap_29 : decode cX7_addGap 29 = .ok (.iastore, 1) := by decide +kernel
theorem dX7_addGap_30 : decode cX7_addGap 30 = .ok (.aload_n 0, 1) := by decide +kernel
theorem dX7_addGap_31 : decode cX7_addGap 31 = .ok (.getfield 27, 3) := by decide +kernel
theorem dX7_addGap_34 : decode cX7_addGap 34 = .ok (.aload_n 0, 1) := by decide +kernel
theorem dX7_addGap_35 : decode cX7_addGap 35 = .ok (.getfield 45, 3) := by decide +kernel
theorem dX7_addGap_38 : decode cX7_addGap 38 = .ok (.iload_n 3, 1) := by decide +kernel
theorem dX7_addGap_39 : decode cX7_addGap 39 = .ok (.iastore, 1) := by decide +kernel
theorem dX7_addGap_40 : decode cX7_addGap 40 = .ok (.aload_n 0, 1) := by decide +kernel
theorem dX7_addGap_41 : decode cX7_addGap 41 = .ok (.dup, 1) := by decide +kernel
theorem dX7_addGap_42 : decode cX7_addGap 42 = .ok (.getfield 45, 3) := by decide +kernel
theorem dX7_addGap_45 : decode cX7_addGap 45 = .ok (.iconst 1, 1) := by decide +kernel
theorem dX7_addGap_46 : decode cX7_addGap 46 = .ok (.iadd, 1) := by decide +kernel
theorem dX7_addGap_47 : decode cX7_addGap 47 = .ok (.putfield 45, 3) := by decide +kernel
theorem dX7_addGap_50 : decode cX7_addGap 50 = .ok (.return_, 1) := by decide +kernel
theorem dX7_settle_0 : decode cX7_settle 0 = .ok (.aload_n 0, 1) := by decide +kernel
theorem dX7_settle_1 : decode cX7_settle 1 = .ok (.getfield 9, 3) := by decide +kernel
theorem dX7_settle_4 : decode cX7_settle 4 = .ok (.iconst 0, 1) := by decide +kernel
theorem dX7_settle_5 : decode cX7_settle 5 = .ok (.invokestatic 49, 3) := by decide +kernel
theorem dX7_settle_8 : decode cX7_settle 8 = .ok (.iconst 1, 1) := by decide +kernel
theorem dX7_settle_9 : decode cX7_settle 9 = .ok (.istore_n 1, 1) := by decide +kernel
theorem dX7_settle_10 : decode cX7_settle 10 = .ok (.iconst 0, 1) := by decide +kernel
theorem dX7_settle_11 : decode cX7_settle 11 = .ok (.istore_n 2, 1) := by decide +kernel
theorem dX7_settle_12 : decode cX7_settle 12 = .ok (.iload_n 1, 1) := by decide +kernel
theorem dX7_settle_13 : decode cX7_settle 13 = .ok (.ifCond .eq 84, 3) := by decide +kernel
theorem dX7_settle_16 : decode cX7_settle 16 = .ok (.iload_n 2, 1) := by decide +kernel
theorem dX7_settle_17 : decode cX7_settle 17 = .ok (.bipush 41, 2) := by decide +kernel
theorem dX7_settle_19 : decode cX7_settle 19 = .ok (.if_icmp .gt 78, 3) := by decide +kernel
theorem dX7_settle_22 : decode cX7_settle 22 = .ok (.iconst 0, 1) := by decide +kernel
theorem dX7_settle_23 : decode cX7_settle 23 = .ok (.istore_n 1, 1) := by decide +kernel
theorem dX7_settle_24 : decode cX7_settle 24 = .ok (.iconst 0, 1) := by decide +kernel
theorem dX7_settle_25 : decode cX7_settle 25 = .ok (.istore_n 3, 1) := by decide +kernel
theorem dX7_settle_26 : decode cX7_settle 26 = .ok (.iload_n 3, 1) := by decide +kernel
theorem dX7_settle_27 : decode cX7_settle 27 = .ok (.aload_n 0, 1) := by decide +kernel
theorem dX7_settle_28 : decode cX7_settle 28 = .ok (.getfield 45, 3) := by decide +kernel
theorem dX7_settle_31 : decode cX7_settle 31 = .ok (.if_icmp .ge 60, 3) := by decide +kernel
theorem dX7_settle_34 : decode cX7_settle 34 = .ok (.aload_n 0, 1) := by decide +kernel
theorem dX7_settle_35 : decode cX7_settle 35 = .ok (.getfield 9, 3) := by decide +kernel
theorem dX7_settle_38 : decode cX7_settle 38 = .ok (.aload_n 0, 1) := by decide +kernel
theorem dX7_settle_39 : decode cX7_settle 39 = .ok (.getfield 21, 3) := by decide +kernel
theorem dX7_settle_42 : decode cX7_settle 42 = .ok (.iload_n 3, 1) := by decide +kernel
theorem dX7_settle_43 : decode cX7_settle 43 = .ok (.iaload, 1) := by decide +kernel
theorem dX7_settle_44 : decode cX7_settle 44 = .ok (.iaload, 1) := by decide +kernel
theorem dX7_settle_45 : decode cX7_settle 45 = .ok (.aload_n 0, 1) := by decide +kernel
theorem dX7_settle_46 : decode cX7_settle 46 = .ok (.getfield 27, 3) := by decide +kernel
theorem dX7_settle_49 : decode cX7_settle 49 = .ok (.iload_n 3, 1) := by decide +kernel
theorem dX7_settle_50 : decode cX7_settle 50 = .ok (.iaload, 1) := by decide +kernel
theorem dX7_settle_51 : decode cX7_settle 51 = .ok (.iadd, 1) := by decide +kernel
theorem dX7_settle_52 : decode cX7_settle 52 = .ok (.istore 4, 2) := by decide +kernel
theorem dX7_settle_54 : decode cX7_settle 54 = .ok (.iload 4, 2) := by decide +kernel
theorem dX7_settle_56 : decode cX7_settle 56 = .ok (.aload_n 0, 1) := by decide +kernel
theorem dX7_settle_57 : decode cX7_settle 57 = .ok (.getfield 9, 3) := by decide +kernel
theorem dX7_settle_60 : decode cX7_settle 60 = .ok (.aload_n 0, 1) := by decide +kernel
theorem dX7_settle_61 : decode cX7_settle 61 = .ok (.getfield 24, 3) := by decide +kernel
theorem dX7_settle_64 : decode cX7_settle 64 = .ok (.iload_n 3, 1) := by decide +kernel
theorem dX7_settle_65 : decode cX7_settle 65 = .ok (.iaload, 1) := by decide +kernel
theorem dX7_settle_66 : decode cX7_settle 66 = .ok (.iaload, 1) := by decide +kernel
theorem dX7_settle_67 : decode cX7_settle 67 = .ok (.if_icmp .le 18, 3) := by decide +kernel
theorem dX7_settle_70 : decode cX7_settle 70 = .ok (.aload_n 0, 1) := by decide +kernel
theorem dX7_settle_71 : decode cX7_settle 71 = .ok (.getfield 9, 3) := by decide +kernel
theorem dX7_settle_74 : decode cX7_settle 74 = .ok (.aload_n 0, 1) := by decide +kernel
theorem dX7_settle_75 : decode cX7_settle 75 = .ok (.getfield 24, 3) := by decide +kernel
theorem dX7_settle_78 : decode cX7_settle 78 = .ok (.iload_n 3, 1) := by decide +kernel
theorem dX7_settle_79 : decode cX7_settle 79 = .ok (.iaload, 1) := by decide +kernel
theorem dX7_settle_80 : decode cX7_settle 80 = .ok (.iload 4, 2) := by decide +kernel
theorem dX7_settle_82 : decode cX7_settle 82 = .ok (.iastore, 1) := by decide +kernel
theorem dX7_settle_83 : decode cX7_settle 83 = .ok (.iconst 1, 1) := by decide +kernel
theorem dX7_settle_84 : decode cX7_settle 84 = .ok (.istore_n 1, 1) := by decide +kernel
theorem dX7_settle_85 : decode cX7_settle 85 = .ok (.iinc 3 1, 3) := by decide +kernel
theorem dX7_settle_88 : decode cX7_settle 88 = .ok (.goto (-62), 3) := by decide +kernel
theorem dX7_settle_91 : decode cX7_settle 91 = .ok (.iinc 2 1, 3) := by decide +kernel
theorem dX7_settle_94 : decode cX7_settle 94 = .ok (.goto (-82), 3) := by decide +kernel
theorem dX7_settle_97 : decode cX7_settle 97 = .ok (.return_, 1) := by decide +kernel
theorem dX8_init_0 : decode cX8_init 0 = .ok (.aload_n 0, 1) := by decide +kernel
theorem dX8_init_1 : decode cX8_init 1 = .ok (.invokespecial 3, 3) := by decide +kernel
theorem dX8_init_4 : decode cX8_init 4 = .ok (.aload_n 0, 1) := by decide +kernel
theorem dX8_init_5 : decode cX8_init 5 = .ok (.iconst 3, 1) := by decide +kernel
theorem dX8_init_6 : decode cX8_init 6 = .ok (.newarray .int, 2) := by decide +kernel
theorem dX8_init_8 : decode cX8_init 8 = .ok (.putfield 9, 3) := by decide +kernel
theorem dX8_init_11 : decode cX8_init 11 = .ok (.aload_n 0, 1) := by decide +kernel
theorem dX8_init_12 : decode cX8_init 12 = .ok (.iconst 4, 1) := by decide +kernel
theorem dX8_init_13 : decode cX8_init 13 = .ok (.newarray .int, 2) := by decide +kernel
theorem dX8_init_15 : decode cX8_init 15 = .ok (.putfield 15, 3) := by decide +kernel
theorem dX8_init_18 : decode cX8_init 18 = .ok (.aload_n 0, 1) := by decide +kernel
theorem dX8_init_19 : decode cX8_init 19 = .ok (.iconst 3, 1) := by decide +kernel
theorem dX8_init_20 : decode cX8_init 20 = .ok (.newarray .int, 2) := by decide +kernel
theorem dX8_init_22 : decode cX8_init 22 = .ok (.putfield 18, 3) := by decide +kernel
theorem dX8_init_25 : decode cX8_init 25 = .ok (.aload_n 0, 1) := by decide +kernel
theorem dX8_init_26 : decode cX8_init 26 = .ok (.iconst 4, 1) := by decide +kernel
theorem dX8_init_27 : decode cX8_init 27 = .ok (.newarray .int, 2) := by decide +kernel
theorem dX8_init_29 : decode cX8_init 29 = .ok (.putfield 21, 3) := by decide +kernel
theorem dX8_init_32 : decode cX8_init 32 = .ok (.return_, 1) := by decide +kernel
theorem dX8_start_0 : decode cX8_start 0 = .ok (.aload_n 0, 1) := by decide +kernel
theorem dX8_start_1 : decode cX8_start 1 = .ok (.getfield 9, 3) := by decide +kernel
theorem dX8_start_4 : decode cX8_start 4 = .ok (.iconst 0, 1) := by decide +kernel
theorem dX8_start_5 : decode cX8_start 5 = .ok (.invokestatic 24, 3) := by decide +kernel
theorem dX8_start_8 : decode cX8_start 8 = .ok (.aload_n 0, 1) := by decide +kernel
theorem dX8_start_9 : decode cX8_start 9 = .ok (.getfield 15, 3) := by decide +kernel
theorem dX8_start_12 : decode cX8_start 12 = .ok (.iconst 0, 1) := by decide +kernel
theorem dX8_start_13 : decode cX8_start 13 = .ok (.invokestatic 24, 3) := by decide +kernel
theorem dX8_start_16 : decode cX8_start 16 = .ok (.aload_n 0, 1) := by decide +kernel
theorem dX8_start_17 : decode cX8_start 17 = .ok (.iconst 0, 1) := by decide +kernel
theorem dX8_start_18 : decode cX8_start 18 = .ok (.putfield 30, 3) := by decide +kernel
theorem dX8_start_21 : decode cX8_start 21 = .ok (.aload_n 0, 1) := by decide +kernel
theorem dX8_start_22 : decode cX8_start 22 = .ok (.iconst 0, 1) := by decide +kernel
theorem dX8_start_23 : decode cX8_start 23 = .ok (.putfield 34, 3) := by decide +kernel
theorem dX8_start_26 : decode cX8_start 26 = .ok (.aload_n 0, 1) := by decide +kernel
theorem dX8_start_27 : decode cX8_start 27 = .ok (.aload_n 1, 1) := by decide +kernel
theorem dX8_start_28 : decode cX8_start 28 = .ok (.aload_n 0, 1) := by decide +kernel
theorem dX8_start_29 : decode cX8_start 29 = .ok (.getfield 9, 3) := by decide +kernel
theorem dX8_start_32 : decode cX8_start 32 = .ok (.aload_n 0, 1) := by decide +kernel
theorem dX8_start_33 : decode cX8_start 33 = .ok (.getfield 15, 3) := by decide +kernel
theorem dX8_start_36 : decode cX8_start 36 = .ok (.invokevirtual 37, 3) := by decide +kernel
theorem dX8_start_39 : decode cX8_start 39 = .ok (.putfield 43, 3) := by decide +kernel
theorem dX8_start_42 : decode cX8_start 42 = .ok (.aload_n 0, 1) := by decide +kernel
theorem dX8_start_43 : decode cX8_start 43 = .ok (.getfield 43, 3) := by decide +kernel
theorem dX8_start_46 : decode cX8_start 46 = .ok (.ireturn, 1) := by decide +kernel
theorem dX8_greatestAmount_0 : decode cX8_greatestAmount 0 = .ok (.aload_n 0, 1) := by decide +kernel
theorem dX8_greatestAmount_1 : decode cX8_greatestAmount 1 = .ok (.getfield 15, 3) := by decide +kernel
theorem dX8_greatestAmount_4 : decode cX8_greatestAmount 4 = .ok (.iconst 1, 1) := by decide +kernel
theorem dX8_greatestAmount_5 : decode cX8_greatestAmount 5 = .ok (.iaload, 1) := by decide +kernel
theorem dX8_greatestAmount_6 : decode cX8_greatestAmount 6 = .ok (.aload_n 0, 1) := by decide +kernel
theorem dX8_greatestAmount_7 : decode cX8_greatestAmount 7 = .ok (.getfield 15, 3) := by decide +kernel
theorem dX8_greatestAmount_10 : decode cX8_greatestAmount 10 = .ok (.iconst 2, 1) := by decide +kernel
theorem dX8_greatestAmount_11 : decode cX8_greatestAmount 11 = .ok (.iaload, 1) := by decide +kernel
theorem dX8_greatestAmount_12 : decode cX8_greatestAmount 12 = .ok (.aload_n 0, 1) := by decide +kernel
theorem dX8_greatestAmount_13 : decode cX8_greatestAmount 13 = .ok (.getfield 15, 3) := by decide +kernel
theorem dX8_greatestAmount_16 : decode cX8_greatestAmount 16 = .ok (.iconst 3, 1) := by decide +kernel
theorem dX8_greatestAmount_17 : decode cX8_greatestAmount 17 = .ok (.iaload, 1) := by decide +kernel
theorem dX8_greatestAmount_18 : decode cX8_greatestAmount 18 = .ok (.invokestatic 47, 3) := by decide +kernel
theorem dX8_greatestAmount_21 : decode cX8_greatestAmount 21 = .ok (.invokestatic 47, 3) := by decide +kernel
theorem dX8_greatestAmount_24 : decode cX8_greatestAmount 24 = .ok (.ireturn, 1) := by decide +kernel
theorem dX8_linger_0 : decode cX8_linger 0 = .ok (.iconst 1, 1) := by decide +kernel
theorem dX8_linger_1 : decode cX8_linger 1 = .ok (.istore_n 3, 1) := by decide +kernel
theorem dX8_linger_2 : decode cX8_linger 2 = .ok (.iload_n 3, 1) := by decide +kernel
theorem dX8_linger_3 : decode cX8_linger 3 = .ok (.iconst 4, 1) := by decide +kernel
theorem dX8_linger_4 : decode cX8_linger 4 = .ok (.if_icmp .ge 23, 3) := by decide +kernel
theorem dX8_linger_7 : decode cX8_linger 7 = .ok (.aload_n 0, 1) := by decide +kernel
theorem dX8_linger_8 : decode cX8_linger 8 = .ok (.getfield 21, 3) := by decide +kernel
theorem dX8_linger_11 : decode cX8_linger 11 = .ok (.iload_n 3, 1) := by decide +kernel
theorem dX8_linger_12 : decode cX8_linger 12 = .ok (.aload_n 0, 1) := by decide +kernel
theorem dX8_linger_13 : decode cX8_linger 13 = .ok (.getfield 15, 3) := by decide +kernel
theorem dX8_linger_16 : decode cX8_linger 16 = .ok (.iload_n 3, 1) := by decide +kernel
theorem dX8_linger_17 : decode cX8_linger 17 = .ok (.iaload, 1) := by decide +kernel
theorem dX8_linger_18 : decode cX8_linger 18 = .ok (.iload_n 2, 1) := by decide +kernel
theorem dX8_linger_19 : decode cX8_linger 19 = .ok (.iadd, 1) := by decide +kernel
theorem dX8_linger_20 : decode cX8_linger 20 = .ok (.iastore, 1) := by decide +kernel
theorem dX8_linger_21 : decode cX8_linger 21 = .ok (.iinc 3 1, 3) := by decide +kernel
theorem dX8_linger_24 : decode cX8_linger 24 = .ok (.goto (-22), 3) := by decide +kernel
theorem dX8_linger_27 : decode cX8_linger 27 = .ok (.aload_n 1, 1) := by decide +kernel
theorem dX8_linger_28 : decode cX8_linger 28 = .ok (.aload_n 0, 1) := by decide +kernel
theorem dX8_linger_29 : decode cX8_linger 29 = .ok (.getfield 9, 3) := by decide +kernel
theorem dX8_linger_32 : decode cX8_linger 32 = .ok (.aload_n 0, 1) := by decide +kernel
theorem dX8_linger_33 : decode cX8_linger 33 = .ok (.getfield 21, 3) := by decide +kernel
theorem dX8_linger_36 : decode cX8_linger 36 = .ok (.invokevirtual 37, 3) := by decide +kernel
theorem dX8_linger_39 : decode cX8_linger 39 = .ok (.ifCond .ne 5, 3) := by decide +kernel
theorem dX8_linger_42 : decode cX8_linger 42 = .ok (.iconst 0, 1) := by decide +kernel
theorem dX8_linger_43 : decode cX8_linger 43 = .ok (.ireturn, 1) := by decide +kernel
theorem dX8_linger_44 : decode cX8_linger 44 = .ok (.aload_n 0, 1) := by decide +kernel
theorem dX8_linger_45 : decode cX8_linger 45 = .ok (.getfield 21, 3) := by decide +kernel
theorem dX8_linger_48 : decode cX8_linger 48 = .ok (.iconst 0, 1) := by decide +kernel
theorem dX8_linger_49 : decode cX8_linger 49 = .ok (.aload_n 0, 1) := by decide +kernel
theorem dX8_linger_50 : decode cX8_linger 50 = .ok (.getfield 15, 3) := by decide +kernel
theorem dX8_linger_53 : decode cX8_linger 53 = .ok (.iconst 0, 1) := by decide +kernel
theorem dX8_linger_54 : decode cX8_linger 54 = .ok (.iconst 4, 1) := by decide +kernel
theorem dX8_linger_55 : decode cX8_linger 55 = .ok (.invokestatic 53, 3) := by decide +kernel
theorem dX8_linger_58 : decode cX8_linger 58 = .ok (.aload_n 0, 1) := by decide +kernel
theorem dX8_linger_59 : decode cX8_linger 59 = .ok (.dup, 1) := by decide +kernel
theorem dX8_linger_60 : decode cX8_linger 60 = .ok (.getfield 30, 3) := by decide +kernel
theorem dX8_linger_63 : decode cX8_linger 63 = .ok (.iload_n 2, 1) := by decide +kernel
theorem dX8_linger_64 : decode cX8_linger 64 = .ok (.iadd, 1) := by decide +kernel
theorem dX8_linger_65 : decode cX8_linger 65 = .ok (.putfield 30, 3) := by decide +kernel
theorem dX8_linger_68 : decode cX8_linger 68 = .ok (.iconst 1, 1) := by decide +kernel
theorem dX8_linger_69 : decode cX8_linger 69 = .ok (.ireturn, 1) := by decide +kernel
theorem dX8_take_0 : decode cX8_take 0 = .ok (.aload_n 2, 1) := by decide +kernel
theorem dX8_take_1 : decode cX8_take 1 = .ok (.aload_n 0, 1) := by decide +kernel
theorem dX8_take_2 : decode cX8_take 2 = .ok (.getfield 9, 3) := by decide +kernel
theorem dX8_take_5 : decode cX8_take 5 = .ok (.invokevirtual 59, 3) := by decide +kernel
theorem dX8_take_8 : decode cX8_take 8 = .ok (.ifCond .eq 14, 3) := by decide +kernel
theorem dX8_take_11 : decode cX8_take 11 = .ok (.aload_n 2, 1) := by decide +kernel
theorem dX8_take_12 : decode cX8_take 12 = .ok (.aload_n 0, 1) := by decide +kernel
theorem dX8_take_13 : decode cX8_take 13 = .ok (.getfield 15, 3) := by decide +kernel
theorem dX8_take_16 : decode cX8_take 16 = .ok (.invokevirtual 65, 3) := by decide +kernel
theorem dX8_take_19 : decode cX8_take 19 = .ok (.ifCond .ne 5, 3) := by decide +kernel
theorem dX8_take_22 : decode cX8_take 22 = .ok (.iconst 0, 1) := by decide +kernel
theorem dX8_take_23 : decode cX8_take 23 = .ok (.ireturn, 1) := by decide +kernel
theorem dX8_take_24 : decode cX8_take 24 = .ok (.aload_n 0, 1) := by decide +kernel
theorem dX8_take_25 : decode cX8_take 25 = .ok (.getfield 9, 3) := by decide +kernel
theorem dX8_take_28 : decode cX8_take 28 = .ok (.iconst 0, 1) := by decide +kernel
theorem dX8_take_29 : decode cX8_take 29 = .ok (.aload_n 0, 1) := by decide +kernel
theorem dX8_take_30 : decode cX8_take 30 = .ok (.getfield 18, 3) := by decide +kernel
theorem dX8_take_33 : decode cX8_take 33 = .ok (.iconst 0, 1) := by decide +kernel
theorem dX8_take_34 : decode cX8_take 34 = .ok (.iconst 3, 1) := by decide +kernel
theorem dX8_take_35 : decode cX8_take 35 = .ok (.invokestatic 53, 3) := by decide +kernel
theorem dX8_take_38 : decode cX8_take 38 = .ok (.aload_n 2, 1) := by decide +kernel
theorem dX8_take_39 : decode cX8_take 39 = .ok (.aload_n 0, 1) := by decide +kernel
theorem dX8_take_40 : decode cX8_take 40 = .ok (.getfield 18, 3) := by decide +kernel
theorem dX8_take_43 : decode cX8_take 43 = .ok (.invokevirtual 68, 3) := by decide +kernel
theorem dX8_take_46 : decode cX8_take 46 = .ok (.iconst 1, 1) := by decide +kernel
theorem dX8_take_47 : decode cX8_take 47 = .ok (.istore_n 3, 1) := by decide +kernel
theorem dX8_take_48 : decode cX8_take 48 = .ok (.iload_n 3, 1) := by decide +kernel
theorem dX8_take_49 : decode cX8_take 49 = .ok (.iconst 4, 1) := by decide +kernel
theorem dX8_take_50 : decode cX8_take 50 = .ok (.if_icmp .ge 33, 3) := by decide +kernel
theorem dX8_take_53 : decode cX8_take 53 = .ok (.aload_n 0, 1) := by decide +kernel
theorem dX8_take_54 : decode cX8_take 54 = .ok (.getfield 21, 3) := by decide +kernel
theorem dX8_take_57 : decode cX8_take 57 = .ok (.iload_n 3, 1) := by decide +kernel
theorem dX8_take_58 : decode cX8_take 58 = .ok (.aload_n 2, 1) := by decide +kernel
theorem dX8_take_59 : decode cX8_take 59 = .ok (.iload_n 3, 1) := by decide +kernel
theorem dX8_take_60 : decode cX8_take 60 = .ok (.invokevirtual 72, 3) := by decide +kernel
theorem dX8_take_63 : decode cX8_take 63 = .ok (.ifCond .eq 7, 3) := by decide +kernel
theorem dX8_take_66 : decode cX8_take 66 = .ok (.iconst 0, 1) := by decide +kernel
theorem dX8_take_67 : decode cX8_take 67 = .ok (.goto 9, 3) := by decide +kernel
theorem dX8_take_70 : decode cX8_take 70 = .ok (.aload_n 0, 1) := by decide +kernel
theorem dX8_take_71 : decode cX8_take 71 = .ok (.getfield 15, 3) := by decide +kernel
theorem dX8_take_74 : decode cX8_take 74 = .ok (.iload_n 3, 1) := by decide +kernel
theorem dX8_take_75 : decode cX8_take 75 = .ok (.iaload, 1) := by decide +kernel
theorem dX8_take_76 : decode cX8_take 76 = .ok (.iastore, 1) := by decide +kernel
theorem dX8_take_77 : decode cX8_take 77 = .ok (.iinc 3 1, 3) := by decide +kernel
theorem dX8_take_80 : decode cX8_take 80 = .ok (.goto (-32), 3) := by decide +kernel
theorem dX8_take_83 : decode cX8_take 83 = .ok (.aload_n 1, 1) := by decide +kernel
theorem dX8_take_84 : decode cX8_take 84 = .ok (.aload_n 0, 1) := by decide +kernel
theorem dX8_take_85 : decode cX8_take 85 = .ok (.getfield 18, 3) := by decide +kernel
theorem dX8_take_88 : decode cX8_take 88 = .ok (.aload_n 0, 1) := by decide +kernel
theorem dX8_take_89 : decode cX8_take 89 = .ok (.getfield 21, 3) := by decide +kernel
theorem dX8_take_92 : decode cX8_take 92 = .ok (.invokevirtual 37, 3) := by decide +kernel
theorem dX8_take_95 : decode cX8_take 95 = .ok (.ifCond .ne 5, 3) := by decide +kernel
theorem dX8_take_98 : decode cX8_take 98 = .ok (.iconst 0, 1) := by decide +kernel
theorem dX8_take_99 : decode cX8_take 99 = .ok (.ireturn, 1) := by decide +kernel
theorem dX8_take_100 : decode cX8_take 100 = .ok (.aload_n 0, 1) := by decide +kernel
theorem dX8_take_101 : decode cX8_take 101 = .ok (.getfield 18, 3) := by decide +kernel
theorem dX8_take_104 : decode cX8_take 104 = .ok (.iconst 0, 1) := by decide +kernel
theorem dX8_take_105 : decode cX8_take 105 = .ok (.aload_n 0, 1) := by decide +kernel
theorem dX8_take_106 : decode cX8_take 106 = .ok (.getfield 9, 3) := by decide +kernel
theorem dX8_take_109 : decode cX8_take 109 = .ok (.iconst 0, 1) := by decide +kernel
theorem dX8_take_110 : decode cX8_take 110 = .ok (.iconst 3, 1) := by decide +kernel
theorem dX8_take_111 : decode cX8_take 111 = .ok (.invokestatic 53, 3) := by decide +kernel
theorem dX8_take_114 : decode cX8_take 114 = .ok (.aload_n 0, 1) := by decide +kernel
theorem dX8_take_115 : decode cX8_take 115 = .ok (.getfield 21, 3) := by decide +kernel
theorem dX8_take_118 : decode cX8_take 118 = .ok (.iconst 0, 1) := by decide +kernel
theorem dX8_take_119 : decode cX8_take 119 = .ok (.aload_n 0, 1) := by decide +kernel
theorem dX8_take_120 : decode cX8_take 120 = .ok (.getfield 15, 3) := by decide +kernel
theorem dX8_take_123 : decode cX8_take 123 = .ok (.iconst 0, 1) := by decide +kernel
theorem dX8_take_124 : decode cX8_take 124 = .ok (.iconst 4, 1) := by decide +kernel
theorem dX8_take_125 : decode cX8_take 125 = .ok (.invokestatic 53, 3) := by decide +kernel
theorem dX8_take_128 : decode cX8_take 128 = .ok (.aload_n 0, 1) := by decide +kernel
theorem dX8_take_129 : decode cX8_take 129 = .ok (.dup, 1) := by decide +kernel
theorem dX8_take_130 : decode cX8_take 130 = .ok (.getfield 34, 3) := by decide +kernel
theorem dX8_take_133 : decode cX8_take 133 = .ok (.iconst 1, 1) := by decide +kernel
theorem dX8_take_134 : decode cX8_take 134 = .ok (.iadd, 1) := by decide +kernel
theorem dX8_take_135 : decode cX8_take 135 = .ok (.putfield 34, 3) := by decide +kernel
theorem dX8_take_138 : decode cX8_take 138 = .ok (.iconst 1, 1) := by decide +kernel
theorem dX8_take_139 : decode cX8_take 139 = .ok (.ireturn, 1) := by decide +kernel
theorem dX9_init_0 : decode cX9_init 0 = .ok (.aload_n 0, 1) := by decide +kernel
theorem dX9_init_1 : decode cX9_init 1 = .ok (.invokespecial 3, 3) := by decide +kernel
theorem dX9_init_4 : decode cX9_init 4 = .ok (.aload_n 0, 1) := by decide +kernel
theorem dX9_init_5 : decode cX9_init 5 = .ok (.bipush 16, 2) := by decide +kernel
theorem dX9_init_7 : decode cX9_init 7 = .ok (.newarray .int, 2) := by decide +kernel
theorem dX9_init_9 : decode cX9_init 9 = .ok (.putfield 9, 3) := by decide +kernel
theorem dX9_init_12 : decode cX9_init 12 = .ok (.return_, 1) := by decide +kernel
theorem dX9_sum_0 : decode cX9_sum 0 = .ok (.iload_n 0, 1) := by decide +kernel
theorem dX9_sum_1 : decode cX9_sum 1 = .ok (.ldc 15, 2) := by decide +kernel
theorem dX9_sum_3 : decode cX9_sum 3 = .ok (.if_icmp .eq 9, 3) := by decide +kernel
theorem dX9_sum_6 : decode cX9_sum 6 = .ok (.iload_n 1, 1) := by decide +kernel
theorem dX9_sum_7 : decode cX9_sum 7 = .ok (.ldc 15, 2) := by decide +kernel
theorem dX9_sum_9 : decode cX9_sum 9 = .ok (.if_icmp .ne 6, 3) := by decide +kernel
theorem dX9_sum_12 : decode cX9_sum 12 = .ok (.ldc 15, 2) := by decide +kernel
theorem dX9_sum_14 : decode cX9_sum 14 = .ok (.ireturn, 1) := by decide +kernel
theorem dX9_sum_15 : decode cX9_sum 15 = .ok (.iload_n 0, 1) := by decide +kernel
theorem dX9_sum_16 : decode cX9_sum 16 = .ok (.iload_n 1, 1) := by decide +kernel
theorem dX9_sum_17 : decode cX9_sum 17 = .ok (.iadd, 1) := by decide +kernel
theorem dX9_sum_18 : decode cX9_sum 18 = .ok (.iload_n 0, 1) := by decide +kernel
theorem dX9_sum_19 : decode cX9_sum 19 = .ok (.iload_n 1, 1) := by decide +kernel
theorem dX9_sum_20 : decode cX9_sum 20 = .ok (.ior, 1) := by decide +kernel
theorem dX9_sum_21 : decode cX9_sum 21 = .ok (.iconst 1, 1) := by decide +kernel
theorem dX9_sum_22 : decode cX9_sum 22 = .ok (.iand, 1) := by decide +kernel
theorem dX9_sum_23 : decode cX9_sum 23 = .ok (.isub, 1) := by decide +kernel
theorem dX9_sum_24 : decode cX9_sum 24 = .ok (.ireturn, 1) := by decide +kernel
theorem dX9_putAllClocksAtZero_0 : decode cX9_putAllClocksAtZero 0 = .ok (.aload_n 0, 1) := by decide +kernel
theorem dX9_putAllClocksAtZero_1 : decode cX9_putAllClocksAtZero 1 = .ok (.getfield 9, 3) := by decide +kernel
theorem dX9_putAllClocksAtZero_4 : decode cX9_putAllClocksAtZero 4 = .ok (.iconst 1, 1) := by decide +kernel
theorem dX9_putAllClocksAtZero_5 : decode cX9_putAllClocksAtZero 5 = .ok (.invokestatic 16, 3) := by decide +kernel
theorem dX9_putAllClocksAtZero_8 : decode cX9_putAllClocksAtZero 8 = .ok (.return_, 1) := by decide +kernel
theorem dX9_narrow_0 : decode cX9_narrow 0 = .ok (.iload_n 3, 1) := by decide +kernel
theorem dX9_narrow_1 : decode cX9_narrow 1 = .ok (.aload_n 0, 1) := by decide +kernel
theorem dX9_narrow_2 : decode cX9_narrow 2 = .ok (.getfield 9, 3) := by decide +kernel
theorem dX9_narrow_5 : decode cX9_narrow 5 = .ok (.iconst 4, 1) := by decide +kernel
theorem dX9_narrow_6 : decode cX9_narrow 6 = .ok (.iload_n 1, 1) := by decide +kernel
theorem dX9_narrow_7 : decode cX9_narrow 7 = .ok (.imul, 1) := by decide +kernel
theorem dX9_narrow_8 : decode cX9_narrow 8 = .ok (.iload_n 2, 1) := by decide +kernel
theorem dX9_narrow_9 : decode cX9_narrow 9 = .ok (.iadd, 1) := by decide +kernel
theorem dX9_narrow_10 : decode cX9_narrow 10 = .ok (.iaload, 1) := by decide +kernel
theorem dX9_narrow_11 : decode cX9_narrow 11 = .ok (.if_icmp .lt 5, 3) := by decide +kernel
theorem dX9_narrow_14 : decode cX9_narrow 14 = .ok (.iconst 1, 1) := by decide +kernel
theorem dX9_narrow_15 : decode cX9_narrow 15 = .ok (.ireturn, 1) := by decide +kernel
theorem dX9_narrow_16 : decode cX9_narrow 16 = .ok (.iload_n 3, 1) := by decide +kernel
theorem dX9_narrow_17 : decode cX9_narrow 17 = .ok (.aload_n 0, 1) := by decide +kernel
theorem dX9_narrow_18 : decode cX9_narrow 18 = .ok (.getfield 9, 3) := by decide +kernel
theorem dX9_narrow_21 : decode cX9_narrow 21 = .ok (.iconst 4, 1) := by decide +kernel
theorem dX9_narrow_22 : decode cX9_narrow 22 = .ok (.iload_n 2, 1) := by decide +kernel
theorem dX9_narrow_23 : decode cX9_narrow 23 = .ok (.imul, 1) := by decide +kernel
theorem dX9_narrow_24 : decode cX9_narrow 24 = .ok (.iload_n 1, 1) := by decide +kernel
theorem dX9_narrow_25 : decode cX9_narrow 25 = .ok (.iadd, 1) := by decide +kernel
theorem dX9_narrow_26 : decode cX9_narrow 26 = .ok (.iaload, 1) := by decide +kernel
theorem dX9_narrow_27 : decode cX9_narrow 27 = .ok (.invokestatic 22, 3) := by decide +kernel
theorem dX9_narrow_30 : decode cX9_narrow 30 = .ok (.iconst 1, 1) := by decide +kernel
theorem dX9_narrow_31 : decode cX9_narrow 31 = .ok (.if_icmp .ge 5, 3) := by decide +kernel
theorem dX9_narrow_34 : decode cX9_narrow 34 = .ok (.iconst 0, 1) := by decide +kernel
theorem dX9_narrow_35 : decode cX9_narrow 35 = .ok (.ireturn, 1) := by decide +kernel
theorem dX9_narrow_36 : decode cX9_narrow 36 = .ok (.iconst 0, 1) := by decide +kernel
theorem dX9_narrow_37 : decode cX9_narrow 37 = .ok (.istore 4, 2) := by decide +kernel
theorem dX9_narrow_39 : decode cX9_narrow 39 = .ok (.iload 4, 2) := by decide +kernel
theorem dX9_narrow_41 : decode cX9_narrow 41 = .ok (.iconst 4, 1) := by decide +kernel
theorem dX9_narrow_42 : decode cX9_narrow 42 = .ok (.if_icmp .ge 100, 3) := by decide +kernel
theorem dX9_narrow_45 : decode cX9_narrow 45 = .ok (.aload_n 0, 1) := by decide +kernel
theorem dX9_narrow_46 : decode cX9_narrow 46 = .ok (.getfield 9, 3) := by decide +kernel
theorem dX9_narrow_49 : decode cX9_narrow 49 = .ok (.iconst 4, 1) := by decide +kernel
theorem dX9_narrow_50 : decode cX9_narrow 50 = .ok (.iload 4, 2) := by decide +kernel
theorem dX9_narrow_52 : decode cX9_narrow 52 = .ok (.imul, 1) := by decide +kernel
theorem dX9_narrow_53 : decode cX9_narrow 53 = .ok (.iload_n 1, 1) := by decide +kernel
theorem dX9_narrow_54 : decode cX9_narrow 54 = .ok (.iadd, 1) := by decide +kernel
theorem dX9_narrow_55 : decode cX9_narrow 55 = .ok (.iaload, 1) := by decide +kernel
theorem dX9_narrow_56 : decode cX9_narrow 56 = .ok (.iload_n 3, 1) := by decide +kernel
theorem dX9_narrow_57 : decode cX9_narrow 57 = .ok (.invokestatic 22, 3) := by decide +kernel
theorem dX9_narrow_60 : decode cX9_narrow 60 = .ok (.istore 5, 2) := by decide +kernel
theorem dX9_narrow_62 : decode cX9_narrow 62 = .ok (.iload 5, 2) := by decide +kernel
theorem dX9_narrow_64 : decode cX9_narrow 64 = .ok (.ldc 15, 2) := by decide +kernel
theorem dX9_narrow_66 : decode cX9_narrow 66 = .ok (.if_icmp .ne 6, 3) := by decide +kernel
theorem dX9_narrow_69 : decode cX9_narrow 69 = .ok (.goto 67, 3) := by decide +kernel
theorem dX9_narrow_72 : decode cX9_narrow 72 = .ok (.iconst 0, 1) := by decide +kernel
theorem dX9_narrow_73 : decode cX9_narrow 73 = .ok (.istore 6, 2) := by decide +kernel
theorem dX9_narrow_75 : decode cX9_narrow 75 = .ok (.iload 6, 2) := by decide +kernel
theorem dX9_narrow_77 : decode cX9_narrow 77 = .ok (.iconst 4, 1) := by decide +kernel
theorem dX9_narrow_78 : decode cX9_narrow 78 = .ok (.if_icmp .ge 58, 3) := by decide +kernel
theorem dX9_narrow_81 : decode cX9_narrow 81 = .ok (.iload 5, 2) := by decide +kernel
theorem dX9_narrow_83 : decode cX9_narrow 83 = .ok (.aload_n 0, 1) := by decide +kernel
theorem dX9_narrow_84 : decode cX9_narrow 84 = .ok (.getfield 9, 3) := by decide +kernel
theorem dX9_narrow_87 : decode cX9_narrow 87 = .ok (.iconst 4, 1) := by decide +kernel
theorem dX9_narrow_88 : decode cX9_narrow 88 = .ok (.iload_n 2, 1) := by decide +kernel
theorem dX9_narrow_89 : decode cX9_narrow 89 = .ok (.imul, 1) := by decide +kernel
theorem dX9_narrow_90 : decode cX9_narrow 90 = .ok (.iload 6, 2) := by decide +kernel
theorem dX9_narrow_92 : decode cX9_narrow 92 = .ok (.iadd, 1) := by decide +kernel
theorem dX9_narrow_93 : decode cX9_narrow 93 = .ok (.iaload, 1) := by decide +kernel
theorem dX9_narrow_94 : decode cX9_narrow 94 = .ok (.invokestatic 22, 3) := by decide +kernel
theorem dX9_narrow_97 : decode cX9_narrow 97 = .ok (.istore 7, 2) := by decide +kernel
theorem dX9_narrow_99 : decode cX9_narrow 99 = .ok (.iload 7, 2) := by decide +kernel
theorem dX9_narrow_101 : decode cX9_narrow 101 = .ok (.aload_n 0, 1) := by decide +kernel
theorem dX9_narrow_102 : decode cX9_narrow 102 = .ok (.getfield 9, 3) := by decide +kernel
theorem dX9_narrow_105 : decode cX9_narrow 105 = .ok (.iconst 4, 1) := by decide +kernel
theorem dX9_narrow_106 : decode cX9_narrow 106 = .ok (.iload 4, 2) := by decide +kernel
theorem dX9_narrow_108 : decode cX9_narrow 108 = .ok (.imul, 1) := by decide +kernel
theorem dX9_narrow_109 : decode cX9_narrow 109 = .ok (.iload 6, 2) := by decide +kernel
theorem dX9_narrow_111 : decode cX9_narrow 111 = .ok (.iadd, 1) := by decide +kernel
theorem dX9_narrow_112 : decode cX9_narrow 112 = .ok (.iaload, 1) := by decide +kernel
theorem dX9_narrow_113 : decode cX9_narrow 113 = .ok (.if_icmp .ge 17, 3) := by decide +kernel
theorem dX9_narrow_116 : decode cX9_narrow 116 = .ok (.aload_n 0, 1) := by decide +kernel
theorem dX9_narrow_117 : decode cX9_narrow 117 = .ok (.getfield 9, 3) := by decide +kernel
theorem dX9_narrow_120 : decode cX9_narrow 120 = .ok (.iconst 4, 1) := by decide +kernel
theorem dX9_narrow_121 : decode cX9_narrow 121 = .ok (.iload 4, 2) := by decide +kernel
theorem dX9_narrow_123 : decode cX9_narrow 123 = .ok (.imul, 1) := by decide +kernel
theorem dX9_narrow_124 : decode cX9_narrow 124 = .ok (.iload 6, 2) := by decide +kernel
theorem dX9_narrow_126 : decode cX9_narrow 126 = .ok (.iadd, 1) := by decide +kernel
theorem dX9_narrow_127 : decode cX9_narrow 127 = .ok (.iload 7, 2) := by decide +kernel
theorem dX9_narrow_129 : decode cX9_narrow 129 = .ok (.iastore, 1) := by decide +kernel
theorem dX9_narrow_130 : decode cX9_narrow 130 = .ok (.iinc 6 1, 3) := by decide +kernel
theorem dX9_narrow_133 : decode cX9_narrow 133 = .ok (.goto (-58), 3) := by decide +kernel
theorem dX9_narrow_136 : decode cX9_narrow 136 = .ok (.iinc 4 1, 3) := by decide +kernel
theorem dX9_narrow_139 : decode cX9_narrow 139 = .ok (.goto (-100), 3) := by decide +kernel
theorem dX9_narrow_142 : decode cX9_narrow 142 = .ok (.iconst 1, 1) := by decide +kernel
theorem dX9_narrow_143 : decode cX9_narrow 143 = .ok (.ireturn, 1) := by decide +kernel
theorem dX9_setToZero_0 : decode cX9_setToZero 0 = .ok (.iconst 0, 1) := by decide +kernel
theorem dX9_setToZero_1 : decode cX9_setToZero 1 = .ok (.istore_n 2, 1) := by decide +kernel
theorem dX9_setToZero_2 : decode cX9_setToZero 2 = .ok (.iload_n 2, 1) := by decide +kernel
theorem dX9_setToZero_3 : decode cX9_setToZero 3 = .ok (.iconst 4, 1) := by decide +kernel
theorem dX9_setToZero_4 : decode cX9_setToZero 4 = .ok (.if_icmp .ge 43, 3) := by decide +kernel
theorem dX9_setToZero_7 : decode cX9_setToZero 7 = .ok (.aload_n 0, 1) := by decide +kernel
theorem dX9_setToZero_8 : decode cX9_setToZero 8 = .ok (.getfield 9, 3) := by decide +kernel
theorem dX9_setToZero_11 : decode cX9_setToZero 11 = .ok (.iconst 4, 1) := by decide +kernel
theorem dX9_setToZero_12 : decode cX9_setToZero 12 = .ok (.iload_n 1, 1) := by decide +kernel
theorem dX9_setToZero_13 : decode cX9_setToZero 13 = .ok (.imul, 1) := by decide +kernel
theorem dX9_setToZero_14 : decode cX9_setToZero 14 = .ok (.iload_n 2, 1) := by decide +kernel
theorem dX9_setToZero_15 : decode cX9_setToZero 15 = .ok (.iadd, 1) := by decide +kernel
theorem dX9_setToZero_16 : decode cX9_setToZero 16 = .ok (.aload_n 0, 1) := by decide +kernel
theorem dX9_setToZero_17 : decode cX9_setToZero 17 = .ok (.getfield 9, 3) := by decide +kernel
theorem dX9_setToZero_20 : decode cX9_setToZero 20 = .ok (.iload_n 2, 1) := by decide +kernel
theorem dX9_setToZero_21 : decode cX9_setToZero 21 = .ok (.iaload, 1) := by decide +kernel
theorem dX9_setToZero_22 : decode cX9_setToZero 22 = .ok (.iastore, 1) := by decide +kernel
theorem dX9_setToZero_23 : decode cX9_setToZero 23 = .ok (.aload_n 0, 1) := by decide +kernel
theorem dX9_setToZero_24 : decode cX9_setToZero 24 = .ok (.getfield 9, 3) := by decide +kernel
theorem dX9_setToZero_27 : decode cX9_setToZero 27 = .ok (.iconst 4, 1) := by decide +kernel
theorem dX9_setToZero_28 : decode cX9_setToZero 28 = .ok (.iload_n 2, 1) := by decide +kernel
theorem dX9_setToZero_29 : decode cX9_setToZero 29 = .ok (.imul, 1) := by decide +kernel
theorem dX9_setToZero_30 : decode cX9_setToZero 30 = .ok (.iload_n 1, 1) := by decide +kernel
theorem dX9_setToZero_31 : decode cX9_setToZero 31 = .ok (.iadd, 1) := by decide +kernel
theorem dX9_setToZero_32 : decode cX9_setToZero 32 = .ok (.aload_n 0, 1) := by decide +kernel
theorem dX9_setToZero_33 : decode cX9_setToZero 33 = .ok (.getfield 9, 3) := by decide +kernel
theorem dX9_setToZero_36 : decode cX9_setToZero 36 = .ok (.iconst 4, 1) := by decide +kernel
theorem dX9_setToZero_37 : decode cX9_setToZero 37 = .ok (.iload_n 2, 1) := by decide +kernel
theorem dX9_setToZero_38 : decode cX9_setToZero 38 = .ok (.imul, 1) := by decide +kernel
theorem dX9_setToZero_39 : decode cX9_setToZero 39 = .ok (.iaload, 1) := by decide +kernel
theorem dX9_setToZero_40 : decode cX9_setToZero 40 = .ok (.iastore, 1) := by decide +kernel
theorem dX9_setToZero_41 : decode cX9_setToZero 41 = .ok (.iinc 2 1, 3) := by decide +kernel
theorem dX9_setToZero_44 : decode cX9_setToZero 44 = .ok (.goto (-42), 3) := by decide +kernel
theorem dX9_setToZero_47 : decode cX9_setToZero 47 = .ok (.aload_n 0, 1) := by decide +kernel
theorem dX9_setToZero_48 : decode cX9_setToZero 48 = .ok (.getfield 9, 3) := by decide +kernel
theorem dX9_setToZero_51 : decode cX9_setToZero 51 = .ok (.iconst 4, 1) := by decide +kernel
theorem dX9_setToZero_52 : decode cX9_setToZero 52 = .ok (.iload_n 1, 1) := by decide +kernel
theorem dX9_setToZero_53 : decode cX9_setToZero 53 = .ok (.imul, 1) := by decide +kernel
theorem dX9_setToZero_54 : decode cX9_setToZero 54 = .ok (.iload_n 1, 1) := by decide +kernel
theorem dX9_setToZero_55 : decode cX9_setToZero 55 = .ok (.iadd, 1) := by decide +kernel
theorem dX9_setToZero_56 : decode cX9_setToZero 56 = .ok (.iconst 1, 1) := by decide +kernel
theorem dX9_setToZero_57 : decode cX9_setToZero 57 = .ok (.iastore, 1) := by decide +kernel
theorem dX9_setToZero_58 : decode cX9_setToZero 58 = .ok (.return_, 1) := by decide +kernel
theorem dX9_letTimeGoBy_0 : decode cX9_letTimeGoBy 0 = .ok (.iconst 1, 1) := by decide +kernel
theorem dX9_letTimeGoBy_1 : decode cX9_letTimeGoBy 1 = .ok (.istore_n 1, 1) := by decide +kernel
theorem dX9_letTimeGoBy_2 : decode cX9_letTimeGoBy 2 = .ok (.iload_n 1, 1) := by decide +kernel
theorem dX9_letTimeGoBy_3 : decode cX9_letTimeGoBy 3 = .ok (.iconst 4, 1) := by decide +kernel
theorem dX9_letTimeGoBy_4 : decode cX9_letTimeGoBy 4 = .ok (.if_icmp .ge 19, 3) := by decide +kernel
theorem dX9_letTimeGoBy_7 : decode cX9_letTimeGoBy 7 = .ok (.aload_n 0, 1) := by decide +kernel
theorem dX9_letTimeGoBy_8 : decode cX9_letTimeGoBy 8 = .ok (.getfield 9, 3) := by decide +kernel
theorem dX9_letTimeGoBy_11 : decode cX9_letTimeGoBy 11 = .ok (.iconst 4, 1) := by decide +kernel
theorem dX9_letTimeGoBy_12 : decode cX9_letTimeGoBy 12 = .ok (.iload_n 1, 1) := by decide +kernel
theorem dX9_letTimeGoBy_13 : decode cX9_letTimeGoBy 13 = .ok (.imul, 1) := by decide +kernel
theorem dX9_letTimeGoBy_14 : decode cX9_letTimeGoBy 14 = .ok (.ldc 15, 2) := by decide +kernel
theorem dX9_letTimeGoBy_16 : decode cX9_letTimeGoBy 16 = .ok (.iastore, 1) := by decide +kernel
theorem dX9_letTimeGoBy_17 : decode cX9_letTimeGoBy 17 = .ok (.iinc 1 1, 3) := by decide +kernel
theorem dX9_letTimeGoBy_20 : decode cX9_letTimeGoBy 20 = .ok (.goto (-18), 3) := by decide +kernel
theorem dX9_letTimeGoBy_23 : decode cX9_letTimeGoBy 23 = .ok (.return_, 1) := by decide +kernel
theorem dX9_widen_0 : decode cX9_widen 0 = .ok (.iconst 1, 1) := by decide +kernel
theorem dX9_widen_1 : decode cX9_widen 1 = .ok (.istore_n 2, 1) := by decide +kernel
theorem dX9_widen_2 : decode cX9_widen 2 = .ok (.iload_n 2, 1) := by decide +kernel
theorem dX9_widen_3 : decode cX9_widen 3 = .ok (.iconst 4, 1) := by decide +kernel
theorem dX9_widen_4 : decode cX9_widen 4 = .ok (.if_icmp .ge 95, 3) := by decide +kernel
theorem dX9_widen_7 : decode cX9_widen 7 = .ok (.iconst 0, 1) := by decide +kernel
theorem dX9_widen_8 : decode cX9_widen 8 = .ok (.istore_n 3, 1) := by decide +kernel
theorem dX9_widen_9 : decode cX9_widen 9 = .ok (.iload_n 3, 1) := by decide +kernel
theorem dX9_widen_10 : decode cX9_widen 10 = .ok (.iconst 4, 1) := by decide +kernel
theorem dX9_widen_11 : decode cX9_widen 11 = .ok (.if_icmp .ge 82, 3) := by decide +kernel
theorem dX9_widen_14 : decode cX9_widen 14 = .ok (.iload_n 2, 1) := by decide +kernel
theorem dX9_widen_15 : decode cX9_widen 15 = .ok (.iload_n 3, 1) := by decide +kernel
theorem dX9_widen_16 : decode cX9_widen 16 = .ok (.if_icmp .ne 6, 3) := by decide +kernel
theorem dX9_widen_19 : decode cX9_widen 19 = .ok (.goto 68, 3) := by decide +kernel
theorem dX9_widen_22 : decode cX9_widen 22 = .ok (.aload_n 0, 1) := by decide +kernel
theorem dX9_widen_23 : decode cX9_widen 23 = .ok (.getfield 9, 3) := by decide +kernel
theorem dX9_widen_26 : decode cX9_widen 26 = .ok (.iconst 4, 1) := by decide +kernel
theorem dX9_widen_27 : decode cX9_widen 27 = .ok (.iload_n 2, 1) := by decide +kernel
theorem dX9_widen_28 : decode cX9_widen 28 = .ok (.imul, 1) := by decide +kernel
theorem dX9_widen_29 : decode cX9_widen 29 = .ok (.iload_n 3, 1) := by decide +kernel
theorem dX9_widen_30 : decode cX9_widen 30 = .ok (.iadd, 1) := by decide +kernel
theorem dX9_widen_31 : decode cX9_widen 31 = .ok (.iaload, 1) := by decide +kernel
theorem dX9_widen_32 : decode cX9_widen 32 = .ok (.iconst 1, 1) := by decide +kernel
theorem dX9_widen_33 : decode cX9_widen 33 = .ok (.ishr, 1) := by decide +kernel
theorem dX9_widen_34 : decode cX9_widen 34 = .ok (.aload_n 1, 1) := by decide +kernel
theorem dX9_widen_35 : decode cX9_widen 35 = .ok (.iload_n 2, 1) := by decide +kernel
theorem dX9_widen_36 : decode cX9_widen 36 = .ok (.iaload, 1) := by decide +kernel
theorem dX9_widen_37 : decode cX9_widen 37 = .ok (.if_icmp .le 15, 3) := by decide +kernel
theorem dX9_widen_40 : decode cX9_widen 40 = .ok (.aload_n 0, 1) := by decide +kernel
theorem dX9_widen_41 : decode cX9_widen 41 = .ok (.getfield 9, 3) := by decide +kernel
theorem dX9_widen_44 : decode cX9_widen 44 = .ok (.iconst 4, 1) := by decide +kernel
theorem dX9_widen_45 : decode cX9_widen 45 = .ok (.iload_n 2, 1) := by decide +kernel
theorem dX9_widen_46 : decode cX9_widen 46 = .ok (.imul, 1) := by decide +kernel
theorem dX9_widen_47 : decode cX9_widen 47 = .ok (.iload_n 3, 1) := by decide +kernel
theorem dX9_widen_48 : decode cX9_widen 48 = .ok (.iadd, 1) := by decide +kernel
theorem dX9_widen_49 : decode cX9_widen 49 = .ok (.ldc 15, 2) := by decide +kernel
theorem dX9_widen_51 : decode cX9_widen 51 = .ok (.iastore, 1) := by decide +kernel
theorem dX9_widen_52 : decode cX9_widen 52 = .ok (.aload_n 0, 1) := by decide +kernel
theorem dX9_widen_53 : decode cX9_widen 53 = .ok (.getfield 9, 3) := by decide +kernel
theorem dX9_widen_56 : decode cX9_widen 56 = .ok (.iconst 4, 1) := by decide +kernel
theorem dX9_widen_57 : decode cX9_widen 57 = .ok (.iload_n 3, 1) := by decide +kernel
theorem dX9_widen_58 : decode cX9_widen 58 = .ok (.imul, 1) := by decide +kernel
theorem dX9_widen_59 : decode cX9_widen 59 = .ok (.iload_n 2, 1) := by decide +kernel
theorem dX9_widen_60 : decode cX9_widen 60 = .ok (.iadd, 1) := by decide +kernel
theorem dX9_widen_61 : decode cX9_widen 61 = .ok (.iaload, 1) := by decide +kernel
theorem dX9_widen_62 : decode cX9_widen 62 = .ok (.iconst 1, 1) := by decide +kernel
theorem dX9_widen_63 : decode cX9_widen 63 = .ok (.ishr, 1) := by decide +kernel
theorem dX9_widen_64 : decode cX9_widen 64 = .ok (.aload_n 1, 1) := by decide +kernel
theorem dX9_widen_65 : decode cX9_widen 65 = .ok (.iload_n 2, 1) := by decide +kernel
theorem dX9_widen_66 : decode cX9_widen 66 = .ok (.iaload, 1) := by decide +kernel
theorem dX9_widen_67 : decode cX9_widen 67 = .ok (.ineg, 1) := by decide +kernel
theorem dX9_widen_68 : decode cX9_widen 68 = .ok (.if_icmp .ge 19, 3) := by decide +kernel
theorem dX9_widen_71 : decode cX9_widen 71 = .ok (.aload_n 0, 1) := by decide +kernel
theorem dX9_widen_72 : decode cX9_widen 72 = .ok (.getfield 9, 3) := by decide +kernel
theorem dX9_widen_75 : decode cX9_widen 75 = .ok (.iconst 4, 1) := by decide +kernel
theorem dX9_widen_76 : decode cX9_widen 76 = .ok (.iload_n 3, 1) := by decide +kernel
theorem dX9_widen_77 : decode cX9_widen 77 = .ok (.imul, 1) := by decide +kernel
theorem dX9_widen_78 : decode cX9_widen 78 = .ok (.iload_n 2, 1) := by decide +kernel
theorem dX9_widen_79 : decode cX9_widen 79 = .ok (.iadd, 1) := by decide +kernel
theorem dX9_widen_80 : decode cX9_widen 80 = .ok (.bipush (-2), 2) := by decide +kernel
theorem dX9_widen_82 : decode cX9_widen 82 = .ok (.aload_n 1, 1) := by decide +kernel
theorem dX9_widen_83 : decode cX9_widen 83 = .ok (.iload_n 2, 1) := by decide +kernel
theorem dX9_widen_84 : decode cX9_widen 84 = .ok (.iaload, 1) := by decide +kernel
theorem dX9_widen_85 : decode cX9_widen 85 = .ok (.imul, 1) := by decide +kernel
theorem dX9_widen_86 : decode cX9_widen 86 = .ok (.iastore, 1) := by decide +kernel
theorem dX9_widen_87 : decode cX9_widen 87 = .ok (.iinc 3 1, 3) := by decide +kernel
theorem dX9_widen_90 : decode cX9_widen 90 = .ok (.goto (-81), 3) := by decide +kernel
theorem dX9_widen_93 : decode cX9_widen 93 = .ok (.iinc 2 1, 3) := by decide +kernel
theorem dX9_widen_96 : decode cX9_widen 96 = .ok (.goto (-94), 3) := by decide +kernel
theorem dX9_widen_99 : decode cX9_widen 99 = .ok (.aload_n 0, 1) := by decide +kernel
theorem dX9_widen_100 : decode cX9_widen 100 = .ok (.invokevirtual 26, 3) := by decide +kernel
theorem dX9_widen_103 : decode cX9_widen 103 = .ok (.return_, 1) := by decide +kernel
theorem dX9_close_0 : decode cX9_close 0 = .ok (.iconst 0, 1) := by decide +kernel
theorem dX9_close_1 : decode cX9_close 1 = .ok (.istore_n 1, 1) := by decide +kernel
theorem dX9_close_2 : decode cX9_close 2 = .ok (.iload_n 1, 1) := by decide +kernel
theorem dX9_close_3 : decode cX9_close 3 = .ok (.iconst 4, 1) := by decide +kernel
theorem dX9_close_4 : decode cX9_close 4 = .ok (.if_icmp .ge 103, 3) := by decide +kernel
theorem dX9_close_7 : decode cX9_close 7 = .ok (.iconst 0, 1) := by decide +kernel
theorem dX9_close_8 : decode cX9_close 8 = .ok (.istore_n 2, 1) := by decide +kernel
theorem dX9_close_9 : decode cX9_close 9 = .ok (.iload_n 2, 1) := by decide +kernel
theorem dX9_close_10 : decode cX9_close 10 = .ok (.iconst 4, 1) := by decide +kernel
theorem dX9_close_11 : decode cX9_close 11 = .ok (.if_icmp .ge 90, 3) := by decide +kernel
theorem dX9_close_14 : decode cX9_close 14 = .ok (.aload_n 0, 1) := by decide +kernel
theorem dX9_close_15 : decode cX9_close 15 = .ok (.getfield 9, 3) := by decide +kernel
theorem dX9_close_18 : decode cX9_close 18 = .ok (.iconst 4, 1) := by decide +kernel
theorem dX9_close_19 : decode cX9_close 19 = .ok (.iload_n 2, 1) := by decide +kernel
theorem dX9_close_20 : decode cX9_close 20 = .ok (.imul, 1) := by decide +kernel
theorem dX9_close_21 : decode cX9_close 21 = .ok (.iload_n 1, 1) := by decide +kernel
theorem dX9_close_22 : decode cX9_close 22 = .ok (.iadd, 1) := by decide +kernel
theorem dX9_close_23 : decode cX9_close 23 = .ok (.iaload, 1) := by decide +kernel
theorem dX9_close_24 : decode cX9_close 24 = .ok (.istore_n 3, 1) := by decide +kernel
theorem dX9_close_25 : decode cX9_close 25 = .ok (.iload_n 3, 1) := by decide +kernel
theorem dX9_close_26 : decode cX9_close 26 = .ok (.ldc 15, 2) := by decide +kernel
theorem dX9_close_28 : decode cX9_close 28 = .ok (.if_icmp .ne 6, 3) := by decide +kernel
theorem dX9_close_31 : decode cX9_close 31 = .ok (.goto 64, 3) := by decide +kernel
theorem dX9_close_34 : decode cX9_close 34 = .ok (.iconst 0, 1) := by decide +kernel
theorem dX9_close_35 : decode cX9_close 35 = .ok (.istore 4, 2) := by decide +kernel
theorem dX9_close_37 : decode cX9_close 37 = .ok (.iload 4, 2) := by decide +kernel
theorem dX9_close_39 : decode cX9_close 39 = .ok (.iconst 4, 1) := by decide +kernel
theorem dX9_close_40 : decode cX9_close 40 = .ok (.if_icmp .ge 55, 3) := by decide +kernel
theorem dX9_close_43 : decode cX9_close 43 = .ok (.iload_n 3, 1) := by decide +kernel
theorem dX9_close_44 : decode cX9_close 44 = .ok (.aload_n 0, 1) := by decide +kernel
theorem dX9_close_45 : decode cX9_close 45 = .ok (.getfield 9, 3) := by decide +kernel
theorem dX9_close_48 : decode cX9_close 48 = .ok (.iconst 4, 1) := by decide +kernel
theorem dX9_close_49 : decode cX9_close 49 = .ok (.iload_n 1, 1) := by decide +kernel
theorem dX9_close_50 : decode cX9_close 50 = .ok (.imul, 1) := by decide +kernel
theorem dX9_close_51 : decode cX9_close 51 = .ok (.iload 4, 2) := by decide +kernel
theorem dX9_close_53 : decode cX9_close 53 = .ok (.iadd, 1) := by decide +kernel
theorem dX9_close_54 : decode cX9_close 54 = .ok (.iaload, 1) := by decide +kernel
theorem dX9_close_55 : decode cX9_close 55 = .ok (.invokestatic 22, 3) := by decide +kernel
theorem dX9_close_58 : decode cX9_close 58 = .ok (.istore 5, 2) := by decide +kernel
theorem dX9_close_60 : decode cX9_close 60 = .ok (.iload 5, 2) := by decide +kernel
theorem dX9_close_62 : decode cX9_close 62 = .ok (.aload_n 0, 1) := by decide +kernel
theorem dX9_close_63 : decode cX9_close 63 = .ok (.getfield 9, 3) := by decide +kernel
theorem dX9_close_66 : decode cX9_close 66 = .ok (.iconst 4, 1) := by decide +kernel
theorem dX9_close_67 : decode cX9_close 67 = .ok (.iload_n 2, 1) := by decide +kernel
theorem dX9_close_68 : decode cX9_close 68 = .ok (.imul, 1) := by decide +kernel
theorem dX9_close_69 : decode cX9_close 69 = .ok (.iload 4, 2) := by decide +kernel
theorem dX9_close_71 : decode cX9_close 71 = .ok (.iadd, 1) := by decide +kernel
theorem dX9_close_72 : decode cX9_close 72 = .ok (.iaload, 1) := by decide +kernel
theorem dX9_close_73 : decode cX9_close 73 = .ok (.if_icmp .ge 16, 3) := by decide +kernel
theorem dX9_close_76 : decode cX9_close 76 = .ok (.aload_n 0, 1) := by decide +kernel
theorem dX9_close_77 : decode cX9_close 77 = .ok (.getfield 9, 3) := by decide +kernel
theorem dX9_close_80 : decode cX9_close 80 = .ok (.iconst 4, 1) := by decide +kernel
theorem dX9_close_81 : decode cX9_close 81 = .ok (.iload_n 2, 1) := by decide +kernel
theorem dX9_close_82 : decode cX9_close 82 = .ok (.imul, 1) := by decide +kernel
theorem dX9_close_83 : decode cX9_close 83 = .ok (.iload 4, 2) := by decide +kernel
theorem dX9_close_85 : decode cX9_close 85 = .ok (.iadd, 1) := by decide +kernel
theorem dX9_close_86 : decode cX9_close 86 = .ok (.iload 5, 2) := by decide +kernel
theorem dX9_close_88 : decode cX9_close 88 = .ok (.iastore, 1) := by decide +kernel
theorem dX9_close_89 : decode cX9_close 89 = .ok (.iinc 4 1, 3) := by decide +kernel
theorem dX9_close_92 : decode cX9_close 92 = .ok (.goto (-55), 3) := by decide +kernel
theorem dX9_close_95 : decode cX9_close 95 = .ok (.iinc 2 1, 3) := by decide +kernel
theorem dX9_close_98 : decode cX9_close 98 = .ok (.goto (-89), 3) := by decide +kernel
theorem dX9_close_101 : decode cX9_close 101 = .ok (.iinc 1 1, 3) := by decide +kernel
theorem dX9_close_104 : decode cX9_close 104 = .ok (.goto (-102), 3) := by decide +kernel
theorem dX9_close_107 : decode cX9_close 107 = .ok (.return_, 1) := by decide +kernel
theorem dX10_init_0 : decode cX10_init 0 = .ok (.aload_n 0, 1) := by decide +kernel
theorem dX10_init_1 : decode cX10_init 1 = .ok (.invokespecial 3, 3) := by decide +kernel
theorem dX10_init_4 : decode cX10_init 4 = .ok (.aload_n 0, 1) := by decide +kernel
theorem dX10_init_5 : decode cX10_init 5 = .ok (.new 9, 3) := by decide +kernel
theorem dX10_init_8 : decode cX10_init 8 = .ok (.dup, 1) := by decide +kernel
theorem dX10_init_9 : decode cX10_init 9 = .ok (.invokespecial 11, 3) := by decide +kernel
theorem dX10_init_12 : decode cX10_init 12 = .ok (.putfield 12, 3) := by decide +kernel
theorem dX10_init_15 : decode cX10_init 15 = .ok (.aload_n 0, 1) := by decide +kernel
theorem dX10_init_16 : decode cX10_init 16 = .ok (.new 16, 3) := by decide +kernel
theorem dX10_init_19 : decode cX10_init 19 = .ok (.dup, 1) := by decide +kernel
theorem dX10_init_20 : decode cX10_init 20 = .ok (.invokespecial 18, 3) := by decide +kernel
theorem dX10_init_23 : decode cX10_init 23 = .ok (.putfield 19, 3) := by decide +kernel
theorem dX10_init_26 : decode cX10_init 26 = .ok (.aload_n 0, 1) := by decide +kernel
theorem dX10_init_27 : decode cX10_init 27 = .ok (.new 23, 3) := by decide +kernel
theorem dX10_init_30 : decode cX10_init 30 = .ok (.dup, 1) := by decide +kernel
theorem dX10_init_31 : decode cX10_init 31 = .ok (.invokespecial 25, 3) := by decide +kernel
theorem dX10_init_34 : decode cX10_init 34 = .ok (.putfield 26, 3) := by decide +kernel
theorem dX10_init_37 : decode cX10_init 37 = .ok (.aload_n 0, 1) := by decide +kernel
theorem dX10_init_38 : decode cX10_init 38 = .ok (.new 30, 3) := by decide +kernel
theorem dX10_init_41 : decode cX10_init 41 = .ok (.dup, 1) := by decide +kernel
theorem dX10_init_42 : decode cX10_init 42 = .ok (.invokespecial 32, 3) := by decide +kernel
theorem dX10_init_45 : decode cX10_init 45 = .ok (.putfield 33, 3) := by decide +kernel
theorem dX10_init_48 : decode cX10_init 48 = .ok (.aload_n 0, 1) := by decide +kernel
theorem dX10_init_49 : decode cX10_init 49 = .ok (.iconst 3, 1) := by decide +kernel
theorem dX10_init_50 : decode cX10_init 50 = .ok (.newarray .int, 2) := by decide +kernel
theorem dX10_init_52 : decode cX10_init 52 = .ok (.putfield 37, 3) := by decide +kernel
theorem dX10_init_55 : decode cX10_init 55 = .ok (.aload_n 0, 1) := by decide +kernel
theorem dX10_init_56 : decode cX10_init 56 = .ok (.iconst 4, 1) := by decide +kernel
theorem dX10_init_57 : decode cX10_init 57 = .ok (.newarray .int, 2) := by decide +kernel
theorem dX10_init_59 : decode cX10_init 59 = .ok (.putfield 41, 3) := by decide +kernel
theorem dX10_init_62 : decode cX10_init 62 = .ok (.return_, 1) := by decide +kernel
theorem dX10_edge_0 : decode cX10_edge 0 = .ok (.iload_n 1, 1) := by decide +kernel
theorem dX10_edge_1 : decode cX10_edge 1 = .ok (.invokestatic 44, 3) := by decide +kernel
theorem dX10_edge_4 : decode cX10_edge 4 = .ok (.ifCond .eq 17, 3) := by decide +kernel
theorem dX10_edge_7 : decode cX10_edge 7 = .ok (.iload_n 2, 1) := by decide +kernel
theorem dX10_edge_8 : decode cX10_edge 8 = .ok (.invokestatic 48, 3) := by decide +kernel
theorem dX10_edge_11 : decode cX10_edge 11 = .ok (.ifCond .eq 10, 3) := by decide +kernel
theorem dX10_edge_14 : decode cX10_edge 14 = .ok (.iload_n 3, 1) := by decide +kernel
theorem dX10_edge_15 : decode cX10_edge 15 = .ok (.invokestatic 48, 3) := by decide +kernel
theorem dX10_edge_18 : decode cX10_edge 18 = .ok (.ifCond .ne 6, 3) := by decide +kernel
theorem dX10_edge_21 : decode cX10_edge 21 = .ok (.bipush (-101), 2) := by decide +kernel
theorem dX10_edge_23 : decode cX10_edge 23 = .ok (.ireturn, 1) := by decide +kernel
theorem dX10_edge_24 : decode cX10_edge 24 = .ok (.iload 4, 2) := by decide +kernel
theorem dX10_edge_26 : decode cX10_edge 26 = .ok (.bipush (-4), 2) := by decide +kernel
theorem dX10_edge_28 : decode cX10_edge 28 = .ok (.if_icmp .lt 17, 3) := by decide +kernel
theorem dX10_edge_31 : decode cX10_edge 31 = .ok (.iload 4, 2) := by decide +kernel
theorem dX10_edge_33 : decode cX10_edge 33 = .ok (.iconst 4, 1) := by decide +kernel
theorem dX10_edge_34 : decode cX10_edge 34 = .ok (.if_icmp .gt 11, 3) := by decide +kernel
theorem dX10_edge_37 : decode cX10_edge 37 = .ok (.iload 5, 2) := by decide +kernel
theorem dX10_edge_39 : decode cX10_edge 39 = .ok (.bipush (-15), 2) := by decide +kernel
theorem dX10_edge_41 : decode cX10_edge 41 = .ok (.iand, 1) := by decide +kernel
theorem dX10_edge_42 : decode cX10_edge 42 = .ok (.ifCond .eq 6, 3) := by decide +kernel
theorem dX10_edge_45 : decode cX10_edge 45 = .ok (.bipush (-102), 2) := by decide +kernel
theorem dX10_edge_47 : decode cX10_edge 47 = .ok (.ireturn, 1) := by decide +kernel
theorem dX10_edge_48 : decode cX10_edge 48 = .ok (.aload_n 0, 1) := by decide +kernel
theorem dX10_edge_49 : decode cX10_edge 49 = .ok (.getfield 12, 3) := by decide +kernel
theorem dX10_edge_52 : decode cX10_edge 52 = .ok (.getfield 51, 3) := by decide +kernel
theorem dX10_edge_55 : decode cX10_edge 55 = .ok (.bipush 20, 2) := by decide +kernel
theorem dX10_edge_57 : decode cX10_edge 57 = .ok (.if_icmp .lt 6, 3) := by decide +kernel
theorem dX10_edge_60 : decode cX10_edge 60 = .ok (.bipush (-104), 2) := by decide +kernel
theorem dX10_edge_62 : decode cX10_edge 62 = .ok (.ireturn, 1) := by decide +kernel
theorem dX10_edge_63 : decode cX10_edge 63 = .ok (.aload_n 0, 1) := by decide +kernel
theorem dX10_edge_64 : decode cX10_edge 64 = .ok (.invokevirtual 55, 3) := by decide +kernel
theorem dX10_edge_67 : decode cX10_edge 67 = .ok (.aload_n 0, 1) := by decide +kernel
theorem dX10_edge_68 : decode cX10_edge 68 = .ok (.getfield 12, 3) := by decide +kernel
theorem dX10_edge_71 : decode cX10_edge 71 = .ok (.new 58, 3) := by decide +kernel
theorem dX10_edge_74 : decode cX10_edge 74 = .ok (.dup, 1) := by decide +kernel
theorem dX10_edge_75 : decode cX10_edge 75 = .ok (.iload_n 1, 1) := by decide +kernel
theorem dX10_edge_76 : decode cX10_edge 76 = .ok (.iload_n 2, 1) := by decide +kernel
theorem dX10_edge_77 : decode cX10_edge 77 = .ok (.iload_n 3, 1) := by decide +kernel
theorem dX10_edge_78 : decode cX10_edge 78 = .ok (.iload 4, 2) := by decide +kernel
theorem dX10_edge_80 : decode cX10_edge 80 = .ok (.iload 5, 2) := by decide +kernel
theorem dX10_edge_82 : decode cX10_edge 82 = .ok (.invokespecial 60, 3) := by decide +kernel
theorem dX10_edge_85 : decode cX10_edge 85 = .ok (.invokevirtual 63, 3) := by decide +kernel
theorem dX10_edge_88 : decode cX10_edge 88 = .ok (.ireturn, 1) := by decide +kernel
theorem dX10_guard_0 : decode cX10_guard 0 = .ok (.aload_n 0, 1) := by decide +kernel
theorem dX10_guard_1 : decode cX10_guard 1 = .ok (.getfield 12, 3) := by decide +kernel
theorem dX10_guard_4 : decode cX10_guard 4 = .ok (.iload_n 1, 1) := by decide +kernel
theorem dX10_guard_5 : decode cX10_guard 5 = .ok (.invokevirtual 67, 3) := by decide +kernel
theorem dX10_guard_8 : decode cX10_guard 8 = .ok (.ifCond .eq 10, 3) := by decide +kernel
theorem dX10_guard_11 : decode cX10_guard 11 = .ok (.iload_n 2, 1) := by decide +kernel
theorem dX10_guard_12 : decode cX10_guard 12 = .ok (.invokestatic 70, 3) := by decide +kernel
theorem dX10_guard_15 : decode cX10_guard 15 = .ok (.ifCond .ne 6, 3) := by decide +kernel
theorem dX10_guard_18 : decode cX10_guard 18 = .ok (.bipush (-101), 2) := by decide +kernel
theorem dX10_guard_20 : decode cX10_guard 20 = .ok (.ireturn, 1) := by decide +kernel
theorem dX10_guard_21 : decode cX10_guard 21 = .ok (.iload_n 3, 1) := by decide +kernel
theorem dX10_guard_22 : decode cX10_guard 22 = .ok (.ifCond .lt 16, 3) := by decide +kernel
theorem dX10_guard_25 : decode cX10_guard 25 = .ok (.iload_n 3, 1) := by decide +kernel
theorem dX10_guard_26 : decode cX10_guard 26 = .ok (.iconst 4, 1) := by decide +kernel
theorem dX10_guard_27 : decode cX10_guard 27 = .ok (.if_icmp .gt 11, 3) := by decide +kernel
theorem dX10_guard_30 : decode cX10_guard 30 = .ok (.iload 4, 2) := by decide +kernel
theorem dX10_guard_32 : decode cX10_guard 32 = .ok (.invokestatic 73, 3) := by decide +kernel
theorem dX10_guard_35 : decode cX10_guard 35 = .ok (.ifCond .ne 6, 3) := by decide +kernel
theorem dX10_guard_38 : decode cX10_guard 38 = .ok (.bipush (-102), 2) := by decide +kernel
theorem dX10_guard_40 : decode cX10_guard 40 = .ok (.ireturn, 1) := by decide +kernel
theorem dX10_guard_41 : decode cX10_guard 41 = .ok (.aload_n 0, 1) := by decide +kernel
theorem dX10_guard_42 : decode cX10_guard 42 = .ok (.aload_n 0, 1) := by decide +kernel
theorem dX10_guard_43 : decode cX10_guard 43 = .ok (.getfield 12, 3) := by decide +kernel
theorem dX10_guard_46 : decode cX10_guard 46 = .ok (.getfield 76, 3) := by decide +kernel
theorem dX10_guard_49 : decode cX10_guard 49 = .ok (.iload_n 1, 1) := by decide +kernel
theorem dX10_guard_50 : decode cX10_guard 50 = .ok (.aaload, 1) := by decide +kernel
theorem dX10_guard_51 : decode cX10_guard 51 = .ok (.getfield 80, 3) := by decide +kernel
theorem dX10_guard_54 : decode cX10_guard 54 = .ok (.iload_n 2, 1) := by decide +kernel
theorem dX10_guard_55 : decode cX10_guard 55 = .ok (.iload_n 3, 1) := by decide +kernel
theorem dX10_guard_56 : decode cX10_guard 56 = .ok (.iload 4, 2) := by decide +kernel
theorem dX10_guard_58 : decode cX10_guard 58 = .ok (.invokevirtual 84, 3) := by decide +kernel
theorem dX10_guard_61 : decode cX10_guard 61 = .ok (.ireturn, 1) := by decide +kernel
theorem dX10_limit_0 : decode cX10_limit 0 = .ok (.iload_n 1, 1) := by decide +kernel
theorem dX10_limit_1 : decode cX10_limit 1 = .ok (.invokestatic 44, 3) := by decide +kernel
theorem dX10_limit_4 : decode cX10_limit 4 = .ok (.ifCond .eq 17, 3) := by decide +kernel
theorem dX10_limit_7 : decode cX10_limit 7 = .ok (.iload_n 2, 1) := by decide +kernel
theorem dX10_limit_8 : decode cX10_limit 8 = .ok (.invokestatic 48, 3) := by decide +kernel
theorem dX10_limit_11 : decode cX10_limit 11 = .ok (.ifCond .eq 10, 3) := by decide +kernel
theorem dX10_limit_14 : decode cX10_limit 14 = .ok (.iload_n 3, 1) := by decide +kernel
theorem dX10_limit_15 : decode cX10_limit 15 = .ok (.invokestatic 70, 3) := by decide +kernel
theorem dX10_limit_18 : decode cX10_limit 18 = .ok (.ifCond .ne 6, 3) := by decide +kernel
theorem dX10_limit_21 : decode cX10_limit 21 = .ok (.bipush (-101), 2) := by decide +kernel
theorem dX10_limit_23 : decode cX10_limit 23 = .ok (.ireturn, 1) := by decide +kernel
theorem dX10_limit_24 : decode cX10_limit 24 = .ok (.iload 4, 2) := by decide +kernel
theorem dX10_limit_26 : decode cX10_limit 26 = .ok (.ifCond .lt 17, 3) := by decide +kernel
theorem dX10_limit_29 : decode cX10_limit 29 = .ok (.iload 4, 2) := by decide +kernel
theorem dX10_limit_31 : decode cX10_limit 31 = .ok (.iconst 1, 1) := by decide +kernel
theorem dX10_limit_32 : decode cX10_limit 32 = .ok (.if_icmp .gt 11, 3) := by decide +kernel
theorem dX10_limit_35 : decode cX10_limit 35 = .ok (.iload 5, 2) := by decide +kernel
theorem dX10_limit_37 : decode cX10_limit 37 = .ok (.invokestatic 73, 3) := by decide +kernel
theorem dX10_limit_40 : decode cX10_limit 40 = .ok (.ifCond .ne 6, 3) := by decide +kernel
theorem dX10_limit_43 : decode cX10_limit 43 = .ok (.bipush (-102), 2) := by decide +kernel
theorem dX10_limit_45 : decode cX10_limit 45 = .ok (.ireturn, 1) := by decide +kernel
theorem dX10_limit_46 : decode cX10_limit 46 = .ok (.aload_n 0, 1) := by decide +kernel
theorem dX10_limit_47 : decode cX10_limit 47 = .ok (.aload_n 0, 1) := by decide +kernel
theorem dX10_limit_48 : decode cX10_limit 48 = .ok (.getfield 12, 3) := by decide +kernel
theorem dX10_limit_51 : decode cX10_limit 51 = .ok (.iload_n 1, 1) := by decide +kernel
theorem dX10_limit_52 : decode cX10_limit 52 = .ok (.iload_n 2, 1) := by decide +kernel
theorem dX10_limit_53 : decode cX10_limit 53 = .ok (.invokevirtual 88, 3) := by decide +kernel
theorem dX10_limit_56 : decode cX10_limit 56 = .ok (.iload_n 3, 1) := by decide +kernel
theorem dX10_limit_57 : decode cX10_limit 57 = .ok (.iload 4, 2) := by decide +kernel
theorem dX10_limit_59 : decode cX10_limit 59 = .ok (.iload 5, 2) := by decide +kernel
theorem dX10_limit_61 : decode cX10_limit 61 = .ok (.invokevirtual 84, 3) := by decide +kernel
theorem dX10_limit_64 : decode cX10_limit 64 = .ok (.ireturn, 1) := by decide +kernel
theorem dX10_wipe_0 : decode cX10_wipe 0 = .ok (.aload_n 0, 1) := by decide +kernel
theorem dX10_wipe_1 : decode cX10_wipe 1 = .ok (.getfield 12, 3) := by decide +kernel
theorem dX10_wipe_4 : decode cX10_wipe 4 = .ok (.getfield 51, 3) := by decide +kernel
theorem dX10_wipe_7 : decode cX10_wipe 7 = .ok (.istore_n 1, 1) := by decide +kernel
theorem dX10_wipe_8 : decode cX10_wipe 8 = .ok (.aload_n 0, 1) := by decide +kernel
theorem dX10_wipe_9 : decode cX10_wipe 9 = .ok (.getfield 12, 3) := by decide +kernel
theorem dX10_wipe_12 : decode cX10_wipe 12 = .ok (.invokevirtual 92, 3) := by decide +kernel
theorem dX10_wipe_15 : decode cX10_wipe 15 = .ok (.aload_n 0, 1) := by decide +kernel
theorem dX10_wipe_16 : decode cX10_wipe 16 = .ok (.invokevirtual 55, 3) := by decide +kernel
theorem dX10_wipe_19 : decode cX10_wipe 19 = .ok (.iload_n 1, 1) := by decide +kernel
theorem dX10_wipe_20 : decode cX10_wipe 20 = .ok (.ireturn, 1) := by decide +kernel
theorem dX10_explore_0 : decode cX10_explore 0 = .ok (.iload_n 1, 1) := by decide +kernel
theorem dX10_explore_1 : decode cX10_explore 1 = .ok (.iconst 1, 1) := by decide +kernel
theorem dX10_explore_2 : decode cX10_explore 2 = .ok (.if_icmp .lt 9, 3) := by decide +kernel
theorem dX10_explore_5 : decode cX10_explore 5 = .ok (.iload_n 1, 1) := by decide +kernel
theorem dX10_explore_6 : decode cX10_explore 6 = .ok (.bipush 120, 2) := by decide +kernel
theorem dX10_explore_8 : decode cX10_explore 8 = .ok (.if_icmp .le 6, 3) := by decide +kernel
theorem dX10_explore_11 : decode cX10_explore 11 = .ok (.bipush (-102), 2) := by decide +kernel
theorem dX10_explore_13 : decode cX10_explore 13 = .ok (.ireturn, 1) := by decide +kernel
theorem dX10_explore_14 : decode cX10_explore 14 = .ok (.aload_n 0, 1) := by decide +kernel
theorem dX10_explore_15 : decode cX10_explore 15 = .ok (.getfield 19, 3) := by decide +kernel
theorem dX10_explore_18 : decode cX10_explore 18 = .ok (.getfield 95, 3) := by decide +kernel
theorem dX10_explore_21 : decode cX10_explore 21 = .ok (.bipush 40, 2) := by decide +kernel
theorem dX10_explore_23 : decode cX10_explore 23 = .ok (.if_icmp .lt 6, 3) := by decide +kernel
theorem dX10_explore_26 : decode cX10_explore 26 = .ok (.bipush (-104), 2) := by decide +kernel
theorem dX10_explore_28 : decode cX10_explore 28 = .ok (.ireturn, 1) := by decide +kernel
theorem dX10_explore_29 : decode cX10_explore 29 = .ok (.aload_n 0, 1) := by decide +kernel
theorem dX10_explore_30 : decode cX10_explore 30 = .ok (.getfield 19, 3) := by decide +kernel
theorem dX10_explore_33 : decode cX10_explore 33 = .ok (.aload_n 0, 1) := by decide +kernel
theorem dX10_explore_34 : decode cX10_explore 34 = .ok (.getfield 12, 3) := by decide +kernel
theorem dX10_explore_37 : decode cX10_explore 37 = .ok (.iload_n 1, 1) := by decide +kernel
theorem dX10_explore_38 : decode cX10_explore 38 = .ok (.invokevirtual 98, 3) := by decide +kernel
theorem dX10_explore_41 : decode cX10_explore 41 = .ok (.ireturn, 1) := by decide +kernel
theorem dX10_state_0 : decode cX10_state 0 = .ok (.aload_n 0, 1) := by decide +kernel
theorem dX10_state_1 : decode cX10_state 1 = .ok (.getfield 19, 3) := by decide +kernel
theorem dX10_state_4 : decode cX10_state 4 = .ok (.getfield 102, 3) := by decide +kernel
theorem dX10_state_7 : decode cX10_state 7 = .ok (.ifCond .eq 6, 3) := by decide +kernel
theorem dX10_state_10 : decode cX10_state 10 = .ok (.bipush (-103), 2) := by decide +kernel
theorem dX10_state_12 : decode cX10_state 12 = .ok (.ireturn, 1) := by decide +kernel
theorem dX10_state_13 : decode cX10_state 13 = .ok (.aload_n 0, 1) := by decide +kernel
theorem dX10_state_14 : decode cX10_state 14 = .ok (.getfield 19, 3) := by decide +kernel
theorem dX10_state_17 : decode cX10_state 17 = .ok (.getfield 106, 3) := by decide +kernel
theorem dX10_state_20 : decode cX10_state 20 = .ok (.iload_n 1, 1) := by decide +kernel
theorem dX10_state_21 : decode cX10_state 21 = .ok (.invokevirtual 110, 3) := by decide +kernel
theorem dX10_state_24 : decode cX10_state 24 = .ok (.ifCond .ne 6, 3) := by decide +kernel
theorem dX10_state_27 : decode cX10_state 27 = .ok (.bipush (-101), 2) := by decide +kernel
theorem dX10_state_29 : decode cX10_state 29 = .ok (.ireturn, 1) := by decide +kernel
theorem dX10_state_30 : decode cX10_state 30 = .ok (.iload_n 2, 1) := by decide +kernel
theorem dX10_state_31 : decode cX10_state 31 = .ok (.ifCond .lt 9, 3) := by decide +kernel
theorem dX10_state_34 : decode cX10_state 34 = .ok (.iload_n 2, 1) := by decide +kernel
theorem dX10_state_35 : decode cX10_state 35 = .ok (.bipush 7, 2) := by decide +kernel
theorem dX10_state_37 : decode cX10_state 37 = .ok (.if_icmp .lt 6, 3) := by decide +kernel
theorem dX10_state_40 : decode cX10_state 40 = .ok (.bipush (-102), 2) := by decide +kernel
theorem dX10_state_42 : decode cX10_state 42 = .ok (.ireturn, 1) := by decide +kernel
theorem dX10_state_43 : decode cX10_state 43 = .ok (.aload_n 0, 1) := by decide +kernel
theorem dX10_state_44 : decode cX10_state 44 = .ok (.getfield 19, 3) := by decide +kernel
theorem dX10_state_47 : decode cX10_state 47 = .ok (.getfield 106, 3) := by decide +kernel
theorem dX10_state_50 : decode cX10_state 50 = .ok (.iload_n 1, 1) := by decide +kernel
theorem dX10_state_51 : decode cX10_state 51 = .ok (.iload_n 2, 1) := by decide +kernel
theorem dX10_state_52 : decode cX10_state 52 = .ok (.invokevirtual 115, 3) := by decide +kernel
theorem dX10_state_55 : decode cX10_state 55 = .ok (.ireturn, 1) := by decide +kernel
theorem dX10_bound_0 : decode cX10_bound 0 = .ok (.aload_n 0, 1) := by decide +kernel
theorem dX10_bound_1 : decode cX10_bound 1 = .ok (.getfield 19, 3) := by decide +kernel
theorem dX10_bound_4 : decode cX10_bound 4 = .ok (.getfield 102, 3) := by decide +kernel
theorem dX10_bound_7 : decode cX10_bound 7 = .ok (.ifCond .eq 6, 3) := by decide +kernel
theorem dX10_bound_10 : decode cX10_bound 10 = .ok (.ldc 119, 2) := by decide +kernel
theorem dX10_bound_12 : decode cX10_bound 12 = .ok (.ireturn, 1) := by decide +kernel
theorem dX10_bound_13 : decode cX10_bound 13 = .ok (.aload_n 0, 1) := by decide +kernel
theorem dX10_bound_14 : decode cX10_bound 14 = .ok (.getfield 19, 3) := by decide +kernel
theorem dX10_bound_17 : decode cX10_bound 17 = .ok (.getfield 106, 3) := by decide +kernel
theorem dX10_bound_20 : decode cX10_bound 20 = .ok (.iload_n 1, 1) := by decide +kernel
theorem dX10_bound_21 : decode cX10_bound 21 = .ok (.invokevirtual 110, 3) := by decide +kernel
theorem dX10_bound_24 : decode cX10_bound 24 = .ok (.ifCond .eq 17, 3) := by decide +kernel
theorem dX10_bound_27 : decode cX10_bound 27 = .ok (.iload_n 2, 1) := by decide +kernel
theorem dX10_bound_28 : decode cX10_bound 28 = .ok (.invokestatic 120, 3) := by decide +kernel
theorem dX10_bound_31 : decode cX10_bound 31 = .ok (.ifCond .eq 10, 3) := by decide +kernel
theorem dX10_bound_34 : decode cX10_bound 34 = .ok (.iload_n 3, 1) := by decide +kernel
theorem dX10_bound_35 : decode cX10_bound 35 = .ok (.invokestatic 120, 3) := by decide +kernel
theorem dX10_bound_38 : decode cX10_bound 38 = .ok (.ifCond .ne 6, 3) := by decide +kernel
theorem dX10_bound_41 : decode cX10_bound 41 = .ok (.ldc 123, 2) := by decide +kernel
theorem dX10_bound_43 : decode cX10_bound 43 = .ok (.ireturn, 1) := by decide +kernel
theorem dX10_bound_44 : decode cX10_bound 44 = .ok (.aload_n 0, 1) := by decide +kernel
theorem dX10_bound_45 : decode cX10_bound 45 = .ok (.getfield 19, 3) := by decide +kernel
theorem dX10_bound_48 : decode cX10_bound 48 = .ok (.getfield 106, 3) := by decide +kernel
theorem dX10_bound_51 : decode cX10_bound 51 = .ok (.iload_n 1, 1) := by decide +kernel
theorem dX10_bound_52 : decode cX10_bound 52 = .ok (.iload_n 2, 1) := by decide +kernel
theorem dX10_bound_53 : decode cX10_bound 53 = .ok (.iload_n 3, 1) := by decide +kernel
theorem dX10_bound_54 : decode cX10_bound 54 = .ok (.invokevirtual 124, 3) := by decide +kernel
theorem dX10_bound_57 : decode cX10_bound 57 = .ok (.ireturn, 1) := by decide +kernel
theorem dX10_reach_0 : decode cX10_reach 0 = .ok (.aload_n 0, 1) := by decide +kernel
theorem dX10_reach_1 : decode cX10_reach 1 = .ok (.getfield 19, 3) := by decide +kernel
theorem dX10_reach_4 : decode cX10_reach 4 = .ok (.getfield 102, 3) := by decide +kernel
theorem dX10_reach_7 : decode cX10_reach 7 = .ok (.ifCond .eq 6, 3) := by decide +kernel
theorem dX10_reach_10 : decode cX10_reach 10 = .ok (.bipush (-103), 2) := by decide +kernel
theorem dX10_reach_12 : decode cX10_reach 12 = .ok (.ireturn, 1) := by decide +kernel
theorem dX10_reach_13 : decode cX10_reach 13 = .ok (.iload_n 1, 1) := by decide +kernel
theorem dX10_reach_14 : decode cX10_reach 14 = .ok (.invokestatic 128, 3) := by decide +kernel
theorem dX10_reach_17 : decode cX10_reach 17 = .ok (.ifCond .eq 17, 3) := by decide +kernel
theorem dX10_reach_20 : decode cX10_reach 20 = .ok (.iload_n 2, 1) := by decide +kernel
theorem dX10_reach_21 : decode cX10_reach 21 = .ok (.invokestatic 128, 3) := by decide +kernel
theorem dX10_reach_24 : decode cX10_reach 24 = .ok (.ifCond .eq 10, 3) := by decide +kernel
theorem dX10_reach_27 : decode cX10_reach 27 = .ok (.iload_n 3, 1) := by decide +kernel
theorem dX10_reach_28 : decode cX10_reach 28 = .ok (.invokestatic 128, 3) := by decide +kernel
theorem dX10_reach_31 : decode cX10_reach 31 = .ok (.ifCond .ne 6, 3) := by decide +kernel
theorem dX10_reach_34 : decode cX10_reach 34 = .ok (.bipush (-102), 2) := by decide +kernel
theorem dX10_reach_36 : decode cX10_reach 36 = .ok (.ireturn, 1) := by decide +kernel
theorem dX10_reach_37 : decode cX10_reach 37 = .ok (.aload_n 0, 1) := by decide +kernel
theorem dX10_reach_38 : decode cX10_reach 38 = .ok (.getfield 37, 3) := by decide +kernel
theorem dX10_reach_41 : decode cX10_reach 41 = .ok (.iconst 0, 1) := by decide +kernel
theorem dX10_reach_42 : decode cX10_reach 42 = .ok (.iload_n 1, 1) := by decide +kernel
theorem dX10_reach_43 : decode cX10_reach 43 = .ok (.iastore, 1) := by decide +kernel
theorem dX10_reach_44 : decode cX10_reach 44 = .ok (.aload_n 0, 1) := by decide +kernel
theorem dX10_reach_45 : decode cX10_reach 45 = .ok (.getfield 37, 3) := by decide +kernel
theorem dX10_reach_48 : decode cX10_reach 48 = .ok (.iconst 1, 1) := by decide +kernel
theorem dX10_reach_49 : decode cX10_reach 49 = .ok (.iload_n 2, 1) := by decide +kernel
theorem dX10_reach_50 : decode cX10_reach 50 = .ok (.iastore, 1) := by decide +kernel
theorem dX10_reach_51 : decode cX10_reach 51 = .ok (.aload_n 0, 1) := by decide +kernel
theorem dX10_reach_52 : decode cX10_reach 52 = .ok (.getfield 37, 3) := by decide +kernel
theorem dX10_reach_55 : decode cX10_reach 55 = .ok (.iconst 2, 1) := by decide +kernel
theorem dX10_reach_56 : decode cX10_reach 56 = .ok (.iload_n 3, 1) := by decide +kernel
theorem dX10_reach_57 : decode cX10_reach 57 = .ok (.iastore, 1) := by decide +kernel
theorem dX10_reach_58 : decode cX10_reach 58 = .ok (.aload_n 0, 1) := by decide +kernel
theorem dX10_reach_59 : decode cX10_reach 59 = .ok (.getfield 19, 3) := by decide +kernel
theorem dX10_reach_62 : decode cX10_reach 62 = .ok (.getfield 106, 3) := by decide +kernel
theorem dX10_reach_65 : decode cX10_reach 65 = .ok (.aload_n 0, 1) := by decide +kernel
theorem dX10_reach_66 : decode cX10_reach 66 = .ok (.getfield 37, 3) := by decide +kernel
theorem dX10_reach_69 : decode cX10_reach 69 = .ok (.invokevirtual 131, 3) := by decide +kernel
theorem dX10_reach_72 : decode cX10_reach 72 = .ok (.ireturn, 1) := by decide +kernel
theorem dX10_has_0 : decode cX10_has 0 = .ok (.aload_n 0, 1) := by decide +kernel
theorem dX10_has_1 : decode cX10_has 1 = .ok (.getfield 19, 3) := by decide +kernel
theorem dX10_has_4 : decode cX10_has 4 = .ok (.getfield 102, 3) := by decide +kernel
theorem dX10_has_7 : decode cX10_has 7 = .ok (.ifCond .eq 6, 3) := by decide +kernel
theorem dX10_has_10 : decode cX10_has 10 = .ok (.bipush (-103), 2) := by decide +kernel
theorem dX10_has_12 : decode cX10_has 12 = .ok (.ireturn, 1) := by decide +kernel
theorem dX10_has_13 : decode cX10_has 13 = .ok (.aload_n 0, 1) := by decide +kernel
theorem dX10_has_14 : decode cX10_has 14 = .ok (.getfield 19, 3) := by decide +kernel
theorem dX10_has_17 : decode cX10_has 17 = .ok (.getfield 106, 3) := by decide +kernel
theorem dX10_has_20 : decode cX10_has 20 = .ok (.iload_n 1, 1) := by decide +kernel
theorem dX10_has_21 : decode cX10_has 21 = .ok (.invokevirtual 110, 3) := by decide +kernel
theorem dX10_has_24 : decode cX10_has 24 = .ok (.ifCond .ne 6, 3) := by decide +kernel
theorem dX10_has_27 : decode cX10_has 27 = .ok (.bipush (-101), 2) := by decide +kernel
theorem dX10_has_29 : decode cX10_has 29 = .ok (.ireturn, 1) := by decide +kernel
theorem dX10_has_30 : decode cX10_has 30 = .ok (.iload_n 2, 1) := by decide +kernel
theorem dX10_has_31 : decode cX10_has 31 = .ok (.invokestatic 135, 3) := by decide +kernel
theorem dX10_has_34 : decode cX10_has 34 = .ok (.ifCond .eq 18, 3) := by decide +kernel
theorem dX10_has_37 : decode cX10_has 37 = .ok (.iload_n 3, 1) := by decide +kernel
theorem dX10_has_38 : decode cX10_has 38 = .ok (.invokestatic 135, 3) := by decide +kernel
theorem dX10_has_41 : decode cX10_has 41 = .ok (.ifCond .eq 11, 3) := by decide +kernel
theorem dX10_has_44 : decode cX10_has 44 = .ok (.iload 4, 2) := by decide +kernel
theorem dX10_has_46 : decode cX10_has 46 = .ok (.invokestatic 135, 3) := by decide +kernel
theorem dX10_has_49 : decode cX10_has 49 = .ok (.ifCond .ne 6, 3) := by decide +kernel
theorem dX10_has_52 : decode cX10_has 52 = .ok (.bipush (-102), 2) := by decide +kernel
theorem dX10_has_54 : decode cX10_has 54 = .ok (.ireturn, 1) := by decide +kernel
theorem dX10_has_55 : decode cX10_has 55 = .ok (.aload_n 0, 1) := by decide +kernel
theorem dX10_has_56 : decode cX10_has 56 = .ok (.getfield 41, 3) := by decide +kernel
theorem dX10_has_59 : decode cX10_has 59 = .ok (.iconst 1, 1) := by decide +kernel
theorem dX10_has_60 : decode cX10_has 60 = .ok (.iload_n 2, 1) := by decide +kernel
theorem dX10_has_61 : decode cX10_has 61 = .ok (.iastore, 1) := by decide +kernel
theorem dX10_has_62 : decode cX10_has 62 = .ok (.aload_n 0, 1) := by decide +kernel
theorem dX10_has_63 : decode cX10_has 63 = .ok (.getfield 41, 3) := by decide +kernel
theorem dX10_has_66 : decode cX10_has 66 = .ok (.iconst 2, 1) := by decide +kernel
theorem dX10_has_67 : decode cX10_has 67 = .ok (.iload_n 3, 1) := by decide +kernel
theorem dX10_has_68 : decode cX10_has 68 = .ok (.iastore, 1) := by decide +kernel
theorem dX10_has_69 : decode cX10_has 69 = .ok (.aload_n 0, 1) := by decide +kernel
theorem dX10_has_70 : decode cX10_has 70 = .ok (.getfield 41, 3) := by decide +kernel
theorem dX10_has_73 : decode cX10_has 73 = .ok (.iconst 3, 1) := by decide +kernel
theorem dX10_has_74 : decode cX10_has 74 = .ok (.iload 4, 2) := by decide +kernel
theorem dX10_has_76 : decode cX10_has 76 = .ok (.iastore, 1) := by decide +kernel
theorem dX10_has_77 : decode cX10_has 77 = .ok (.aload_n 0, 1) := by decide +kernel
theorem dX10_has_78 : decode cX10_has 78 = .ok (.getfield 19, 3) := by decide +kernel
theorem dX10_has_81 : decode cX10_has 81 = .ok (.getfield 106, 3) := by decide +kernel
theorem dX10_has_84 : decode cX10_has 84 = .ok (.iload_n 1, 1) := by decide +kernel
theorem dX10_has_85 : decode cX10_has 85 = .ok (.aload_n 0, 1) := by decide +kernel
theorem dX10_has_86 : decode cX10_has 86 = .ok (.getfield 41, 3) := by decide +kernel
theorem dX10_has_89 : decode cX10_has 89 = .ok (.invokevirtual 138, 3) := by decide +kernel
theorem dX10_has_92 : decode cX10_has 92 = .ok (.ifCond .eq 7, 3) := by decide +kernel
theorem dX10_has_95 : decode cX10_has 95 = .ok (.iconst 1, 1) := by decide +kernel
theorem dX10_has_96 : decode cX10_has 96 = .ok (.goto 4, 3) := by decide +kernel
theorem dX10_has_99 : decode cX10_has 99 = .ok (.iconst 0, 1) := by decide +kernel
theorem dX10_has_100 : decode cX10_has 100 = .ok (.ireturn, 1) := by decide +kernel
theorem dX10_way_0 : decode cX10_way 0 = .ok (.aload_n 0, 1) := by decide +kernel
theorem dX10_way_1 : decode cX10_way 1 = .ok (.getfield 19, 3) := by decide +kernel
theorem dX10_way_4 : decode cX10_way 4 = .ok (.getfield 102, 3) := by decide +kernel
theorem dX10_way_7 : decode cX10_way 7 = .ok (.ifCond .eq 6, 3) := by decide +kernel
theorem dX10_way_10 : decode cX10_way 10 = .ok (.bipush (-103), 2) := by decide +kernel
theorem dX10_way_12 : decode cX10_way 12 = .ok (.ireturn, 1) := by decide +kernel
theorem dX10_way_13 : decode cX10_way 13 = .ok (.aload_n 0, 1) := by decide +kernel
theorem dX10_way_14 : decode cX10_way 14 = .ok (.getfield 19, 3) := by decide +kernel
theorem dX10_way_17 : decode cX10_way 17 = .ok (.getfield 106, 3) := by decide +kernel
theorem dX10_way_20 : decode cX10_way 20 = .ok (.iload_n 1, 1) := by decide +kernel
theorem dX10_way_21 : decode cX10_way 21 = .ok (.iload_n 2, 1) := by decide +kernel
theorem dX10_way_22 : decode cX10_way 22 = .ok (.invokevirtual 142, 3) := by decide +kernel
theorem dX10_way_25 : decode cX10_way 25 = .ok (.ifCond .ne 6, 3) := by decide +kernel
theorem dX10_way_28 : decode cX10_way 28 = .ok (.bipush (-101), 2) := by decide +kernel
theorem dX10_way_30 : decode cX10_way 30 = .ok (.ireturn, 1) := by decide +kernel
theorem dX10_way_31 : decode cX10_way 31 = .ok (.iload_n 3, 1) := by decide +kernel
theorem dX10_way_32 : decode cX10_way 32 = .ok (.ifCond .lt 8, 3) := by decide +kernel
theorem dX10_way_35 : decode cX10_way 35 = .ok (.iload_n 3, 1) := by decide +kernel
theorem dX10_way_36 : decode cX10_way 36 = .ok (.iconst 1, 1) := by decide +kernel
theorem dX10_way_37 : decode cX10_way 37 = .ok (.if_icmp .le 6, 3) := by decide +kernel
theorem dX10_way_40 : decode cX10_way 40 = .ok (.bipush (-102), 2) := by decide +kernel
theorem dX10_way_42 : decode cX10_way 42 = .ok (.ireturn, 1) := by decide +kernel
theorem dX10_way_43 : decode cX10_way 43 = .ok (.aload_n 0, 1) := by decide +kernel
theorem dX10_way_44 : decode cX10_way 44 = .ok (.getfield 19, 3) := by decide +kernel
theorem dX10_way_47 : decode cX10_way 47 = .ok (.getfield 106, 3) := by decide +kernel
theorem dX10_way_50 : decode cX10_way 50 = .ok (.aload_n 0, 1) := by decide +kernel
theorem dX10_way_51 : decode cX10_way 51 = .ok (.getfield 19, 3) := by decide +kernel
theorem dX10_way_54 : decode cX10_way 54 = .ok (.getfield 106, 3) := by decide +kernel
theorem dX10_way_57 : decode cX10_way 57 = .ok (.iload_n 1, 1) := by decide +kernel
theorem dX10_way_58 : decode cX10_way 58 = .ok (.iload_n 2, 1) := by decide +kernel
theorem dX10_way_59 : decode cX10_way 59 = .ok (.invokevirtual 146, 3) := by decide +kernel
theorem dX10_way_62 : decode cX10_way 62 = .ok (.iload_n 3, 1) := by decide +kernel
theorem dX10_way_63 : decode cX10_way 63 = .ok (.ifCond .ne 7, 3) := by decide +kernel
theorem dX10_way_66 : decode cX10_way 66 = .ok (.iconst 4, 1) := by decide +kernel
theorem dX10_way_67 : decode cX10_way 67 = .ok (.goto 4, 3) := by decide +kernel
theorem dX10_way_70 : decode cX10_way 70 = .ok (.iconst 5, 1) := by decide +kernel
theorem dX10_way_71 : decode cX10_way 71 = .ok (.invokevirtual 115, 3) := by decide +kernel
theorem dX10_way_74 : decode cX10_way 74 = .ok (.ireturn, 1) := by decide +kernel
theorem dX10_moment_0 : decode cX10_moment 0 = .ok (.aload_n 0, 1) := by decide +kernel
theorem dX10_moment_1 : decode cX10_moment 1 = .ok (.getfield 19, 3) := by decide +kernel
theorem dX10_moment_4 : decode cX10_moment 4 = .ok (.getfield 102, 3) := by decide +kernel
theorem dX10_moment_7 : decode cX10_moment 7 = .ok (.ifCond .eq 6, 3) := by decide +kernel
theorem dX10_moment_10 : decode cX10_moment 10 = .ok (.bipush (-103), 2) := by decide +kernel
theorem dX10_moment_12 : decode cX10_moment 12 = .ok (.ireturn, 1) := by decide +kernel
theorem dX10_moment_13 : decode cX10_moment 13 = .ok (.aload_n 0, 1) := by decide +kernel
theorem dX10_moment_14 : decode cX10_moment 14 = .ok (.getfield 19, 3) := by decide +kernel
theorem dX10_moment_17 : decode cX10_moment 17 = .ok (.getfield 106, 3) := by decide +kernel
theorem dX10_moment_20 : decode cX10_moment 20 = .ok (.iload_n 1, 1) := by decide +kernel
theorem dX10_moment_21 : decode cX10_moment 21 = .ok (.iload_n 2, 1) := by decide +kernel
theorem dX10_moment_22 : decode cX10_moment 22 = .ok (.invokevirtual 142, 3) := by decide +kernel
theorem dX10_moment_25 : decode cX10_moment 25 = .ok (.ifCond .ne 6, 3) := by decide +kernel
theorem dX10_moment_28 : decode cX10_moment 28 = .ok (.bipush (-101), 2) := by decide +kernel
theorem dX10_moment_30 : decode cX10_moment 30 = .ok (.ireturn, 1) := by decide +kernel
theorem dX10_moment_31 : decode cX10_moment 31 = .ok (.aload_n 0, 1) := by decide +kernel
theorem dX10_moment_32 : decode cX10_moment 32 = .ok (.getfield 33, 3) := by decide +kernel
theorem dX10_moment_35 : decode cX10_moment 35 = .ok (.aload_n 0, 1) := by decide +kernel
theorem dX10_moment_36 : decode cX10_moment 36 = .ok (.getfield 12, 3) := by decide +kernel
theorem dX10_moment_39 : decode cX10_moment 39 = .ok (.aload_n 0, 1) := by decide +kernel
theorem dX10_moment_40 : decode cX10_moment 40 = .ok (.getfield 19, 3) := by decide +kernel
theorem dX10_moment_43 : decode cX10_moment 43 = .ok (.getfield 106, 3) := by decide +kernel
theorem dX10_moment_46 : decode cX10_moment 46 = .ok (.iload_n 1, 1) := by decide +kernel
theorem dX10_moment_47 : decode cX10_moment 47 = .ok (.invokevirtual 149, 3) := by decide +kernel
theorem dX10_moment_50 : decode cX10_moment 50 = .ok (.aload_n 0, 1) := by decide +kernel
theorem dX10_moment_51 : decode cX10_moment 51 = .ok (.getfield 33, 3) := by decide +kernel
theorem dX10_moment_54 : decode cX10_moment 54 = .ok (.getfield 153, 3) := by decide +kernel
theorem dX10_moment_57 : decode cX10_moment 57 = .ok (.iload_n 2, 1) := by decide +kernel
theorem dX10_moment_58 : decode cX10_moment 58 = .ok (.iconst 1, 1) := by decide +kernel
theorem dX10_moment_59 : decode cX10_moment 59 = .ok (.iadd, 1) := by decide +kernel
theorem dX10_moment_60 : decode cX10_moment 60 = .ok (.iaload, 1) := by decide +kernel
theorem dX10_moment_61 : decode cX10_moment 61 = .ok (.ireturn, 1) := by decide +kernel
theorem dX10_greatest_0 : decode cX10_greatest 0 = .ok (.iload_n 1, 1) := by decide +kernel
theorem dX10_greatest_1 : decode cX10_greatest 1 = .ok (.invokestatic 70, 3) := by decide +kernel
theorem dX10_greatest_4 : decode cX10_greatest 4 = .ok (.ifCond .eq 14, 3) := by decide +kernel
theorem dX10_greatest_7 : decode cX10_greatest 7 = .ok (.aload_n 0, 1) := by decide +kernel
theorem dX10_greatest_8 : decode cX10_greatest 8 = .ok (.getfield 12, 3) := by decide +kernel
theorem dX10_greatest_11 : decode cX10_greatest 11 = .ok (.iload_n 1, 1) := by decide +kernel
theorem dX10_greatest_12 : decode cX10_greatest 12 = .ok (.invokevirtual 156, 3) := by decide +kernel
theorem dX10_greatest_15 : decode cX10_greatest 15 = .ok (.goto 5, 3) := by decide +kernel
theorem dX10_greatest_18 : decode cX10_greatest 18 = .ok (.bipush (-101), 2) := by decide +kernel
theorem dX10_greatest_20 : decode cX10_greatest 20 = .ok (.ireturn, 1) := by decide +kernel
theorem dX10_begin_0 : decode cX10_begin 0 = .ok (.aload_n 0, 1) := by decide +kernel
theorem dX10_begin_1 : decode cX10_begin 1 = .ok (.getfield 26, 3) := by decide +kernel
theorem dX10_begin_4 : decode cX10_begin 4 = .ok (.aload_n 0, 1) := by decide +kernel
theorem dX10_begin_5 : decode cX10_begin 5 = .ok (.getfield 12, 3) := by decide +kernel
theorem dX10_begin_8 : decode cX10_begin 8 = .ok (.invokevirtual 160, 3) := by decide +kernel
theorem dX10_begin_11 : decode cX10_begin 11 = .ok (.ifCond .eq 7, 3) := by decide +kernel
theorem dX10_begin_14 : decode cX10_begin 14 = .ok (.iconst 1, 1) := by decide +kernel
theorem dX10_begin_15 : decode cX10_begin 15 = .ok (.goto 4, 3) := by decide +kernel
theorem dX10_begin_18 : decode cX10_begin 18 = .ok (.iconst 0, 1) := by decide +kernel
theorem dX10_begin_19 : decode cX10_begin 19 = .ok (.ireturn, 1) := by decide +kernel
theorem dX10_pass_0 : decode cX10_pass 0 = .ok (.iload_n 1, 1) := by decide +kernel
theorem dX10_pass_1 : decode cX10_pass 1 = .ok (.iconst 1, 1) := by decide +kernel
theorem dX10_pass_2 : decode cX10_pass 2 = .ok (.if_icmp .lt 9, 3) := by decide +kernel
theorem dX10_pass_5 : decode cX10_pass 5 = .ok (.iload_n 1, 1) := by decide +kernel
theorem dX10_pass_6 : decode cX10_pass 6 = .ok (.ldc 164, 2) := by decide +kernel
theorem dX10_pass_8 : decode cX10_pass 8 = .ok (.if_icmp .le 6, 3) := by decide +kernel
theorem dX10_pass_11 : decode cX10_pass 11 = .ok (.bipush (-102), 2) := by decide +kernel
theorem dX10_pass_13 : decode cX10_pass 13 = .ok (.ireturn, 1) := by decide +kernel
theorem dX10_pass_14 : decode cX10_pass 14 = .ok (.aload_n 0, 1) := by decide +kernel
theorem dX10_pass_15 : decode cX10_pass 15 = .ok (.getfield 26, 3) := by decide +kernel
theorem dX10_pass_18 : decode cX10_pass 18 = .ok (.getfield 165, 3) := by decide +kernel
theorem dX10_pass_21 : decode cX10_pass 21 = .ok (.ifCond .eq 17, 3) := by decide +kernel
theorem dX10_pass_24 : decode cX10_pass 24 = .ok (.aload_n 0, 1) := by decide +kernel
theorem dX10_pass_25 : decode cX10_pass 25 = .ok (.getfield 26, 3) := by decide +kernel
theorem dX10_pass_28 : decode cX10_pass 28 = .ok (.invokevirtual 168, 3) := by decide +kernel
theorem dX10_pass_31 : decode cX10_pass 31 = .ok (.iload_n 1, 1) := by decide +kernel
theorem dX10_pass_32 : decode cX10_pass 32 = .ok (.iadd, 1) := by decide +kernel
theorem dX10_pass_33 : decode cX10_pass 33 = .ok (.ldc 172, 2) := by decide +kernel
theorem dX10_pass_35 : decode cX10_pass 35 = .ok (.if_icmp .le 6, 3) := by decide +kernel
theorem dX10_pass_38 : decode cX10_pass 38 = .ok (.bipush (-103), 2) := by decide +kernel
theorem dX10_pass_40 : decode cX10_pass 40 = .ok (.ireturn, 1) := by decide +kernel
theorem dX10_pass_41 : decode cX10_pass 41 = .ok (.aload_n 0, 1) := by decide +kernel
theorem dX10_pass_42 : decode cX10_pass 42 = .ok (.getfield 26, 3) := by decide +kernel
theorem dX10_pass_45 : decode cX10_pass 45 = .ok (.aload_n 0, 1) := by decide +kernel
theorem dX10_pass_46 : decode cX10_pass 46 = .ok (.getfield 12, 3) := by decide +kernel
theorem dX10_pass_49 : decode cX10_pass 49 = .ok (.iload_n 1, 1) := by decide +kernel
theorem dX10_pass_50 : decode cX10_pass 50 = .ok (.invokevirtual 173, 3) := by decide +kernel
theorem dX10_pass_53 : decode cX10_pass 53 = .ok (.ifCond .eq 7, 3) := by decide +kernel
theorem dX10_pass_56 : decode cX10_pass 56 = .ok (.iconst 1, 1) := by decide +kernel
theorem dX10_pass_57 : decode cX10_pass 57 = .ok (.goto 4, 3) := by decide +kernel
theorem dX10_pass_60 : decode cX10_pass 60 = .ok (.iconst 0, 1) := by decide +kernel
theorem dX10_pass_61 : decode cX10_pass 61 = .ok (.ireturn, 1) := by decide +kernel
theorem dX10_move_0 : decode cX10_move 0 = .ok (.aload_n 0, 1) := by decide +kernel
theorem dX10_move_1 : decode cX10_move 1 = .ok (.getfield 12, 3) := by decide +kernel
theorem dX10_move_4 : decode cX10_move 4 = .ok (.iload_n 1, 1) := by decide +kernel
theorem dX10_move_5 : decode cX10_move 5 = .ok (.invokevirtual 67, 3) := by decide +kernel
theorem dX10_move_8 : decode cX10_move 8 = .ok (.ifCond .eq 19, 3) := by decide +kernel
theorem dX10_move_11 : decode cX10_move 11 = .ok (.iload_n 2, 1) := by decide +kernel
theorem dX10_move_12 : decode cX10_move 12 = .ok (.iconst (-1), 1) := by decide +kernel
theorem dX10_move_13 : decode cX10_move 13 = .ok (.if_icmp .eq 17, 3) := by decide +kernel
theorem dX10_move_16 : decode cX10_move 16 = .ok (.aload_n 0, 1) := by decide +kernel
theorem dX10_move_17 : decode cX10_move 17 = .ok (.getfield 12, 3) := by decide +kernel
theorem dX10_move_20 : decode cX10_move 20 = .ok (.iload_n 2, 1) := by decide +kernel
theorem dX10_move_21 : decode cX10_move 21 = .ok (.invokevirtual 67, 3) := by decide +kernel
theorem dX10_move_24 : decode cX10_move 24 = .ok (.ifCond .ne 6, 3) := by decide +kernel
theorem dX10_move_27 : decode cX10_move 27 = .ok (.bipush (-101), 2) := by decide +kernel
theorem dX10_move_29 : decode cX10_move 29 = .ok (.ireturn, 1) := by decide +kernel
theorem dX10_move_30 : decode cX10_move 30 = .ok (.aload_n 0, 1) := by decide +kernel
theorem dX10_move_31 : decode cX10_move 31 = .ok (.getfield 12, 3) := by decide +kernel
theorem dX10_move_34 : decode cX10_move 34 = .ok (.iload_n 1, 1) := by decide +kernel
theorem dX10_move_35 : decode cX10_move 35 = .ok (.iload_n 2, 1) := by decide +kernel
theorem dX10_move_36 : decode cX10_move 36 = .ok (.invokevirtual 177, 3) := by decide +kernel
theorem dX10_move_39 : decode cX10_move 39 = .ok (.astore_n 3, 1) := by decide +kernel
theorem dX10_move_40 : decode cX10_move 40 = .ok (.aload_n 3, 1) := by decide +kernel
theorem dX10_move_41 : decode cX10_move 41 = .ok (.ifnonnull 6, 3) := by decide +kernel
theorem dX10_move_44 : decode cX10_move 44 = .ok (.bipush (-102), 2) := by decide +kernel
theorem dX10_move_46 : decode cX10_move 46 = .ok (.ireturn, 1) := by decide +kernel
theorem dX10_move_47 : decode cX10_move 47 = .ok (.aload_n 0, 1) := by decide +kernel
theorem dX10_move_48 : decode cX10_move 48 = .ok (.getfield 26, 3) := by decide +kernel
theorem dX10_move_51 : decode cX10_move 51 = .ok (.getfield 165, 3) := by decide +kernel
theorem dX10_move_54 : decode cX10_move 54 = .ok (.ifCond .ne 6, 3) := by decide +kernel
theorem dX10_move_57 : decode cX10_move 57 = .ok (.bipush (-103), 2) := by decide +kernel
theorem dX10_move_59 : decode cX10_move 59 = .ok (.ireturn, 1) := by decide +kernel
theorem dX10_move_60 : decode cX10_move 60 = .ok (.aload_n 0, 1) := by decide +kernel
theorem dX10_move_61 : decode cX10_move 61 = .ok (.getfield 26, 3) := by decide +kernel
theorem dX10_move_64 : decode cX10_move 64 = .ok (.aload_n 0, 1) := by decide +kernel
theorem dX10_move_65 : decode cX10_move 65 = .ok (.getfield 12, 3) := by decide +kernel
theorem dX10_move_68 : decode cX10_move 68 = .ok (.aload_n 3, 1) := by decide +kernel
theorem dX10_move_69 : decode cX10_move 69 = .ok (.invokevirtual 181, 3) := by decide +kernel
theorem dX10_move_72 : decode cX10_move 72 = .ok (.ifCond .eq 7, 3) := by decide +kernel
theorem dX10_move_75 : decode cX10_move 75 = .ok (.iconst 1, 1) := by decide +kernel
theorem dX10_move_76 : decode cX10_move 76 = .ok (.goto 4, 3) := by decide +kernel
theorem dX10_move_79 : decode cX10_move 79 = .ok (.iconst 0, 1) := by decide +kernel
theorem dX10_move_80 : decode cX10_move 80 = .ok (.ireturn, 1) := by decide +kernel
theorem dX10_run_0 : decode cX10_run 0 = .ok (.aload_n 0, 1) := by decide +kernel
theorem dX10_run_1 : decode cX10_run 1 = .ok (.getfield 26, 3) := by decide +kernel
theorem dX10_run_4 : decode cX10_run 4 = .ok (.getfield 165, 3) := by decide +kernel
theorem dX10_run_7 : decode cX10_run 7 = .ok (.ifCond .ne 6, 3) := by decide +kernel
theorem dX10_run_10 : decode cX10_run 10 = .ok (.bipush (-103), 2) := by decide +kernel
theorem dX10_run_12 : decode cX10_run 12 = .ok (.ireturn, 1) := by decide +kernel
theorem dX10_run_13 : decode cX10_run 13 = .ok (.iload_n 1, 1) := by decide +kernel
theorem dX10_run_14 : decode cX10_run 14 = .ok (.ifCond .lt 18, 3) := by decide +kernel
theorem dX10_run_17 : decode cX10_run 17 = .ok (.iload_n 1, 1) := by decide +kernel
theorem dX10_run_18 : decode cX10_run 18 = .ok (.iconst 3, 1) := by decide +kernel
theorem dX10_run_19 : decode cX10_run 19 = .ok (.if_icmp .ge 13, 3) := by decide +kernel
theorem dX10_run_22 : decode cX10_run 22 = .ok (.aload_n 0, 1) := by decide +kernel
theorem dX10_run_23 : decode cX10_run 23 = .ok (.getfield 26, 3) := by decide +kernel
theorem dX10_run_26 : decode cX10_run 26 = .ok (.getfield 185, 3) := by decide +kernel
theorem dX10_run_29 : decode cX10_run 29 = .ok (.iload_n 1, 1) := by decide +kernel
theorem dX10_run_30 : decode cX10_run 30 = .ok (.iaload, 1) := by decide +kernel
theorem dX10_run_31 : decode cX10_run 31 = .ok (.ireturn, 1) := by decide +kernel
theorem dX10_run_32 : decode cX10_run 32 = .ok (.iload_n 1, 1) := by decide +kernel
theorem dX10_run_33 : decode cX10_run 33 = .ok (.iconst 3, 1) := by decide +kernel
theorem dX10_run_34 : decode cX10_run 34 = .ok (.if_icmp .le 21, 3) := by decide +kernel
theorem dX10_run_37 : decode cX10_run 37 = .ok (.iload_n 1, 1) := by decide +kernel
theorem dX10_run_38 : decode cX10_run 38 = .ok (.bipush 7, 2) := by decide +kernel
theorem dX10_run_40 : decode cX10_run 40 = .ok (.if_icmp .ge 15, 3) := by decide +kernel
theorem dX10_run_43 : decode cX10_run 43 = .ok (.aload_n 0, 1) := by decide +kernel
theorem dX10_run_44 : decode cX10_run 44 = .ok (.getfield 26, 3) := by decide +kernel
theorem dX10_run_47 : decode cX10_run 47 = .ok (.getfield 188, 3) := by decide +kernel
theorem dX10_run_50 : decode cX10_run 50 = .ok (.iload_n 1, 1) := by decide +kernel
theorem dX10_run_51 : decode cX10_run 51 = .ok (.iconst 3, 1) := by decide +kernel
theorem dX10_run_52 : decode cX10_run 52 = .ok (.isub, 1) := by decide +kernel
theorem dX10_run_53 : decode cX10_run 53 = .ok (.iaload, 1) := by decide +kernel
theorem dX10_run_54 : decode cX10_run 54 = .ok (.ireturn, 1) := by decide +kernel
theorem dX10_run_55 : decode cX10_run 55 = .ok (.iload_n 1, 1) := by decide +kernel
theorem dX10_run_56 : decode cX10_run 56 = .ok (.lookupswitch 44 #[(7, 28), (8, 36)], 28) := by decide +kernel
theorem dX10_run_84 : decode cX10_run 84 = .ok (.aload_n 0, 1) := by decide +kernel
theorem dX10_run_85 : decode cX10_run 85 = .ok (.getfield 26, 3) := by decide +kernel
theorem dX10_run_88 : decode cX10_run 88 = .ok (.getfield 191, 3) := by decide +kernel
theorem dX10_run_91 : decode cX10_run 91 = .ok (.ireturn, 1) := by decide +kernel
theorem dX10_run_92 : decode cX10_run 92 = .ok (.aload_n 0, 1) := by decide +kernel
theorem dX10_run_93 : decode cX10_run 93 = .ok (.getfield 26, 3) := by decide +kernel
theorem dX10_run_96 : decode cX10_run 96 = .ok (.getfield 194, 3) := by decide +kernel
theorem dX10_run_99 : decode cX10_run 99 = .ok (.ireturn, 1) := by decide +kernel
theorem dX10_run_100 : decode cX10_run 100 = .ok (.bipush (-102), 2) := by decide +kernel
theorem dX10_run_102 : decode cX10_run 102 = .ok (.ireturn, 1) := by decide +kernel
theorem dX10_here_0 : decode cX10_here 0 = .ok (.aload_n 0, 1) := by decide +kernel
theorem dX10_here_1 : decode cX10_here 1 = .ok (.getfield 26, 3) := by decide +kernel
theorem dX10_here_4 : decode cX10_here 4 = .ok (.getfield 165, 3) := by decide +kernel
theorem dX10_here_7 : decode cX10_here 7 = .ok (.ifCond .eq 13, 3) := by decide +kernel
theorem dX10_here_10 : decode cX10_here 10 = .ok (.aload_n 0, 1) := by decide +kernel
theorem dX10_here_11 : decode cX10_here 11 = .ok (.getfield 19, 3) := by decide +kernel
theorem dX10_here_14 : decode cX10_here 14 = .ok (.getfield 102, 3) := by decide +kernel
theorem dX10_here_17 : decode cX10_here 17 = .ok (.ifCond .eq 6, 3) := by decide +kernel
theorem dX10_here_20 : decode cX10_here 20 = .ok (.bipush (-103), 2) := by decide +kernel
theorem dX10_here_22 : decode cX10_here 22 = .ok (.ireturn, 1) := by decide +kernel
theorem dX10_here_23 : decode cX10_here 23 = .ok (.aload_n 0, 1) := by decide +kernel
theorem dX10_here_24 : decode cX10_here 24 = .ok (.getfield 19, 3) := by decide +kernel
theorem dX10_here_27 : decode cX10_here 27 = .ok (.getfield 106, 3) := by decide +kernel
theorem dX10_here_30 : decode cX10_here 30 = .ok (.aload_n 0, 1) := by decide +kernel
theorem dX10_here_31 : decode cX10_here 31 = .ok (.getfield 26, 3) := by decide +kernel
theorem dX10_here_34 : decode cX10_here 34 = .ok (.getfield 185, 3) := by decide +kernel
theorem dX10_here_37 : decode cX10_here 37 = .ok (.aload_n 0, 1) := by decide +kernel
theorem dX10_here_38 : decode cX10_here 38 = .ok (.getfield 26, 3) := by decide +kernel
theorem dX10_here_41 : decode cX10_here 41 = .ok (.getfield 188, 3) := by decide +kernel
theorem dX10_here_44 : decode cX10_here 44 = .ok (.invokevirtual 197, 3) := by decide +kernel
theorem dX10_here_47 : decode cX10_here 47 = .ok (.ireturn, 1) := by decide +kernel
theorem dX10_about_0 : decode cX10_about 0 = .ok (.aload_n 0, 1) := by decide +kernel
theorem dX10_about_1 : decode cX10_about 1 = .ok (.getfield 12, 3) := by decide +kernel
theorem dX10_about_4 : decode cX10_about 4 = .ok (.iload_n 1, 1) := by decide +kernel
theorem dX10_about_5 : decode cX10_about 5 = .ok (.invokevirtual 67, 3) := by decide +kernel
theorem dX10_about_8 : decode cX10_about 8 = .ok (.ifCond .ne 6, 3) := by decide +kernel
theorem dX10_about_11 : decode cX10_about 11 = .ok (.bipush (-101), 2) := by decide +kernel
theorem dX10_about_13 : decode cX10_about 13 = .ok (.ireturn, 1) := by decide +kernel
theorem dX10_about_14 : decode cX10_about 14 = .ok (.aload_n 0, 1) := by decide +kernel
theorem dX10_about_15 : decode cX10_about 15 = .ok (.getfield 12, 3) := by decide +kernel
theorem dX10_about_18 : decode cX10_about 18 = .ok (.getfield 76, 3) := by decide +kernel
theorem dX10_about_21 : decode cX10_about 21 = .ok (.iload_n 1, 1) := by decide +kernel
theorem dX10_about_22 : decode cX10_about 22 = .ok (.aaload, 1) := by decide +kernel
theorem dX10_about_23 : decode cX10_about 23 = .ok (.astore_n 3, 1) := by decide +kernel
theorem dX10_about_24 : decode cX10_about 24 = .ok (.iload_n 2, 1) := by decide +kernel
theorem dX10_about_25 : decode cX10_about 25 = .ok (.tableswitch 72 0 5 #[39, 44, 49, 54, 59, 64], 39) := by decide +kernel
theorem dX10_about_64 : decode cX10_about 64 = .ok (.aload_n 3, 1) := by decide +kernel
theorem dX10_about_65 : decode cX10_about 65 = .ok (.getfield 201, 3) := by decide +kernel
theorem dX10_about_68 : decode cX10_about 68 = .ok (.ireturn, 1) := by decide +kernel
theorem dX10_about_69 : decode cX10_about 69 = .ok (.aload_n 3, 1) := by decide +kernel
theorem dX10_about_70 : decode cX10_about 70 = .ok (.getfield 204, 3) := by decide +kernel
theorem dX10_about_73 : decode cX10_about 73 = .ok (.ireturn, 1) := by decide +kernel
theorem dX10_about_74 : decode cX10_about 74 = .ok (.aload_n 3, 1) := by decide +kernel
theorem dX10_about_75 : decode cX10_about 75 = .ok (.getfield 207, 3) := by decide +kernel
theorem dX10_about_78 : decode cX10_about 78 = .ok (.ireturn, 1) := by decide +kernel
theorem dX10_about_79 : decode cX10_about 79 = .ok (.aload_n 3, 1) := by decide +kernel
theorem dX10_about_80 : decode cX10_about 80 = .ok (.getfield 210, 3) := by decide +kernel
theorem dX10_about_83 : decode cX10_about 83 = .ok (.ireturn, 1) := by decide +kernel
theorem dX10_about_84 : decode cX10_about 84 = .ok (.aload_n 3, 1) := by decide +kernel
theorem dX10_about_85 : decode cX10_about 85 = .ok (.getfield 213, 3) := by decide +kernel
theorem dX10_about_88 : decode cX10_about 88 = .ok (.ireturn, 1) := by decide +kernel
theorem dX10_about_89 : decode cX10_about 89 = .ok (.aload_n 3, 1) := by decide +kernel
theorem dX10_about_90 : decode cX10_about 90 = .ok (.getfield 80, 3) := by decide +kernel
theorem dX10_about_93 : decode cX10_about 93 = .ok (.getfield 216, 3) := by decide +kernel
theorem dX10_about_96 : decode cX10_about 96 = .ok (.ireturn, 1) := by decide +kernel
theorem dX10_about_97 : decode cX10_about 97 = .ok (.bipush (-102), 2) := by decide +kernel
theorem dX10_about_99 : decode cX10_about 99 = .ok (.ireturn, 1) := by decide +kernel
theorem dX10_count_0 : decode cX10_count 0 = .ok (.iload_n 1, 1) := by decide +kernel
theorem dX10_count_1 : decode cX10_count 1 = .ok (.tableswitch 124 0 6 #[43, 51, 59, 67, 92, 100, 116], 43) := by decide +kernel
theorem dX10_count_44 : decode cX10_count 44 = .ok (.aload_n 0, 1) := by decide +kernel
theorem dX10_count_45 : decode cX10_count 45 = .ok (.getfield 12, 3) := by decide +kernel
theorem dX10_count_48 : decode cX10_count 48 = .ok (.getfield 51, 3) := by decide +kernel
theorem dX10_count_51 : decode cX10_count 51 = .ok (.ireturn, 1) := by decide +kernel
theorem dX10_count_52 : decode cX10_count 52 = .ok (.aload_n 0, 1) := by decide +kernel
theorem dX10_count_53 : decode cX10_count 53 = .ok (.getfield 12, 3) := by decide +kernel
theorem dX10_count_56 : decode cX10_count 56 = .ok (.invokevirtual 221, 3) := by decide +kernel
theorem dX10_count_59 : decode cX10_count 59 = .ok (.ireturn, 1) := by decide +kernel
theorem dX10_count_60 : decode cX10_count 60 = .ok (.aload_n 0, 1) := by decide +kernel
theorem dX10_count_61 : decode cX10_count 61 = .ok (.getfield 12, 3) := by decide +kernel
theorem dX10_count_64 : decode cX10_count 64 = .ok (.invokevirtual 224, 3) := by decide +kernel
theorem dX10_count_67 : decode cX10_count 67 = .ok (.ireturn, 1) := by decide +kernel
theorem dX10_count_68 : decode cX10_count 68 = .ok (.aload_n 0, 1) := by decide +kernel
theorem dX10_count_69 : decode cX10_count 69 = .ok (.getfield 19, 3) := by decide +kernel
theorem dX10_count_72 : decode cX10_count 72 = .ok (.getfield 102, 3) := by decide +kernel
theorem dX10_count_75 : decode cX10_count 75 = .ok (.ifCond .eq 7, 3) := by decide +kernel
theorem dX10_count_78 : decode cX10_count 78 = .ok (.iconst 0, 1) := by decide +kernel
theorem dX10_count_79 : decode cX10_count 79 = .ok (.goto 13, 3) := by decide +kernel
theorem dX10_count_82 : decode cX10_count 82 = .ok (.aload_n 0, 1) := by decide +kernel
theorem dX10_count_83 : decode cX10_count 83 = .ok (.getfield 19, 3) := by decide +kernel
theorem dX10_count_86 : decode cX10_count 86 = .ok (.getfield 106, 3) := by decide +kernel
theorem dX10_count_89 : decode cX10_count 89 = .ok (.getfield 227, 3) := by decide +kernel
theorem dX10_count_92 : decode cX10_count 92 = .ok (.ireturn, 1) := by decide +kernel
theorem dX10_count_93 : decode cX10_count 93 = .ok (.aload_n 0, 1) := by decide +kernel
theorem dX10_count_94 : decode cX10_count 94 = .ok (.getfield 12, 3) := by decide +kernel
theorem dX10_count_97 : decode cX10_count 97 = .ok (.getfield 228, 3) := by decide +kernel
theorem dX10_count_100 : decode cX10_count 100 = .ok (.ireturn, 1) := by decide +kernel
theorem dX10_count_101 : decode cX10_count 101 = .ok (.aload_n 0, 1) := by decide +kernel
theorem dX10_count_102 : decode cX10_count 102 = .ok (.getfield 19, 3) := by decide +kernel
theorem dX10_count_105 : decode cX10_count 105 = .ok (.getfield 102, 3) := by decide +kernel
theorem dX10_count_108 : decode cX10_count 108 = .ok (.ifCond .eq 7, 3) := by decide +kernel
theorem dX10_count_111 : decode cX10_count 111 = .ok (.iconst 1, 1) := by decide +kernel
theorem dX10_count_112 : decode cX10_count 112 = .ok (.goto 4, 3) := by decide +kernel
theorem dX10_count_115 : decode cX10_count 115 = .ok (.iconst 0, 1) := by decide +kernel
theorem dX10_count_116 : decode cX10_count 116 = .ok (.ireturn, 1) := by decide +kernel
theorem dX10_count_117 : decode cX10_count 117 = .ok (.aload_n 0, 1) := by decide +kernel
theorem dX10_count_118 : decode cX10_count 118 = .ok (.getfield 19, 3) := by decide +kernel
theorem dX10_count_121 : decode cX10_count 121 = .ok (.getfield 95, 3) := by decide +kernel
theorem dX10_count_124 : decode cX10_count 124 = .ok (.ireturn, 1) := by decide +kernel
theorem dX10_count_125 : decode cX10_count 125 = .ok (.bipush (-102), 2) := by decide +kernel
theorem dX10_count_127 : decode cX10_count 127 = .ok (.ireturn, 1) := by decide +kernel
theorem dX10_digest_0 : decode cX10_digest 0 = .ok (.aload_n 0, 1) := by decide +kernel
theorem dX10_digest_1 : decode cX10_digest 1 = .ok (.ldc2_w 231, 3) := by decide +kernel
theorem dX10_digest_4 : decode cX10_digest 4 = .ok (.invokevirtual 233, 3) := by decide +kernel
theorem dX10_digest_7 : decode cX10_digest 7 = .ok (.lstore_n 1, 1) := by decide +kernel
theorem dX10_digest_8 : decode cX10_digest 8 = .ok (.aload_n 0, 1) := by decide +kernel
theorem dX10_digest_9 : decode cX10_digest 9 = .ok (.lload_n 1, 1) := by decide +kernel
theorem dX10_digest_10 : decode cX10_digest 10 = .ok (.invokevirtual 237, 3) := by decide +kernel
theorem dX10_digest_13 : decode cX10_digest 13 = .ok (.lstore_n 1, 1) := by decide +kernel
theorem dX10_digest_14 : decode cX10_digest 14 = .ok (.aload_n 0, 1) := by decide +kernel
theorem dX10_digest_15 : decode cX10_digest 15 = .ok (.getfield 19, 3) := by decide +kernel
theorem dX10_digest_18 : decode cX10_digest 18 = .ok (.getfield 102, 3) := by decide +kernel
theorem dX10_digest_21 : decode cX10_digest 21 = .ok (.ifCond .ne 9, 3) := by decide +kernel
theorem dX10_digest_24 : decode cX10_digest 24 = .ok (.aload_n 0, 1) := by decide +kernel
theorem dX10_digest_25 : decode cX10_digest 25 = .ok (.lload_n 1, 1) := by decide +kernel
theorem dX10_digest_26 : decode cX10_digest 26 = .ok (.invokevirtual 240, 3) := by decide +kernel
theorem dX10_digest_29 : decode cX10_digest 29 = .ok (.lstore_n 1, 1) := by decide +kernel
theorem dX10_digest_30 : decode cX10_digest 30 = .ok (.aload_n 0, 1) := by decide +kernel
theorem dX10_digest_31 : decode cX10_digest 31 = .ok (.lload_n 1, 1) := by decide +kernel
theorem dX10_digest_32 : decode cX10_digest 32 = .ok (.invokevirtual 243, 3) := by decide +kernel
theorem dX10_digest_35 : decode cX10_digest 35 = .ok (.lreturn, 1) := by decide +kernel
theorem dX10_isMachine_0 : decode cX10_isMachine 0 = .ok (.iload_n 0, 1) := by decide +kernel
theorem dX10_isMachine_1 : decode cX10_isMachine 1 = .ok (.ifCond .lt 12, 3) := by decide +kernel
theorem dX10_isMachine_4 : decode cX10_isMachine 4 = .ok (.iload_n 0, 1) := by decide +kernel
theorem dX10_isMachine_5 : decode cX10_isMachine 5 = .ok (.iconst 3, 1) := by decide +kernel
theorem dX10_isMachine_6 : decode cX10_isMachine 6 = .ok (.if_icmp .ge 7, 3) := by decide +kernel
theorem dX10_isMachine_9 : decode cX10_isMachine 9 = .ok (.iconst 1, 1) := by decide +kernel
theorem dX10_isMachine_10 : decode cX10_isMachine 10 = .ok (.goto 4, 3) := by decide +kernel
theorem dX10_isMachine_13 : decode cX10_isMachine 13 = .ok (.iconst 0, 1) := by decide +kernel
theorem dX10_isMachine_14 : decode cX10_isMachine 14 = .ok (.ireturn, 1) := by decide +kernel
theorem dX10_isPlace_0 : decode cX10_isPlace 0 = .ok (.iload_n 0, 1) := by decide +kernel
theorem dX10_isPlace_1 : decode cX10_isPlace 1 = .ok (.ifCond .lt 13, 3) := by decide +kernel
theorem dX10_isPlace_4 : decode cX10_isPlace 4 = .ok (.iload_n 0, 1) := by decide +kernel
theorem dX10_isPlace_5 : decode cX10_isPlace 5 = .ok (.bipush 6, 2) := by decide +kernel
theorem dX10_isPlace_7 : decode cX10_isPlace 7 = .ok (.if_icmp .ge 7, 3) := by decide +kernel
theorem dX10_isPlace_10 : decode cX10_isPlace 10 = .ok (.iconst 1, 1) := by decide +kernel
theorem dX10_isPlace_11 : decode cX10_isPlace 11 = .ok (.goto 4, 3) := by decide +kernel
theorem dX10_isPlace_14 : decode cX10_isPlace 14 = .ok (.iconst 0, 1) := by decide +kernel
theorem dX10_isPlace_15 : decode cX10_isPlace 15 = .ok (.ireturn, 1) := by decide +kernel
theorem dX10_isPlaceOrAny_0 : decode cX10_isPlaceOrAny 0 = .ok (.iload_n 0, 1) := by decide +kernel
theorem dX10_isPlaceOrAny_1 : decode cX10_isPlaceOrAny 1 = .ok (.iconst (-1), 1) := by decide +kernel
theorem dX10_isPlaceOrAny_2 : decode cX10_isPlaceOrAny 2 = .ok (.if_icmp .eq 10, 3) := by decide +kernel
theorem dX10_isPlaceOrAny_5 : decode cX10_isPlaceOrAny 5 = .ok (.iload_n 0, 1) := by decide +kernel
theorem dX10_isPlaceOrAny_6 : decode cX10_isPlaceOrAny 6 = .ok (.invokestatic 48, 3) := by decide +kernel
theorem dX10_isPlaceOrAny_9 : decode cX10_isPlaceOrAny 9 = .ok (.ifCond .eq 7, 3) := by decide +kernel
theorem dX10_isPlaceOrAny_12 : decode cX10_isPlaceOrAny 12 = .ok (.iconst 1, 1) := by decide +kernel
theorem dX10_isPlaceOrAny_13 : decode cX10_isPlaceOrAny 13 = .ok (.goto 4, 3) := by decide +kernel
theorem dX10_isPlaceOrAny_16 : decode cX10_isPlaceOrAny 16 = .ok (.iconst 0, 1) := by decide +kernel
theorem dX10_isPlaceOrAny_17 : decode cX10_isPlaceOrAny 17 = .ok (.ireturn, 1) := by decide +kernel
theorem dX10_isClockOrZero_0 : decode cX10_isClockOrZero 0 = .ok (.iload_n 0, 1) := by decide +kernel
theorem dX10_isClockOrZero_1 : decode cX10_isClockOrZero 1 = .ok (.ifCond .lt 12, 3) := by decide +kernel
theorem dX10_isClockOrZero_4 : decode cX10_isClockOrZero 4 = .ok (.iload_n 0, 1) := by decide +kernel
theorem dX10_isClockOrZero_5 : decode cX10_isClockOrZero 5 = .ok (.iconst 4, 1) := by decide +kernel
theorem dX10_isClockOrZero_6 : decode cX10_isClockOrZero 6 = .ok (.if_icmp .ge 7, 3) := by decide +kernel
theorem dX10_isClockOrZero_9 : decode cX10_isClockOrZero 9 = .ok (.iconst 1, 1) := by decide +kernel
theorem dX10_isClockOrZero_10 : decode cX10_isClockOrZero 10 = .ok (.goto 4, 3) := by decide +kernel
theorem dX10_isClockOrZero_13 : decode cX10_isClockOrZero 13 = .ok (.iconst 0, 1) := by decide +kernel
theorem dX10_isClockOrZero_14 : decode cX10_isClockOrZero 14 = .ok (.ireturn, 1) := by decide +kernel
theorem dX10_isClock_0 : decode cX10_isClock 0 = .ok (.iload_n 0, 1) := by decide +kernel
theorem dX10_isClock_1 : decode cX10_isClock 1 = .ok (.ifCond .eq 14, 3) := by decide +kernel
theorem dX10_isClock_4 : decode cX10_isClock 4 = .ok (.iload_n 0, 1) := by decide +kernel
theorem dX10_isClock_5 : decode cX10_isClock 5 = .ok (.invokestatic 120, 3) := by decide +kernel
theorem dX10_isClock_8 : decode cX10_isClock 8 = .ok (.ifCond .eq 7, 3) := by decide +kernel
theorem dX10_isClock_11 : decode cX10_isClock 11 = .ok (.iconst 1, 1) := by decide +kernel
theorem dX10_isClock_12 : decode cX10_isClock 12 = .ok (.goto 4, 3) := by decide +kernel
theorem dX10_isClock_15 : decode cX10_isClock 15 = .ok (.iconst 0, 1) := by decide +kernel
theorem dX10_isClock_16 : decode cX10_isClock 16 = .ok (.ireturn, 1) := by decide +kernel
theorem dX10_isNumber_0 : decode cX10_isNumber 0 = .ok (.iload_n 0, 1) := by decide +kernel
theorem dX10_isNumber_1 : decode cX10_isNumber 1 = .ok (.ifCond .lt 14, 3) := by decide +kernel
theorem dX10_isNumber_4 : decode cX10_isNumber 4 = .ok (.iload_n 0, 1) := by decide +kernel
theorem dX10_isNumber_5 : decode cX10_isNumber 5 = .ok (.sipush 1000, 3) := by decide +kernel
theorem dX10_isNumber_8 : decode cX10_isNumber 8 = .ok (.if_icmp .gt 7, 3) := by decide +kernel
theorem dX10_isNumber_11 : decode cX10_isNumber 11 = .ok (.iconst 1, 1) := by decide +kernel
theorem dX10_isNumber_12 : decode cX10_isNumber 12 = .ok (.goto 4, 3) := by decide +kernel
theorem dX10_isNumber_15 : decode cX10_isNumber 15 = .ok (.iconst 0, 1) := by decide +kernel
theorem dX10_isNumber_16 : decode cX10_isNumber 16 = .ok (.ireturn, 1) := by decide +kernel
theorem dX10_isAmount_0 : decode cX10_isAmount 0 = .ok (.iload_n 0, 1) := by decide +kernel
theorem dX10_isAmount_1 : decode cX10_isAmount 1 = .ok (.ifCond .lt 13, 3) := by decide +kernel
theorem dX10_isAmount_4 : decode cX10_isAmount 4 = .ok (.iload_n 0, 1) := by decide +kernel
theorem dX10_isAmount_5 : decode cX10_isAmount 5 = .ok (.ldc 172, 2) := by decide +kernel
theorem dX10_isAmount_7 : decode cX10_isAmount 7 = .ok (.if_icmp .gt 7, 3) := by decide +kernel
theorem dX10_isAmount_10 : decode cX10_isAmount 10 = .ok (.iconst 1, 1) := by decide +kernel
theorem dX10_isAmount_11 : decode cX10_isAmount 11 = .ok (.goto 4, 3) := by decide +kernel
theorem dX10_isAmount_14 : decode cX10_isAmount 14 = .ok (.iconst 0, 1) := by decide +kernel
theorem dX10_isAmount_15 : decode cX10_isAmount 15 = .ok (.ireturn, 1) := by decide +kernel
theorem dX10_forgetFindings_0 : decode cX10_forgetFindings 0 = .ok (.aload_n 0, 1) := by decide +kernel
theorem dX10_forgetFindings_1 : decode cX10_forgetFindings 1 = .ok (.getfield 19, 3) := by decide +kernel
theorem dX10_forgetFindings_4 : decode cX10_forgetFindings 4 = .ok (.iconst 1, 1) := by decide +kernel
theorem dX10_forgetFindings_5 : decode cX10_forgetFindings 5 = .ok (.putfield 102, 3) := by decide +kernel
theorem dX10_forgetFindings_8 : decode cX10_forgetFindings 8 = .ok (.aload_n 0, 1) := by decide +kernel
theorem dX10_forgetFindings_9 : decode cX10_forgetFindings 9 = .ok (.getfield 26, 3) := by decide +kernel
theorem dX10_forgetFindings_12 : decode cX10_forgetFindings 12 = .ok (.iconst 0, 1) := by decide +kernel
theorem dX10_forgetFindings_13 : decode cX10_forgetFindings 13 = .ok (.putfield 165, 3) := by decide +kernel
theorem dX10_forgetFindings_16 : decode cX10_forgetFindings 16 = .ok (.return_, 1) := by decide +kernel
theorem dX10_addTest_0 : decode cX10_addTest 0 = .ok (.aload_n 1, 1) := by decide +kernel
theorem dX10_addTest_1 : decode cX10_addTest 1 = .ok (.getfield 216, 3) := by decide +kernel
theorem dX10_addTest_4 : decode cX10_addTest 4 = .ok (.iconst 2, 1) := by decide +kernel
theorem dX10_addTest_5 : decode cX10_addTest 5 = .ok (.if_icmp .lt 6, 3) := by decide +kernel
theorem dX10_addTest_8 : decode cX10_addTest 8 = .ok (.bipush (-104), 2) := by decide +kernel
theorem dX10_addTest_10 : decode cX10_addTest 10 = .ok (.ireturn, 1) := by decide +kernel
theorem dX10_addTest_11 : decode cX10_addTest 11 = .ok (.aload_n 0, 1) := by decide +kernel
theorem dX10_addTest_12 : decode cX10_addTest 12 = .ok (.invokevirtual 55, 3) := by decide +kernel
theorem dX10_addTest_15 : decode cX10_addTest 15 = .ok (.aload_n 1, 1) := by decide +kernel
theorem dX10_addTest_16 : decode cX10_addTest 16 = .ok (.new 246, 3) := by decide +kernel
theorem dX10_addTest_19 : decode cX10_addTest 19 = .ok (.dup, 1) := by decide +kernel
theorem dX10_addTest_20 : decode cX10_addTest 20 = .ok (.iload_n 2, 1) := by decide +kernel
theorem dX10_addTest_21 : decode cX10_addTest 21 = .ok (.iload_n 3, 1) := by decide +kernel
theorem dX10_addTest_22 : decode cX10_addTest 22 = .ok (.iload 4, 2) := by decide +kernel
theorem dX10_addTest_24 : decode cX10_addTest 24 = .ok (.invokespecial 248, 3) := by decide +kernel
theorem dX10_addTest_27 : decode cX10_addTest 27 = .ok (.invokevirtual 251, 3) := by decide +kernel
theorem dX10_addTest_30 : decode cX10_addTest 30 = .ok (.aload_n 1, 1) := by decide +kernel
theorem dX10_addTest_31 : decode cX10_addTest 31 = .ok (.getfield 216, 3) := by decide +kernel
theorem dX10_addTest_34 : decode cX10_addTest 34 = .ok (.ireturn, 1) := by decide +kernel
theorem dX10_mix_0 : decode cX10_mix 0 = .ok (.ldc2_w 255, 3) := by decide +kernel
theorem dX10_mix_3 : decode cX10_mix 3 = .ok (.lload_n 0, 1) := by decide +kernel
theorem dX10_mix_4 : decode cX10_mix 4 = .ok (.lmul, 1) := by decide +kernel
theorem dX10_mix_5 : decode cX10_mix 5 = .ok (.lload_n 2, 1) := by decide +kernel
theorem dX10_mix_6 : decode cX10_mix 6 = .ok (.ladd, 1) := by decide +kernel
theorem dX10_mix_7 : decode cX10_mix 7 = .ok (.lreturn, 1) := by decide +kernel
theorem dX10_mixTests_0 : decode cX10_mixTests 0 = .ok (.lload_n 0, 1) := by decide +kernel
theorem dX10_mixTests_1 : decode cX10_mixTests 1 = .ok (.lstore_n 3, 1) := by decide +kernel
theorem dX10_mixTests_2 : decode cX10_mixTests 2 = .ok (.iconst 0, 1) := by decide +kernel
theorem dX10_mixTests_3 : decode cX10_mixTests 3 = .ok (.istore 5, 2) := by decide +kernel
theorem dX10_mixTests_5 : decode cX10_mixTests 5 = .ok (.iload 5, 2) := by decide +kernel
theorem dX10_mixTests_7 : decode cX10_mixTests 7 = .ok (.aload_n 2, 1) := by decide +kernel
theorem dX10_mixTests_8 : decode cX10_mixTests 8 = .ok (.getfield 216, 3) := by decide +kernel
theorem dX10_mixTests_11 : decode cX10_mixTests 11 = .ok (.if_icmp .ge 47, 3) := by decide +kernel
theorem dX10_mixTests_14 : decode cX10_mixTests 14 = .ok (.aload_n 2, 1) := by decide +kernel
theorem dX10_mixTests_15 : decode cX10_mixTests 15 = .ok (.getfield 257, 3) := by decide +kernel
theorem dX10_mixTests_18 : decode cX10_mixTests 18 = .ok (.iload 5, 2) := by decide +kernel
theorem dX10_mixTests_20 : decode cX10_mixTests 20 = .ok (.aaload, 1) := by decide +kernel
theorem dX10_mixTests_21 : decode cX10_mixTests 21 = .ok (.astore 6, 2) := by decide +kernel
theorem dX10_mixTests_23 : decode cX10_mixTests 23 = .ok (.lload_n 3, 1) := by decide +kernel
theorem dX10_mixTests_24 : decode cX10_mixTests 24 = .ok (.aload 6, 2) := by decide +kernel
theorem dX10_mixTests_26 : decode cX10_mixTests 26 = .ok (.getfield 261, 3) := by decide +kernel
theorem dX10_mixTests_29 : decode cX10_mixTests 29 = .ok (.i2l, 1) := by decide +kernel
theorem dX10_mixTests_30 : decode cX10_mixTests 30 = .ok (.invokestatic 264, 3) := by decide +kernel
theorem dX10_mixTests_33 : decode cX10_mixTests 33 = .ok (.aload 6, 2) := by decide +kernel
theorem dX10_mixTests_35 : decode cX10_mixTests 35 = .ok (.getfield 268, 3) := by decide +kernel
theorem dX10_mixTests_38 : decode cX10_mixTests 38 = .ok (.i2l, 1) := by decide +kernel
theorem dX10_mixTests_39 : decode cX10_mixTests 39 = .ok (.invokestatic 264, 3) := by decide +kernel
theorem dX10_mixTests_42 : decode cX10_mixTests 42 = .ok (.aload 6, 2) := by decide +kernel
theorem dX10_mixTests_44 : decode cX10_mixTests 44 = .ok (.getfield 271, 3) := by decide +kernel
theorem dX10_mixTests_47 : decode cX10_mixTests 47 = .ok (.i2l, 1) := by decide +kernel
theorem dX10_mixTests_48 : decode cX10_mixTests 48 = .ok (.invokestatic 264, 3) := by decide +kernel
theorem dX10_mixTests_51 : decode cX10_mixTests 51 = .ok (.lstore_n 3, 1) := by decide +kernel
theorem dX10_mixTests_52 : decode cX10_mixTests 52 = .ok (.iinc 5 1, 3) := by decide +kernel
theorem dX10_mixTests_55 : decode cX10_mixTests 55 = .ok (.goto (-50), 3) := by decide +kernel
theorem dX10_mixTests_58 : decode cX10_mixTests 58 = .ok (.lload_n 3, 1) := by decide +kernel
theorem dX10_mixTests_59 : decode cX10_mixTests 59 = .ok (.lreturn, 1) := by decide +kernel
theorem dX10_mixEdges_0 : decode cX10_mixEdges 0 = .ok (.lload_n 1, 1) := by decide +kernel
theorem dX10_mixEdges_1 : decode cX10_mixEdges 1 = .ok (.lstore_n 3, 1) := by decide +kernel
theorem dX10_mixEdges_2 : decode cX10_mixEdges 2 = .ok (.iconst 0, 1) := by decide +kernel
theorem dX10_mixEdges_3 : decode cX10_mixEdges 3 = .ok (.istore 5, 2) := by decide +kernel
theorem dX10_mixEdges_5 : decode cX10_mixEdges 5 = .ok (.iload 5, 2) := by decide +kernel
theorem dX10_mixEdges_7 : decode cX10_mixEdges 7 = .ok (.aload_n 0, 1) := by decide +kernel
theorem dX10_mixEdges_8 : decode cX10_mixEdges 8 = .ok (.getfield 12, 3) := by decide +kernel
theorem dX10_mixEdges_11 : decode cX10_mixEdges 11 = .ok (.getfield 51, 3) := by decide +kernel
theorem dX10_mixEdges_14 : decode cX10_mixEdges 14 = .ok (.if_icmp .ge 56, 3) := by decide +kernel
theorem dX10_mixEdges_17 : decode cX10_mixEdges 17 = .ok (.iconst 0, 1) := by decide +kernel
theorem dX10_mixEdges_18 : decode cX10_mixEdges 18 = .ok (.istore 6, 2) := by decide +kernel
theorem dX10_mixEdges_20 : decode cX10_mixEdges 20 = .ok (.iload 6, 2) := by decide +kernel
theorem dX10_mixEdges_22 : decode cX10_mixEdges 22 = .ok (.iconst 5, 1) := by decide +kernel
theorem dX10_mixEdges_23 : decode cX10_mixEdges 23 = .ok (.if_icmp .gt 23, 3) := by decide +kernel
theorem dX10_mixEdges_26 : decode cX10_mixEdges 26 = .ok (.lload_n 3, 1) := by decide +kernel
theorem dX10_mixEdges_27 : decode cX10_mixEdges 27 = .ok (.aload_n 0, 1) := by decide +kernel
theorem dX10_mixEdges_28 : decode cX10_mixEdges 28 = .ok (.iload 5, 2) := by decide +kernel
theorem dX10_mixEdges_30 : decode cX10_mixEdges 30 = .ok (.iload 6, 2) := by decide +kernel
theorem dX10_mixEdges_32 : decode cX10_mixEdges 32 = .ok (.invokevirtual 274, 3) := by decide +kernel
theorem dX10_mixEdges_35 : decode cX10_mixEdges 35 = .ok (.i2l, 1) := by decide +kernel
theorem dX10_mixEdges_36 : decode cX10_mixEdges 36 = .ok (.invokestatic 264, 3) := by decide +kernel
theorem dX10_mixEdges_39 : decode cX10_mixEdges 39 = .ok (.lstore_n 3, 1) := by decide +kernel
theorem dX10_mixEdges_40 : decode cX10_mixEdges 40 = .ok (.iinc 6 1, 3) := by decide +kernel
theorem dX10_mixEdges_43 : decode cX10_mixEdges 43 = .ok (.goto (-23), 3) := by decide +kernel
theorem dX10_mixEdges_46 : decode cX10_mixEdges 46 = .ok (.lload_n 3, 1) := by decide +kernel
theorem dX10_mixEdges_47 : decode cX10_mixEdges 47 = .ok (.aload_n 0, 1) := by decide +kernel
theorem dX10_mixEdges_48 : decode cX10_mixEdges 48 = .ok (.getfield 12, 3) := by decide +kernel
theorem dX10_mixEdges_51 : decode cX10_mixEdges 51 = .ok (.getfield 76, 3) := by decide +kernel
theorem dX10_mixEdges_54 : decode cX10_mixEdges 54 = .ok (.iload 5, 2) := by decide +kernel
theorem dX10_mixEdges_56 : decode cX10_mixEdges 56 = .ok (.aaload, 1) := by decide +kernel
theorem dX10_mixEdges_57 : decode cX10_mixEdges 57 = .ok (.getfield 80, 3) := by decide +kernel
theorem dX10_mixEdges_60 : decode cX10_mixEdges 60 = .ok (.invokestatic 277, 3) := by decide +kernel
theorem dX10_mixEdges_63 : decode cX10_mixEdges 63 = .ok (.lstore_n 3, 1) := by decide +kernel
theorem dX10_mixEdges_64 : decode cX10_mixEdges 64 = .ok (.iinc 5 1, 3) := by decide +kernel
theorem dX10_mixEdges_67 : decode cX10_mixEdges 67 = .ok (.goto (-62), 3) := by decide +kernel
theorem dX10_mixEdges_70 : decode cX10_mixEdges 70 = .ok (.lload_n 3, 1) := by decide +kernel
theorem dX10_mixEdges_71 : decode cX10_mixEdges 71 = .ok (.lreturn, 1) := by decide +kernel
theorem dX10_mixLimits_0 : decode cX10_mixLimits 0 = .ok (.lload_n 1, 1) := by decide +kernel
theorem dX10_mixLimits_1 : decode cX10_mixLimits 1 = .ok (.lstore_n 3, 1) := by decide +kernel
theorem dX10_mixLimits_2 : decode cX10_mixLimits 2 = .ok (.iconst 0, 1) := by decide +kernel
theorem dX10_mixLimits_3 : decode cX10_mixLimits 3 = .ok (.istore 5, 2) := by decide +kernel
theorem dX10_mixLimits_5 : decode cX10_mixLimits 5 = .ok (.iload 5, 2) := by decide +kernel
theorem dX10_mixLimits_7 : decode cX10_mixLimits 7 = .ok (.iconst 3, 1) := by decide +kernel
theorem dX10_mixLimits_8 : decode cX10_mixLimits 8 = .ok (.if_icmp .ge 54, 3) := by decide +kernel
theorem dX10_mixLimits_11 : decode cX10_mixLimits 11 = .ok (.iconst 0, 1) := by decide +kernel
theorem dX10_mixLimits_12 : decode cX10_mixLimits 12 = .ok (.istore 6, 2) := by decide +kernel
theorem dX10_mixLimits_14 : decode cX10_mixLimits 14 = .ok (.iload 6, 2) := by decide +kernel
theorem dX10_mixLimits_16 : decode cX10_mixLimits 16 = .ok (.bipush 6, 2) := by decide +kernel
theorem dX10_mixLimits_18 : decode cX10_mixLimits 18 = .ok (.if_icmp .ge 38, 3) := by decide +kernel
theorem dX10_mixLimits_21 : decode cX10_mixLimits 21 = .ok (.aload_n 0, 1) := by decide +kernel
theorem dX10_mixLimits_22 : decode cX10_mixLimits 22 = .ok (.getfield 12, 3) := by decide +kernel
theorem dX10_mixLimits_25 : decode cX10_mixLimits 25 = .ok (.iload 5, 2) := by decide +kernel
theorem dX10_mixLimits_27 : decode cX10_mixLimits 27 = .ok (.iload 6, 2) := by decide +kernel
theorem dX10_mixLimits_29 : decode cX10_mixLimits 29 = .ok (.invokevirtual 88, 3) := by decide +kernel
theorem dX10_mixLimits_32 : decode cX10_mixLimits 32 = .ok (.astore 7, 2) := by decide +kernel
theorem dX10_mixLimits_34 : decode cX10_mixLimits 34 = .ok (.lload_n 3, 1) := by decide +kernel
theorem dX10_mixLimits_35 : decode cX10_mixLimits 35 = .ok (.aload 7, 2) := by decide +kernel
theorem dX10_mixLimits_37 : decode cX10_mixLimits 37 = .ok (.getfield 216, 3) := by decide +kernel
theorem dX10_mixLimits_40 : decode cX10_mixLimits 40 = .ok (.i2l, 1) := by decide +kernel
theorem dX10_mixLimits_41 : decode cX10_mixLimits 41 = .ok (.invokestatic 264, 3) := by decide +kernel
theorem dX10_mixLimits_44 : decode cX10_mixLimits 44 = .ok (.aload 7, 2) := by decide +kernel
theorem dX10_mixLimits_46 : decode cX10_mixLimits 46 = .ok (.invokestatic 277, 3) := by decide +kernel
theorem dX10_mixLimits_49 : decode cX10_mixLimits 49 = .ok (.lstore_n 3, 1) := by decide +kernel
theorem dX10_mixLimits_50 : decode cX10_mixLimits 50 = .ok (.iinc 6 1, 3) := by decide +kernel
theorem dX10_mixLimits_53 : decode cX10_mixLimits 53 = .ok (.goto (-39), 3) := by decide +kernel
theorem dX10_mixLimits_56 : decode cX10_mixLimits 56 = .ok (.iinc 5 1, 3) := by decide +kernel
theorem dX10_mixLimits_59 : decode cX10_mixLimits 59 = .ok (.goto (-54), 3) := by decide +kernel
theorem dX10_mixLimits_62 : decode cX10_mixLimits 62 = .ok (.lload_n 3, 1) := by decide +kernel
theorem dX10_mixLimits_63 : decode cX10_mixLimits 63 = .ok (.lreturn, 1) := by decide +kernel
theorem dX10_mixStates_0 : decode cX10_mixStates 0 = .ok (.lload_n 1, 1) := by decide +kernel
theorem dX10_mixStates_1 : decode cX10_mixStates 1 = .ok (.lstore_n 3, 1) := by decide +kernel
theorem dX10_mixStates_2 : decode cX10_mixStates 2 = .ok (.iconst 0, 1) := by decide +kernel
theorem dX10_mixStates_3 : decode cX10_mixStates 3 = .ok (.istore 5, 2) := by decide +kernel
theorem dX10_mixStates_5 : decode cX10_mixStates 5 = .ok (.iload 5, 2) := by decide +kernel
theorem dX10_mixStates_7 : decode cX10_mixStates 7 = .ok (.aload_n 0, 1) := by decide +kernel
theorem dX10_mixStates_8 : decode cX10_mixStates 8 = .ok (.getfield 19, 3) := by decide +kernel
theorem dX10_mixStates_11 : decode cX10_mixStates 11 = .ok (.getfield 106, 3) := by decide +kernel
theorem dX10_mixStates_14 : decode cX10_mixStates 14 = .ok (.getfield 227, 3) := by decide +kernel
theorem dX10_mixStates_17 : decode cX10_mixStates 17 = .ok (.if_icmp .ge 85, 3) := by decide +kernel
theorem dX10_mixStates_20 : decode cX10_mixStates 20 = .ok (.iconst 0, 1) := by decide +kernel
theorem dX10_mixStates_21 : decode cX10_mixStates 21 = .ok (.istore 6, 2) := by decide +kernel
theorem dX10_mixStates_23 : decode cX10_mixStates 23 = .ok (.iload 6, 2) := by decide +kernel
theorem dX10_mixStates_25 : decode cX10_mixStates 25 = .ok (.bipush 7, 2) := by decide +kernel
theorem dX10_mixStates_27 : decode cX10_mixStates 27 = .ok (.if_icmp .ge 23, 3) := by decide +kernel
theorem dX10_mixStates_30 : decode cX10_mixStates 30 = .ok (.lload_n 3, 1) := by decide +kernel
theorem dX10_mixStates_31 : decode cX10_mixStates 31 = .ok (.aload_n 0, 1) := by decide +kernel
theorem dX10_mixStates_32 : decode cX10_mixStates 32 = .ok (.iload 5, 2) := by decide +kernel
theorem dX10_mixStates_34 : decode cX10_mixStates 34 = .ok (.iload 6, 2) := by decide +kernel
theorem dX10_mixStates_36 : decode cX10_mixStates 36 = .ok (.invokevirtual 281, 3) := by decide +kernel
theorem dX10_mixStates_39 : decode cX10_mixStates 39 = .ok (.i2l, 1) := by decide +kernel
theorem dX10_mixStates_40 : decode cX10_mixStates 40 = .ok (.invokestatic 264, 3) := by decide +kernel
theorem dX10_mixStates_43 : decode cX10_mixStates 43 = .ok (.lstore_n 3, 1) := by decide +kernel
theorem dX10_mixStates_44 : decode cX10_mixStates 44 = .ok (.iinc 6 1, 3) := by decide +kernel
theorem dX10_mixStates_47 : decode cX10_mixStates 47 = .ok (.goto (-24), 3) := by decide +kernel
theorem dX10_mixStates_50 : decode cX10_mixStates 50 = .ok (.iconst 0, 1) := by decide +kernel
theorem dX10_mixStates_51 : decode cX10_mixStates 51 = .ok (.istore 6, 2) := by decide +kernel
theorem dX10_mixStates_53 : decode cX10_mixStates 53 = .ok (.iload 6, 2) := by decide +kernel
theorem dX10_mixStates_55 : decode cX10_mixStates 55 = .ok (.iconst 4, 1) := by decide +kernel
theorem dX10_mixStates_56 : decode cX10_mixStates 56 = .ok (.if_icmp .ge 40, 3) := by decide +kernel
theorem dX10_mixStates_59 : decode cX10_mixStates 59 = .ok (.iconst 0, 1) := by decide +kernel
theorem dX10_mixStates_60 : decode cX10_mixStates 60 = .ok (.istore 7, 2) := by decide +kernel
theorem dX10_mixStates_62 : decode cX10_mixStates 62 = .ok (.iload 7, 2) := by decide +kernel
theorem dX10_mixStates_64 : decode cX10_mixStates 64 = .ok (.iconst 4, 1) := by decide +kernel
theorem dX10_mixStates_65 : decode cX10_mixStates 65 = .ok (.if_icmp .ge 25, 3) := by decide +kernel
theorem dX10_mixStates_68 : decode cX10_mixStates 68 = .ok (.lload_n 3, 1) := by decide +kernel
theorem dX10_mixStates_69 : decode cX10_mixStates 69 = .ok (.aload_n 0, 1) := by decide +kernel
theorem dX10_mixStates_70 : decode cX10_mixStates 70 = .ok (.iload 5, 2) := by decide +kernel
theorem dX10_mixStates_72 : decode cX10_mixStates 72 = .ok (.iload 6, 2) := by decide +kernel
theorem dX10_mixStates_74 : decode cX10_mixStates 74 = .ok (.iload 7, 2) := by decide +kernel
theorem dX10_mixStates_76 : decode cX10_mixStates 76 = .ok (.invokevirtual 284, 3) := by decide +kernel
theorem dX10_mixStates_79 : decode cX10_mixStates 79 = .ok (.i2l, 1) := by decide +kernel
theorem dX10_mixStates_80 : decode cX10_mixStates 80 = .ok (.invokestatic 264, 3) := by decide +kernel
theorem dX10_mixStates_83 : decode cX10_mixStates 83 = .ok (.lstore_n 3, 1) := by decide +kernel
theorem dX10_mixStates_84 : decode cX10_mixStates 84 = .ok (.iinc 7 1, 3) := by decide +kernel
theorem dX10_mixStates_87 : decode cX10_mixStates 87 = .ok (.goto (-25), 3) := by decide +kernel
theorem dX10_mixStates_90 : decode cX10_mixStates 90 = .ok (.iinc 6 1, 3) := by decide +kernel
theorem dX10_mixStates_93 : decode cX10_mixStates 93 = .ok (.goto (-40), 3) := by decide +kernel
theorem dX10_mixStates_96 : decode cX10_mixStates 96 = .ok (.iinc 5 1, 3) := by decide +kernel
theorem dX10_mixStates_99 : decode cX10_mixStates 99 = .ok (.goto (-94), 3) := by decide +kernel
theorem dX10_mixStates_102 : decode cX10_mixStates 102 = .ok (.lload_n 3, 1) := by decide +kernel
theorem dX10_mixStates_103 : decode cX10_mixStates 103 = .ok (.lreturn, 1) := by decide +kernel
theorem dX10_mixWalk_0 : decode cX10_mixWalk 0 = .ok (.lload_n 1, 1) := by decide +kernel
theorem dX10_mixWalk_1 : decode cX10_mixWalk 1 = .ok (.aload_n 0, 1) := by decide +kernel
theorem dX10_mixWalk_2 : decode cX10_mixWalk 2 = .ok (.getfield 26, 3) := by decide +kernel
theorem dX10_mixWalk_5 : decode cX10_mixWalk 5 = .ok (.getfield 165, 3) := by decide +kernel
theorem dX10_mixWalk_8 : decode cX10_mixWalk 8 = .ok (.ifCond .eq 7, 3) := by decide +kernel
theorem dX10_mixWalk_11 : decode cX10_mixWalk 11 = .ok (.lconst 1, 1) := by decide +kernel
theorem dX10_mixWalk_12 : decode cX10_mixWalk 12 = .ok (.goto 4, 3) := by decide +kernel
theorem dX10_mixWalk_15 : decode cX10_mixWalk 15 = .ok (.lconst 0, 1) := by decide +kernel
theorem dX10_mixWalk_16 : decode cX10_mixWalk 16 = .ok (.invokestatic 264, 3) := by decide +kernel
theorem dX10_mixWalk_19 : decode cX10_mixWalk 19 = .ok (.lstore_n 3, 1) := by decide +kernel
theorem dX10_mixWalk_20 : decode cX10_mixWalk 20 = .ok (.iconst 0, 1) := by decide +kernel
theorem dX10_mixWalk_21 : decode cX10_mixWalk 21 = .ok (.istore 5, 2) := by decide +kernel
theorem dX10_mixWalk_23 : decode cX10_mixWalk 23 = .ok (.iload 5, 2) := by decide +kernel
theorem dX10_mixWalk_25 : decode cX10_mixWalk 25 = .ok (.bipush 8, 2) := by decide +kernel
theorem dX10_mixWalk_27 : decode cX10_mixWalk 27 = .ok (.if_icmp .gt 27, 3) := by decide +kernel
theorem dX10_mixWalk_30 : decode cX10_mixWalk 30 = .ok (.iload 5, 2) := by decide +kernel
theorem dX10_mixWalk_32 : decode cX10_mixWalk 32 = .ok (.iconst 3, 1) := by decide +kernel
theorem dX10_mixWalk_33 : decode cX10_mixWalk 33 = .ok (.if_icmp .eq 15, 3) := by decide +kernel
theorem dX10_mixWalk_36 : decode cX10_mixWalk 36 = .ok (.lload_n 3, 1) := by decide +kernel
theorem dX10_mixWalk_37 : decode cX10_mixWalk 37 = .ok (.aload_n 0, 1) := by decide +kernel
theorem dX10_mixWalk_38 : decode cX10_mixWalk 38 = .ok (.iload 5, 2) := by decide +kernel
theorem dX10_mixWalk_40 : decode cX10_mixWalk 40 = .ok (.invokevirtual 287, 3) := by decide +kernel
theorem dX10_mixWalk_43 : decode cX10_mixWalk 43 = .ok (.i2l, 1) := by decide +kernel
theorem dX10_mixWalk_44 : decode cX10_mixWalk 44 = .ok (.invokestatic 264, 3) := by decide +kernel
theorem dX10_mixWalk_47 : decode cX10_mixWalk 47 = .ok (.lstore_n 3, 1) := by decide +kernel
theorem dX10_mixWalk_48 : decode cX10_mixWalk 48 = .ok (.iinc 5 1, 3) := by decide +kernel
theorem dX10_mixWalk_51 : decode cX10_mixWalk 51 = .ok (.goto (-28), 3) := by decide +kernel
theorem dX10_mixWalk_54 : decode cX10_mixWalk 54 = .ok (.lload_n 3, 1) := by decide +kernel
theorem dX10_mixWalk_55 : decode cX10_mixWalk 55 = .ok (.lreturn, 1) := by decide +kernel
theorem dJ9_max_7cf53_0 : decode cJ9_max_7cf53 0 = .ok (.iload_n 0, 1) := by decide +kernel
theorem dJ9_max_7cf53_1 : decode cJ9_max_7cf53 1 = .ok (.iload_n 1, 1) := by decide +kernel
theorem dJ9_max_7cf53_2 : decode cJ9_max_7cf53 2 = .ok (.if_icmp .lt 7, 3) := by decide +kernel
theorem dJ9_max_7cf53_5 : decode cJ9_max_7cf53 5 = .ok (.iload_n 0, 1) := by decide +kernel
theorem dJ9_max_7cf53_6 : decode cJ9_max_7cf53 6 = .ok (.goto 4, 3) := by decide +kernel
theorem dJ9_max_7cf53_9 : decode cJ9_max_7cf53 9 = .ok (.iload_n 1, 1) := by decide +kernel
theorem dJ9_max_7cf53_10 : decode cJ9_max_7cf53 10 = .ok (.ireturn, 1) := by decide +kernel
theorem dJ9_min_7cf53_0 : decode cJ9_min_7cf53 0 = .ok (.iload_n 0, 1) := by decide +kernel
theorem dJ9_min_7cf53_1 : decode cJ9_min_7cf53 1 = .ok (.iload_n 1, 1) := by decide +kernel
theorem dJ9_min_7cf53_2 : decode cJ9_min_7cf53 2 = .ok (.if_icmp .gt 7, 3) := by decide +kernel
theorem dJ9_min_7cf53_5 : decode cJ9_min_7cf53 5 = .ok (.iload_n 0, 1) := by decide +kernel
theorem dJ9_min_7cf53_6 : decode cJ9_min_7cf53 6 = .ok (.goto 4, 3) := by decide +kernel
theorem dJ9_min_7cf53_9 : decode cJ9_min_7cf53 9 = .ok (.iload_n 1, 1) := by decide +kernel
theorem dJ9_min_7cf53_10 : decode cJ9_min_7cf53 10 = .ok (.ireturn, 1) := by decide +kernel
theorem dJ7_fill_53178_0 : decode cJ7_fill_53178 0 = .ok (.iconst 0, 1) := by decide +kernel
theorem dJ7_fill_53178_1 : decode cJ7_fill_53178 1 = .ok (.istore_n 2, 1) := by decide +kernel
theorem dJ7_fill_53178_2 : decode cJ7_fill_53178 2 = .ok (.aload_n 0, 1) := by decide +kernel
theorem dJ7_fill_53178_3 : decode cJ7_fill_53178 3 = .ok (.arraylength, 1) := by decide +kernel
theorem dJ7_fill_53178_4 : decode cJ7_fill_53178 4 = .ok (.istore_n 3, 1) := by decide +kernel
theorem dJ7_fill_53178_5 : decode cJ7_fill_53178 5 = .ok (.iload_n 2, 1) := by decide +kernel
theorem dJ7_fill_53178_6 : decode cJ7_fill_53178 6 = .ok (.iload_n 3, 1) := by decide +kernel
theorem dJ7_fill_53178_7 : decode cJ7_fill_53178 7 = .ok (.if_icmp .ge 13, 3) := by decide +kernel
theorem dJ7_fill_53178_10 : decode cJ7_fill_53178 10 = .ok (.aload_n 0, 1) := by decide +kernel
theorem dJ7_fill_53178_11 : decode cJ7_fill_53178 11 = .ok (.iload_n 2, 1) := by decide +kernel
theorem dJ7_fill_53178_12 : decode cJ7_fill_53178 12 = .ok (.iload_n 1, 1) := by decide +kernel
theorem dJ7_fill_53178_13 : decode cJ7_fill_53178 13 = .ok (.iastore, 1) := by decide +kernel
theorem dJ7_fill_53178_14 : decode cJ7_fill_53178 14 = .ok (.iinc 2 1, 3) := by decide +kernel
theorem dJ7_fill_53178_17 : decode cJ7_fill_53178 17 = .ok (.goto (-12), 3) := by decide +kernel
theorem dJ7_fill_53178_20 : decode cJ7_fill_53178 20 = .ok (.return_, 1) := by decide +kernel
theorem dL_law_0 : decode cL_law 0 = .ok (.new 7, 3) := by decide +kernel
theorem dL_law_3 : decode cL_law 3 = .ok (.dup, 1) := by decide +kernel
theorem dL_law_4 : decode cL_law 4 = .ok (.invokespecial 9, 3) := by decide +kernel
theorem dL_law_7 : decode cL_law 7 = .ok (.astore_n 1, 1) := by decide +kernel
theorem dL_law_8 : decode cL_law 8 = .ok (.new 10, 3) := by decide +kernel
theorem dL_law_11 : decode cL_law 11 = .ok (.dup, 1) := by decide +kernel
theorem dL_law_12 : decode cL_law 12 = .ok (.invokespecial 12, 3) := by decide +kernel
theorem dL_law_15 : decode cL_law 15 = .ok (.astore_n 2, 1) := by decide +kernel
theorem dL_law_16 : decode cL_law 16 = .ok (.iconst 0, 1) := by decide +kernel
theorem dL_law_17 : decode cL_law 17 = .ok (.istore_n 3, 1) := by decide +kernel
theorem dL_law_18 : decode cL_law 18 = .ok (.iload_n 3, 1) := by decide +kernel
theorem dL_law_19 : decode cL_law 19 = .ok (.aload_n 0, 1) := by decide +kernel
theorem dL_law_20 : decode cL_law 20 = .ok (.arraylength, 1) := by decide +kernel
theorem dL_law_21 : decode cL_law 21 = .ok (.bipush 6, 2) := by decide +kernel
theorem dL_law_23 : decode cL_law 23 = .ok (.isub, 1) := by decide +kernel
theorem dL_law_24 : decode cL_law 24 = .ok (.if_icmp .gt 770, 3) := by decide +kernel
theorem dL_law_27 : decode cL_law 27 = .ok (.aload_n 0, 1) := by decide +kernel
theorem dL_law_28 : decode cL_law 28 = .ok (.iload_n 3, 1) := by decide +kernel
theorem dL_law_29 : decode cL_law 29 = .ok (.iaload, 1) := by decide +kernel
theorem dL_law_30 : decode cL_law 30 = .ok (.bipush 31, 2) := by decide +kernel
theorem dL_law_32 : decode cL_law 32 = .ok (.iand, 1) := by decide +kernel
theorem dL_law_33 : decode cL_law 33 = .ok (.tableswitch 755 0 19 #[95, 158, 211, 274, 287, 310, 343, 386, 429, 482, 525, 558, 581, 594, 617, 650, 673, 686, 719, 742], 95) := by decide +kernel
theorem dL_law_128 : decode cL_law 128 = .ok (.aload_n 1, 1) := by decide +kernel
theorem dL_law_129 : decode cL_law 129 = .ok (.aload_n 0, 1) := by decide +kernel
theorem dL_law_130 : decode cL_law 130 = .ok (.iload_n 3, 1) := by decide +kernel
theorem dL_law_131 : decode cL_law 131 = .ok (.iconst 1, 1) := by decide +kernel
theorem dL_law_132 : decode cL_law 132 = .ok (.iadd, 1) := by decide +kernel
theorem dL_law_133 : decode cL_law 133 = .ok (.iaload, 1) := by decide +kernel
theorem dL_law_134 : decode cL_law 134 = .ok (.aload_n 0, 1) := by decide +kernel
theorem dL_law_135 : decode cL_law 135 = .ok (.iload_n 3, 1) := by decide +kernel
theorem dL_law_136 : decode cL_law 136 = .ok (.iconst 2, 1) := by decide +kernel
theorem dL_law_137 : decode cL_law 137 = .ok (.iadd, 1) := by decide +kernel
theorem dL_law_138 : decode cL_law 138 = .ok (.iaload, 1) := by decide +kernel
theorem dL_law_139 : decode cL_law 139 = .ok (.aload_n 0, 1) := by decide +kernel
theorem dL_law_140 : decode cL_law 140 = .ok (.iload_n 3, 1) := by decide +kernel
theorem dL_law_141 : decode cL_law 141 = .ok (.iconst 3, 1) := by decide +kernel
theorem dL_law_142 : decode cL_law 142 = .ok (.iadd, 1) := by decide +kernel
theorem dL_law_143 : decode cL_law 143 = .ok (.iaload, 1) := by decide +kernel
theorem dL_law_144 : decode cL_law 144 = .ok (.aload_n 0, 1) := by decide +kernel
theorem dL_law_145 : decode cL_law 145 = .ok (.iload_n 3, 1) := by decide +kernel
theorem dL_law_146 : decode cL_law 146 = .ok (.iconst 4, 1) := by decide +kernel
theorem dL_law_147 : decode cL_law 147 = .ok (.iadd, 1) := by decide +kernel
theorem dL_law_148 : decode cL_law 148 = .ok (.iaload, 1) := by decide +kernel
theorem dL_law_149 : decode cL_law 149 = .ok (.aload_n 0, 1) := by decide +kernel
theorem dL_law_150 : decode cL_law 150 = .ok (.iload_n 3, 1) := by decide +kernel
theorem dL_law_151 : decode cL_law 151 = .ok (.iconst 5, 1) := by decide +kernel
theorem dL_law_152 : decode cL_law 152 = .ok (.iadd, 1) := by decide +kernel
theorem dL_law_153 : decode cL_law 153 = .ok (.iaload, 1) := by decide +kernel
theorem dL_law_154 : decode cL_law 154 = .ok (.invokevirtual 13, 3) := by decide +kernel
theorem dL_law_157 : decode cL_law 157 = .ok (.aload_n 2, 1) := by decide +kernel
theorem dL_law_158 : decode cL_law 158 = .ok (.aload_n 0, 1) := by decide +kernel
theorem dL_law_159 : decode cL_law 159 = .ok (.iload_n 3, 1) := by decide +kernel
theorem dL_law_160 : decode cL_law 160 = .ok (.iconst 1, 1) := by decide +kernel
theorem dL_law_161 : decode cL_law 161 = .ok (.iadd, 1) := by decide +kernel
theorem dL_law_162 : decode cL_law 162 = .ok (.iaload, 1) := by decide +kernel
theorem dL_law_163 : decode cL_law 163 = .ok (.aload_n 0, 1) := by decide +kernel
theorem dL_law_164 : decode cL_law 164 = .ok (.iload_n 3, 1) := by decide +kernel
theorem dL_law_165 : decode cL_law 165 = .ok (.iconst 2, 1) := by decide +kernel
theorem dL_law_166 : decode cL_law 166 = .ok (.iadd, 1) := by decide +kernel
theorem dL_law_167 : decode cL_law 167 = .ok (.iaload, 1) := by decide +kernel
theorem dL_law_168 : decode cL_law 168 = .ok (.aload_n 0, 1) := by decide +kernel
theorem dL_law_169 : decode cL_law 169 = .ok (.iload_n 3, 1) := by decide +kernel
theorem dL_law_170 : decode cL_law 170 = .ok (.iconst 3, 1) := by decide +kernel
theorem dL_law_171 : decode cL_law 171 = .ok (.iadd, 1) := by decide +kernel
theorem dL_law_172 : decode cL_law 172 = .ok (.iaload, 1) := by decide +kernel
theorem dL_law_173 : decode cL_law 173 = .ok (.aload_n 0, 1) := by decide +kernel
theorem dL_law_174 : decode cL_law 174 = .ok (.iload_n 3, 1) := by decide +kernel
theorem dL_law_175 : decode cL_law 175 = .ok (.iconst 4, 1) := by decide +kernel
theorem dL_law_176 : decode cL_law 176 = .ok (.iadd, 1) := by decide +kernel
theorem dL_law_177 : decode cL_law 177 = .ok (.iaload, 1) := by decide +kernel
theorem dL_law_178 : decode cL_law 178 = .ok (.aload_n 0, 1) := by decide +kernel
theorem dL_law_179 : decode cL_law 179 = .ok (.iload_n 3, 1) := by decide +kernel
theorem dL_law_180 : decode cL_law 180 = .ok (.iconst 5, 1) := by decide +kernel
theorem dL_law_181 : decode cL_law 181 = .ok (.iadd, 1) := by decide +kernel
theorem dL_law_182 : decode cL_law 182 = .ok (.iaload, 1) := by decide +kernel
theorem dL_law_183 : decode cL_law 183 = .ok (.invokevirtual 17, 3) := by decide +kernel
theorem dL_law_186 : decode cL_law 186 = .ok (.if_icmp .eq 602, 3) := by decide +kernel
theorem dL_law_189 : decode cL_law 189 = .ok (.iconst 0, 1) := by decide +kernel
theorem dL_law_190 : decode cL_law 190 = .ok (.ireturn, 1) := by decide +kernel
theorem dL_law_191 : decode cL_law 191 = .ok (.aload_n 1, 1) := by decide +kernel
theorem dL_law_192 : decode cL_law 192 = .ok (.aload_n 0, 1) := by decide +kernel
theorem dL_law_193 : decode cL_law 193 = .ok (.iload_n 3, 1) := by decide +kernel
theorem dL_law_194 : decode cL_law 194 = .ok (.iconst 1, 1) := by decide +kernel
theorem dL_law_195 : decode cL_law 195 = .ok (.iadd, 1) := by decide +kernel
theorem dL_law_196 : decode cL_law 196 = .ok (.iaload, 1) := by decide +kernel
theorem dL_law_197 : decode cL_law 197 = .ok (.aload_n 0, 1) := by decide +kernel
theorem dL_law_198 : decode cL_law 198 = .ok (.iload_n 3, 1) := by decide +kernel
theorem dL_law_199 : decode cL_law 199 = .ok (.iconst 2, 1) := by decide +kernel
theorem dL_law_200 : decode cL_law 200 = .ok (.iadd, 1) := by decide +kernel
theorem dL_law_201 : decode cL_law 201 = .ok (.iaload, 1) := by decide +kernel
theorem dL_law_202 : decode cL_law 202 = .ok (.aload_n 0, 1) := by decide +kernel
theorem dL_law_203 : decode cL_law 203 = .ok (.iload_n 3, 1) := by decide +kernel
theorem dL_law_204 : decode cL_law 204 = .ok (.iconst 3, 1) := by decide +kernel
theorem dL_law_205 : decode cL_law 205 = .ok (.iadd, 1) := by decide +kernel
theorem dL_law_206 : decode cL_law 206 = .ok (.iaload, 1) := by decide +kernel
theorem dL_law_207 : decode cL_law 207 = .ok (.aload_n 0, 1) := by decide +kernel
theorem dL_law_208 : decode cL_law 208 = .ok (.iload_n 3, 1) := by decide +kernel
theorem dL_law_209 : decode cL_law 209 = .ok (.iconst 4, 1) := by decide +kernel
theorem dL_law_210 : decode cL_law 210 = .ok (.iadd, 1) := by decide +kernel
theorem dL_law_211 : decode cL_law 211 = .ok (.iaload, 1) := by decide +kernel
theorem dL_law_212 : decode cL_law 212 = .ok (.invokevirtual 18, 3) := by decide +kernel
theorem dL_law_215 : decode cL_law 215 = .ok (.pop, 1) := by decide +kernel
theorem dL_law_216 : decode cL_law 216 = .ok (.aload_n 2, 1) := by decide +kernel
theorem dL_law_217 : decode cL_law 217 = .ok (.aload_n 0, 1) := by decide +kernel
theorem dL_law_218 : decode cL_law 218 = .ok (.iload_n 3, 1) := by decide +kernel
theorem dL_law_219 : decode cL_law 219 = .ok (.iconst 1, 1) := by decide +kernel
theorem dL_law_220 : decode cL_law 220 = .ok (.iadd, 1) := by decide +kernel
theorem dL_law_221 : decode cL_law 221 = .ok (.iaload, 1) := by decide +kernel
theorem dL_law_222 : decode cL_law 222 = .ok (.aload_n 0, 1) := by decide +kernel
theorem dL_law_223 : decode cL_law 223 = .ok (.iload_n 3, 1) := by decide +kernel
theorem dL_law_224 : decode cL_law 224 = .ok (.iconst 2, 1) := by decide +kernel
theorem dL_law_225 : decode cL_law 225 = .ok (.iadd, 1) := by decide +kernel
theorem dL_law_226 : decode cL_law 226 = .ok (.iaload, 1) := by decide +kernel
theorem dL_law_227 : decode cL_law 227 = .ok (.aload_n 0, 1) := by decide +kernel
theorem dL_law_228 : decode cL_law 228 = .ok (.iload_n 3, 1) := by decide +kernel
theorem dL_law_229 : decode cL_law 229 = .ok (.iconst 3, 1) := by decide +kernel
theorem dL_law_230 : decode cL_law 230 = .ok (.iadd, 1) := by decide +kernel
theorem dL_law_231 : decode cL_law 231 = .ok (.iaload, 1) := by decide +kernel
theorem dL_law_232 : decode cL_law 232 = .ok (.aload_n 0, 1) := by decide +kernel
theorem dL_law_233 : decode cL_law 233 = .ok (.iload_n 3, 1) := by decide +kernel
theorem dL_law_234 : decode cL_law 234 = .ok (.iconst 4, 1) := by decide +kernel
theorem dL_law_235 : decode cL_law 235 = .ok (.iadd, 1) := by decide +kernel
theorem dL_law_236 : decode cL_law 236 = .ok (.iaload, 1) := by decide +kernel
theorem dL_law_237 : decode cL_law 237 = .ok (.invokevirtual 22, 3) := by decide +kernel
theorem dL_law_240 : decode cL_law 240 = .ok (.pop, 1) := by decide +kernel
theorem dL_law_241 : decode cL_law 241 = .ok (.goto 547, 3) := by decide +kernel
theorem dL_law_244 : decode cL_law 244 = .ok (.aload_n 1, 1) := by decide +kernel
theorem dL_law_245 : decode cL_law 245 = .ok (.aload_n 0, 1) := by decide +kernel
theorem dL_law_246 : decode cL_law 246 = .ok (.iload_n 3, 1) := by decide +kernel
theorem dL_law_247 : decode cL_law 247 = .ok (.iconst 1, 1) := by decide +kernel
theorem dL_law_248 : decode cL_law 248 = .ok (.iadd, 1) := by decide +kernel
theorem dL_law_249 : decode cL_law 249 = .ok (.iaload, 1) := by decide +kernel
theorem dL_law_250 : decode cL_law 250 = .ok (.aload_n 0, 1) := by decide +kernel
theorem dL_law_251 : decode cL_law 251 = .ok (.iload_n 3, 1) := by decide +kernel
theorem dL_law_252 : decode cL_law 252 = .ok (.iconst 2, 1) := by decide +kernel
theorem dL_law_253 : decode cL_law 253 = .ok (.iadd, 1) := by decide +kernel
theorem dL_law_254 : decode cL_law 254 = .ok (.iaload, 1) := by decide +kernel
theorem dL_law_255 : decode cL_law 255 = .ok (.aload_n 0, 1) := by decide +kernel
theorem dL_law_256 : decode cL_law 256 = .ok (.iload_n 3, 1) := by decide +kernel
theorem dL_law_257 : decode cL_law 257 = .ok (.iconst 3, 1) := by decide +kernel
theorem dL_law_258 : decode cL_law 258 = .ok (.iadd, 1) := by decide +kernel
theorem dL_law_259 : decode cL_law 259 = .ok (.iaload, 1) := by decide +kernel
theorem dL_law_260 : decode cL_law 260 = .ok (.aload_n 0, 1) := by decide +kernel
theorem dL_law_261 : decode cL_law 261 = .ok (.iload_n 3, 1) := by decide +kernel
theorem dL_law_262 : decode cL_law 262 = .ok (.iconst 4, 1) := by decide +kernel
theorem dL_law_263 : decode cL_law 263 = .ok (.iadd, 1) := by decide +kernel
theorem dL_law_264 : decode cL_law 264 = .ok (.iaload, 1) := by decide +kernel
theorem dL_law_265 : decode cL_law 265 = .ok (.aload_n 0, 1) := by decide +kernel
theorem dL_law_266 : decode cL_law 266 = .ok (.iload_n 3, 1) := by decide +kernel
theorem dL_law_267 : decode cL_law 267 = .ok (.iconst 5, 1) := by decide +kernel
theorem dL_law_268 : decode cL_law 268 = .ok (.iadd, 1) := by decide +kernel
theorem dL_law_269 : decode cL_law 269 = .ok (.iaload, 1) := by decide +kernel
theorem dL_law_270 : decode cL_law 270 = .ok (.invokevirtual 23, 3) := by decide +kernel
theorem dL_law_273 : decode cL_law 273 = .ok (.pop, 1) := by decide +kernel
theorem dL_law_274 : decode cL_law 274 = .ok (.aload_n 2, 1) := by decide +kernel
theorem dL_law_275 : decode cL_law 275 = .ok (.aload_n 0, 1) := by decide +kernel
theorem dL_law_276 : decode cL_law 276 = .ok (.iload_n 3, 1) := by decide +kernel
theorem dL_law_277 : decode cL_law 277 = .ok (.iconst 1, 1) := by decide +kernel
theorem dL_law_278 : decode cL_law 278 = .ok (.iadd, 1) := by decide +kernel
theorem dL_law_279 : decode cL_law 279 = .ok (.iaload, 1) := by decide +kernel
theorem dL_law_280 : decode cL_law 280 = .ok (.aload_n 0, 1) := by decide +kernel
theorem dL_law_281 : decode cL_law 281 = .ok (.iload_n 3, 1) := by decide +kernel
theorem dL_law_282 : decode cL_law 282 = .ok (.iconst 2, 1) := by decide +kernel
theorem dL_law_283 : decode cL_law 283 = .ok (.iadd, 1) := by decide +kernel
theorem dL_law_284 : decode cL_law 284 = .ok (.iaload, 1) := by decide +kernel
theorem dL_law_285 : decode cL_law 285 = .ok (.aload_n 0, 1) := by decide +kernel
theorem dL_law_286 : decode cL_law 286 = .ok (.iload_n 3, 1) := by decide +kernel
theorem dL_law_287 : decode cL_law 287 = .ok (.iconst 3, 1) := by decide +kernel
theorem dL_law_288 : decode cL_law 288 = .ok (.iadd, 1) := by decide +kernel
theorem dL_law_289 : decode cL_law 289 = .ok (.iaload, 1) := by decide +kernel
theorem dL_law_290 : decode cL_law 290 = .ok (.aload_n 0, 1) := by decide +kernel
theorem dL_law_291 : decode cL_law 291 = .ok (.iload_n 3, 1) := by decide +kernel
theorem dL_law_292 : decode cL_law 292 = .ok (.iconst 4, 1) := by decide +kernel
theorem dL_law_293 : decode cL_law 293 = .ok (.iadd, 1) := by decide +kernel
theorem dL_law_294 : decode cL_law 294 = .ok (.iaload, 1) := by decide +kernel
theorem dL_law_295 : decode cL_law 295 = .ok (.aload_n 0, 1) := by decide +kernel
theorem dL_law_296 : decode cL_law 296 = .ok (.iload_n 3, 1) := by decide +kernel
theorem dL_law_297 : decode cL_law 297 = .ok (.iconst 5, 1) := by decide +kernel
theorem dL_law_298 : decode cL_law 298 = .ok (.iadd, 1) := by decide +kernel
theorem dL_law_299 : decode cL_law 299 = .ok (.iaload, 1) := by decide +kernel
theorem dL_law_300 : decode cL_law 300 = .ok (.invokevirtual 26, 3) := by decide +kernel
theorem dL_law_303 : decode cL_law 303 = .ok (.pop, 1) := by decide +kernel
theorem dL_law_304 : decode cL_law 304 = .ok (.goto 484, 3) := by decide +kernel
theorem dL_law_307 : decode cL_law 307 = .ok (.aload_n 1, 1) := by decide +kernel
theorem dL_law_308 : decode cL_law 308 = .ok (.invokevirtual 27, 3) := by decide +kernel
theorem dL_law_311 : decode cL_law 311 = .ok (.pop, 1) := by decide +kernel
theorem dL_law_312 : decode cL_law 312 = .ok (.aload_n 2, 1) := by decide +kernel
theorem dL_law_313 : decode cL_law 313 = .ok (.invokevirtual 31, 3) := by decide +kernel
theorem dL_law_316 : decode cL_law 316 = .ok (.pop, 1) := by decide +kernel
theorem dL_law_317 : decode cL_law 317 = .ok (.goto 471, 3) := by decide +kernel
theorem dL_law_320 : decode cL_law 320 = .ok (.aload_n 1, 1) := by decide +kernel
theorem dL_law_321 : decode cL_law 321 = .ok (.aload_n 0, 1) := by decide +kernel
theorem dL_law_322 : decode cL_law 322 = .ok (.iload_n 3, 1) := by decide +kernel
theorem dL_law_323 : decode cL_law 323 = .ok (.iconst 1, 1) := by decide +kernel
theorem dL_law_324 : decode cL_law 324 = .ok (.iadd, 1) := by decide +kernel
theorem dL_law_325 : decode cL_law 325 = .ok (.iaload, 1) := by decide +kernel
theorem dL_law_326 : decode cL_law 326 = .ok (.invokevirtual 32, 3) := by decide +kernel
theorem dL_law_329 : decode cL_law 329 = .ok (.pop, 1) := by decide +kernel
theorem dL_law_330 : decode cL_law 330 = .ok (.aload_n 2, 1) := by decide +kernel
theorem dL_law_331 : decode cL_law 331 = .ok (.aload_n 0, 1) := by decide +kernel
theorem dL_law_332 : decode cL_law 332 = .ok (.iload_n 3, 1) := by decide +kernel
theorem dL_law_333 : decode cL_law 333 = .ok (.iconst 1, 1) := by decide +kernel
theorem dL_law_334 : decode cL_law 334 = .ok (.iadd, 1) := by decide +kernel
theorem dL_law_335 : decode cL_law 335 = .ok (.iaload, 1) := by decide +kernel
theorem dL_law_336 : decode cL_law 336 = .ok (.invokevirtual 36, 3) := by decide +kernel
theorem dL_law_339 : decode cL_law 339 = .ok (.pop, 1) := by decide +kernel
theorem dL_law_340 : decode cL_law 340 = .ok (.goto 448, 3) := by decide +kernel
theorem dL_law_343 : decode cL_law 343 = .ok (.aload_n 1, 1) := by decide +kernel
theorem dL_law_344 : decode cL_law 344 = .ok (.aload_n 0, 1) := by decide +kernel
theorem dL_law_345 : decode cL_law 345 = .ok (.iload_n 3, 1) := by decide +kernel
theorem dL_law_346 : decode cL_law 346 = .ok (.iconst 1, 1) := by decide +kernel
theorem dL_law_347 : decode cL_law 347 = .ok (.iadd, 1) := by decide +kernel
theorem dL_law_348 : decode cL_law 348 = .ok (.iaload, 1) := by decide +kernel
theorem dL_law_349 : decode cL_law 349 = .ok (.aload_n 0, 1) := by decide +kernel
theorem dL_law_350 : decode cL_law 350 = .ok (.iload_n 3, 1) := by decide +kernel
theorem dL_law_351 : decode cL_law 351 = .ok (.iconst 2, 1) := by decide +kernel
theorem dL_law_352 : decode cL_law 352 = .ok (.iadd, 1) := by decide +kernel
theorem dL_law_353 : decode cL_law 353 = .ok (.iaload, 1) := by decide +kernel
theorem dL_law_354 : decode cL_law 354 = .ok (.invokevirtual 37, 3) := by decide +kernel
theorem dL_law_357 : decode cL_law 357 = .ok (.pop, 1) := by decide +kernel
theorem dL_law_358 : decode cL_law 358 = .ok (.aload_n 2, 1) := by decide +kernel
theorem dL_law_359 : decode cL_law 359 = .ok (.aload_n 0, 1) := by decide +kernel
theorem dL_law_360 : decode cL_law 360 = .ok (.iload_n 3, 1) := by decide +kernel
theorem dL_law_361 : decode cL_law 361 = .ok (.iconst 1, 1) := by decide +kernel
theorem dL_law_362 : decode cL_law 362 = .ok (.iadd, 1) := by decide +kernel
theorem dL_law_363 : decode cL_law 363 = .ok (.iaload, 1) := by decide +kernel
theorem dL_law_364 : decode cL_law 364 = .ok (.aload_n 0, 1) := by decide +kernel
theorem dL_law_365 : decode cL_law 365 = .ok (.iload_n 3, 1) := by decide +kernel
theorem dL_law_366 : decode cL_law 366 = .ok (.iconst 2, 1) := by decide +kernel
theorem dL_law_367 : decode cL_law 367 = .ok (.iadd, 1) := by decide +kernel
theorem dL_law_368 : decode cL_law 368 = .ok (.iaload, 1) := by decide +kernel
theorem dL_law_369 : decode cL_law 369 = .ok (.invokevirtual 41, 3) := by decide +kernel
theorem dL_law_372 : decode cL_law 372 = .ok (.pop, 1) := by decide +kernel
theorem dL_law_373 : decode cL_law 373 = .ok (.goto 415, 3) := by decide +kernel
theorem dL_law_376 : decode cL_law 376 = .ok (.aload_n 1, 1) := by decide +kernel
theorem dL_law_377 : decode cL_law 377 = .ok (.aload_n 0, 1) := by decide +kernel
theorem dL_law_378 : decode cL_law 378 = .ok (.iload_n 3, 1) := by decide +kernel
theorem dL_law_379 : decode cL_law 379 = .ok (.iconst 1, 1) := by decide +kernel
theorem dL_law_380 : decode cL_law 380 = .ok (.iadd, 1) := by decide +kernel
theorem dL_law_381 : decode cL_law 381 = .ok (.iaload, 1) := by decide +kernel
theorem dL_law_382 : decode cL_law 382 = .ok (.aload_n 0, 1) := by decide +kernel
theorem dL_law_383 : decode cL_law 383 = .ok (.iload_n 3, 1) := by decide +kernel
theorem dL_law_384 : decode cL_law 384 = .ok (.iconst 2, 1) := by decide +kernel
theorem dL_law_385 : decode cL_law 385 = .ok (.iadd, 1) := by decide +kernel
theorem dL_law_386 : decode cL_law 386 = .ok (.iaload, 1) := by decide +kernel
theorem dL_law_387 : decode cL_law 387 = .ok (.aload_n 0, 1) := by decide +kernel
theorem dL_law_388 : decode cL_law 388 = .ok (.iload_n 3, 1) := by decide +kernel
theorem dL_law_389 : decode cL_law 389 = .ok (.iconst 3, 1) := by decide +kernel
theorem dL_law_390 : decode cL_law 390 = .ok (.iadd, 1) := by decide +kernel
theorem dL_law_391 : decode cL_law 391 = .ok (.iaload, 1) := by decide +kernel
theorem dL_law_392 : decode cL_law 392 = .ok (.invokevirtual 42, 3) := by decide +kernel
theorem dL_law_395 : decode cL_law 395 = .ok (.pop, 1) := by decide +kernel
theorem dL_law_396 : decode cL_law 396 = .ok (.aload_n 2, 1) := by decide +kernel
theorem dL_law_397 : decode cL_law 397 = .ok (.aload_n 0, 1) := by decide +kernel
theorem dL_law_398 : decode cL_law 398 = .ok (.iload_n 3, 1) := by decide +kernel
theorem dL_law_399 : decode cL_law 399 = .ok (.iconst 1, 1) := by decide +kernel
theorem dL_law_400 : decode cL_law 400 = .ok (.iadd, 1) := by decide +kernel
theorem dL_law_401 : decode cL_law 401 = .ok (.iaload, 1) := by decide +kernel
theorem dL_law_402 : decode cL_law 402 = .ok (.aload_n 0, 1) := by decide +kernel
theorem dL_law_403 : decode cL_law 403 = .ok (.iload_n 3, 1) := by decide +kernel
theorem dL_law_404 : decode cL_law 404 = .ok (.iconst 2, 1) := by decide +kernel
theorem dL_law_405 : decode cL_law 405 = .ok (.iadd, 1) := by decide +kernel
theorem dL_law_406 : decode cL_law 406 = .ok (.iaload, 1) := by decide +kernel
theorem dL_law_407 : decode cL_law 407 = .ok (.aload_n 0, 1) := by decide +kernel
theorem dL_law_408 : decode cL_law 408 = .ok (.iload_n 3, 1) := by decide +kernel
theorem dL_law_409 : decode cL_law 409 = .ok (.iconst 3, 1) := by decide +kernel
theorem dL_law_410 : decode cL_law 410 = .ok (.iadd, 1) := by decide +kernel
theorem dL_law_411 : decode cL_law 411 = .ok (.iaload, 1) := by decide +kernel
theorem dL_law_412 : decode cL_law 412 = .ok (.invokevirtual 46, 3) := by decide +kernel
theorem dL_law_415 : decode cL_law 415 = .ok (.pop, 1) := by decide +kernel
theorem dL_law_416 : decode cL_law 416 = .ok (.goto 372, 3) := by decide +kernel
theorem dL_law_419 : decode cL_law 419 = .ok (.aload_n 1, 1) := by decide +kernel
theorem dL_law_420 : decode cL_law 420 = .ok (.aload_n 0, 1) := by decide +kernel
theorem dL_law_421 : decode cL_law 421 = .ok (.iload_n 3, 1) := by decide +kernel
theorem dL_law_422 : decode cL_law 422 = .ok (.iconst 1, 1) := by decide +kernel
theorem dL_law_423 : decode cL_law 423 = .ok (.iadd, 1) := by decide +kernel
theorem dL_law_424 : decode cL_law 424 = .ok (.iaload, 1) := by decide +kernel
theorem dL_law_425 : decode cL_law 425 = .ok (.aload_n 0, 1) := by decide +kernel
theorem dL_law_426 : decode cL_law 426 = .ok (.iload_n 3, 1) := by decide +kernel
theorem dL_law_427 : decode cL_law 427 = .ok (.iconst 2, 1) := by decide +kernel
theorem dL_law_428 : decode cL_law 428 = .ok (.iadd, 1) := by decide +kernel
theorem dL_law_429 : decode cL_law 429 = .ok (.iaload, 1) := by decide +kernel
theorem dL_law_430 : decode cL_law 430 = .ok (.aload_n 0, 1) := by decide +kernel
theorem dL_law_431 : decode cL_law 431 = .ok (.iload_n 3, 1) := by decide +kernel
theorem dL_law_432 : decode cL_law 432 = .ok (.iconst 3, 1) := by decide +kernel
theorem dL_law_433 : decode cL_law 433 = .ok (.iadd, 1) := by decide +kernel
theorem dL_law_434 : decode cL_law 434 = .ok (.iaload, 1) := by decide +kernel
theorem dL_law_435 : decode cL_law 435 = .ok (.invokevirtual 47, 3) := by decide +kernel
theorem dL_law_438 : decode cL_law 438 = .ok (.pop, 1) := by decide +kernel
theorem dL_law_439 : decode cL_law 439 = .ok (.aload_n 2, 1) := by decide +kernel
theorem dL_law_440 : decode cL_law 440 = .ok (.aload_n 0, 1) := by decide +kernel
theorem dL_law_441 : decode cL_law 441 = .ok (.iload_n 3, 1) := by decide +kernel
theorem dL_law_442 : decode cL_law 442 = .ok (.iconst 1, 1) := by decide +kernel
theorem dL_law_443 : decode cL_law 443 = .ok (.iadd, 1) := by decide +kernel
theorem dL_law_444 : decode cL_law 444 = .ok (.iaload, 1) := by decide +kernel
theorem dL_law_445 : decode cL_law 445 = .ok (.aload_n 0, 1) := by decide +kernel
theorem dL_law_446 : decode cL_law 446 = .ok (.iload_n 3, 1) := by decide +kernel
theorem dL_law_447 : decode cL_law 447 = .ok (.iconst 2, 1) := by decide +kernel
theorem dL_law_448 : decode cL_law 448 = .ok (.iadd, 1) := by decide +kernel
theorem dL_law_449 : decode cL_law 449 = .ok (.iaload, 1) := by decide +kernel
theorem dL_law_450 : decode cL_law 450 = .ok (.aload_n 0, 1) := by decide +kernel
theorem dL_law_451 : decode cL_law 451 = .ok (.iload_n 3, 1) := by decide +kernel
theorem dL_law_452 : decode cL_law 452 = .ok (.iconst 3, 1) := by decide +kernel
theorem dL_law_453 : decode cL_law 453 = .ok (.iadd, 1) := by decide +kernel
theorem dL_law_454 : decode cL_law 454 = .ok (.iaload, 1) := by decide +kernel
theorem dL_law_455 : decode cL_law 455 = .ok (.invokevirtual 50, 3) := by decide +kernel
theorem dL_law_458 : decode cL_law 458 = .ok (.pop, 1) := by decide +kernel
theorem dL_law_459 : decode cL_law 459 = .ok (.goto 329, 3) := by decide +kernel
theorem dL_law_462 : decode cL_law 462 = .ok (.aload_n 1, 1) := by decide +kernel
theorem dL_law_463 : decode cL_law 463 = .ok (.aload_n 0, 1) := by decide +kernel
theorem dL_law_464 : decode cL_law 464 = .ok (.iload_n 3, 1) := by decide +kernel
theorem dL_law_465 : decode cL_law 465 = .ok (.iconst 1, 1) := by decide +kernel
theorem dL_law_466 : decode cL_law 466 = .ok (.iadd, 1) := by decide +kernel
theorem dL_law_467 : decode cL_law 467 = .ok (.iaload, 1) := by decide +kernel
theorem dL_law_468 : decode cL_law 468 = .ok (.aload_n 0, 1) := by decide +kernel
theorem dL_law_469 : decode cL_law 469 = .ok (.iload_n 3, 1) := by decide +kernel
theorem dL_law_470 : decode cL_law 470 = .ok (.iconst 2, 1) := by decide +kernel
theorem dL_law_471 : decode cL_law 471 = .ok (.iadd, 1) := by decide +kernel
theorem dL_law_472 : decode cL_law 472 = .ok (.iaload, 1) := by decide +kernel
theorem dL_law_473 : decode cL_law 473 = .ok (.aload_n 0, 1) := by decide +kernel
theorem dL_law_474 : decode cL_law 474 = .ok (.iload_n 3, 1) := by decide +kernel
theorem dL_law_475 : decode cL_law 475 = .ok (.iconst 3, 1) := by decide +kernel
theorem dL_law_476 : decode cL_law 476 = .ok (.iadd, 1) := by decide +kernel
theorem dL_law_477 : decode cL_law 477 = .ok (.iaload, 1) := by decide +kernel
theorem dL_law_478 : decode cL_law 478 = .ok (.aload_n 0, 1) := by decide +kernel
theorem dL_law_479 : decode cL_law 479 = .ok (.iload_n 3, 1) := by decide +kernel
theorem dL_law_480 : decode cL_law 480 = .ok (.iconst 4, 1) := by decide +kernel
theorem dL_law_481 : decode cL_law 481 = .ok (.iadd, 1) := by decide +kernel
theorem dL_law_482 : decode cL_law 482 = .ok (.iaload, 1) := by decide +kernel
theorem dL_law_483 : decode cL_law 483 = .ok (.invokevirtual 51, 3) := by decide +kernel
theorem dL_law_486 : decode cL_law 486 = .ok (.pop, 1) := by decide +kernel
theorem dL_law_487 : decode cL_law 487 = .ok (.aload_n 2, 1) := by decide +kernel
theorem dL_law_488 : decode cL_law 488 = .ok (.aload_n 0, 1) := by decide +kernel
theorem dL_law_489 : decode cL_law 489 = .ok (.iload_n 3, 1) := by decide +kernel
theorem dL_law_490 : decode cL_law 490 = .ok (.iconst 1, 1) := by decide +kernel
theorem dL_law_491 : decode cL_law 491 = .ok (.iadd, 1) := by decide +kernel
theorem dL_law_492 : decode cL_law 492 = .ok (.iaload, 1) := by decide +kernel
theorem dL_law_493 : decode cL_law 493 = .ok (.aload_n 0, 1) := by decide +kernel
theorem dL_law_494 : decode cL_law 494 = .ok (.iload_n 3, 1) := by decide +kernel
theorem dL_law_495 : decode cL_law 495 = .ok (.iconst 2, 1) := by decide +kernel
theorem dL_law_496 : decode cL_law 496 = .ok (.iadd, 1) := by decide +kernel
theorem dL_law_497 : decode cL_law 497 = .ok (.iaload, 1) := by decide +kernel
theorem dL_law_498 : decode cL_law 498 = .ok (.aload_n 0, 1) := by decide +kernel
theorem dL_law_499 : decode cL_law 499 = .ok (.iload_n 3, 1) := by decide +kernel
theorem dL_law_500 : decode cL_law 500 = .ok (.iconst 3, 1) := by decide +kernel
theorem dL_law_501 : decode cL_law 501 = .ok (.iadd, 1) := by decide +kernel
theorem dL_law_502 : decode cL_law 502 = .ok (.iaload, 1) := by decide +kernel
theorem dL_law_503 : decode cL_law 503 = .ok (.aload_n 0, 1) := by decide +kernel
theorem dL_law_504 : decode cL_law 504 = .ok (.iload_n 3, 1) := by decide +kernel
theorem dL_law_505 : decode cL_law 505 = .ok (.iconst 4, 1) := by decide +kernel
theorem dL_law_506 : decode cL_law 506 = .ok (.iadd, 1) := by decide +kernel
theorem dL_law_507 : decode cL_law 507 = .ok (.iaload, 1) := by decide +kernel
theorem dL_law_508 : decode cL_law 508 = .ok (.invokevirtual 54, 3) := by decide +kernel
theorem dL_law_511 : decode cL_law 511 = .ok (.pop, 1) := by decide +kernel
theorem dL_law_512 : decode cL_law 512 = .ok (.goto 276, 3) := by decide +kernel
theorem dL_law_515 : decode cL_law 515 = .ok (.aload_n 1, 1) := by decide +kernel
theorem dL_law_516 : decode cL_law 516 = .ok (.aload_n 0, 1) := by decide +kernel
theorem dL_law_517 : decode cL_law 517 = .ok (.iload_n 3, 1) := by decide +kernel
theorem dL_law_518 : decode cL_law 518 = .ok (.iconst 1, 1) := by decide +kernel
theorem dL_law_519 : decode cL_law 519 = .ok (.iadd, 1) := by decide +kernel
theorem dL_law_520 : decode cL_law 520 = .ok (.iaload, 1) := by decide +kernel
theorem dL_law_521 : decode cL_law 521 = .ok (.aload_n 0, 1) := by decide +kernel
theorem dL_law_522 : decode cL_law 522 = .ok (.iload_n 3, 1) := by decide +kernel
theorem dL_law_523 : decode cL_law 523 = .ok (.iconst 2, 1) := by decide +kernel
theorem dL_law_524 : decode cL_law 524 = .ok (.iadd, 1) := by decide +kernel
theorem dL_law_525 : decode cL_law 525 = .ok (.iaload, 1) := by decide +kernel
theorem dL_law_526 : decode cL_law 526 = .ok (.aload_n 0, 1) := by decide +kernel
theorem dL_law_527 : decode cL_law 527 = .ok (.iload_n 3, 1) := by decide +kernel
theorem dL_law_528 : decode cL_law 528 = .ok (.iconst 3, 1) := by decide +kernel
theorem dL_law_529 : decode cL_law 529 = .ok (.iadd, 1) := by decide +kernel
theorem dL_law_530 : decode cL_law 530 = .ok (.iaload, 1) := by decide +kernel
theorem dL_law_531 : decode cL_law 531 = .ok (.invokevirtual 55, 3) := by decide +kernel
theorem dL_law_534 : decode cL_law 534 = .ok (.pop, 1) := by decide +kernel
theorem dL_law_535 : decode cL_law 535 = .ok (.aload_n 2, 1) := by decide +kernel
theorem dL_law_536 : decode cL_law 536 = .ok (.aload_n 0, 1) := by decide +kernel
theorem dL_law_537 : decode cL_law 537 = .ok (.iload_n 3, 1) := by decide +kernel
theorem dL_law_538 : decode cL_law 538 = .ok (.iconst 1, 1) := by decide +kernel
theorem dL_law_539 : decode cL_law 539 = .ok (.iadd, 1) := by decide +kernel
theorem dL_law_540 : decode cL_law 540 = .ok (.iaload, 1) := by decide +kernel
theorem dL_law_541 : decode cL_law 541 = .ok (.aload_n 0, 1) := by decide +kernel
theorem dL_law_542 : decode cL_law 542 = .ok (.iload_n 3, 1) := by decide +kernel
theorem dL_law_543 : decode cL_law 543 = .ok (.iconst 2, 1) := by decide +kernel
theorem dL_law_544 : decode cL_law 544 = .ok (.iadd, 1) := by decide +kernel
theorem dL_law_545 : decode cL_law 545 = .ok (.iaload, 1) := by decide +kernel
theorem dL_law_546 : decode cL_law 546 = .ok (.aload_n 0, 1) := by decide +kernel
theorem dL_law_547 : decode cL_law 547 = .ok (.iload_n 3, 1) := by decide +kernel
theorem dL_law_548 : decode cL_law 548 = .ok (.iconst 3, 1) := by decide +kernel
theorem dL_law_549 : decode cL_law 549 = .ok (.iadd, 1) := by decide +kernel
theorem dL_law_550 : decode cL_law 550 = .ok (.iaload, 1) := by decide +kernel
theorem dL_law_551 : decode cL_law 551 = .ok (.invokevirtual 58, 3) := by decide +kernel
theorem dL_law_554 : decode cL_law 554 = .ok (.pop, 1) := by decide +kernel
theorem dL_law_555 : decode cL_law 555 = .ok (.goto 233, 3) := by decide +kernel
theorem dL_law_558 : decode cL_law 558 = .ok (.aload_n 1, 1) := by decide +kernel
theorem dL_law_559 : decode cL_law 559 = .ok (.aload_n 0, 1) := by decide +kernel
theorem dL_law_560 : decode cL_law 560 = .ok (.iload_n 3, 1) := by decide +kernel
theorem dL_law_561 : decode cL_law 561 = .ok (.iconst 1, 1) := by decide +kernel
theorem dL_law_562 : decode cL_law 562 = .ok (.iadd, 1) := by decide +kernel
theorem dL_law_563 : decode cL_law 563 = .ok (.iaload, 1) := by decide +kernel
theorem dL_law_564 : decode cL_law 564 = .ok (.aload_n 0, 1) := by decide +kernel
theorem dL_law_565 : decode cL_law 565 = .ok (.iload_n 3, 1) := by decide +kernel
theorem dL_law_566 : decode cL_law 566 = .ok (.iconst 2, 1) := by decide +kernel
theorem dL_law_567 : decode cL_law 567 = .ok (.iadd, 1) := by decide +kernel
theorem dL_law_568 : decode cL_law 568 = .ok (.iaload, 1) := by decide +kernel
theorem dL_law_569 : decode cL_law 569 = .ok (.invokevirtual 59, 3) := by decide +kernel
theorem dL_law_572 : decode cL_law 572 = .ok (.pop, 1) := by decide +kernel
theorem dL_law_573 : decode cL_law 573 = .ok (.aload_n 2, 1) := by decide +kernel
theorem dL_law_574 : decode cL_law 574 = .ok (.aload_n 0, 1) := by decide +kernel
theorem dL_law_575 : decode cL_law 575 = .ok (.iload_n 3, 1) := by decide +kernel
theorem dL_law_576 : decode cL_law 576 = .ok (.iconst 1, 1) := by decide +kernel
theorem dL_law_577 : decode cL_law 577 = .ok (.iadd, 1) := by decide +kernel
theorem dL_law_578 : decode cL_law 578 = .ok (.iaload, 1) := by decide +kernel
theorem dL_law_579 : decode cL_law 579 = .ok (.aload_n 0, 1) := by decide +kernel
theorem dL_law_580 : decode cL_law 580 = .ok (.iload_n 3, 1) := by decide +kernel
theorem dL_law_581 : decode cL_law 581 = .ok (.iconst 2, 1) := by decide +kernel
theorem dL_law_582 : decode cL_law 582 = .ok (.iadd, 1) := by decide +kernel
theorem dL_law_583 : decode cL_law 583 = .ok (.iaload, 1) := by decide +kernel
theorem dL_law_584 : decode cL_law 584 = .ok (.invokevirtual 62, 3) := by decide +kernel
theorem dL_law_587 : decode cL_law 587 = .ok (.pop, 1) := by decide +kernel
theorem dL_law_588 : decode cL_law 588 = .ok (.goto 200, 3) := by decide +kernel
theorem dL_law_591 : decode cL_law 591 = .ok (.aload_n 1, 1) := by decide +kernel
theorem dL_law_592 : decode cL_law 592 = .ok (.aload_n 0, 1) := by decide +kernel
theorem dL_law_593 : decode cL_law 593 = .ok (.iload_n 3, 1) := by decide +kernel
theorem dL_law_594 : decode cL_law 594 = .ok (.iconst 1, 1) := by decide +kernel
theorem dL_law_595 : decode cL_law 595 = .ok (.iadd, 1) := by decide +kernel
theorem dL_law_596 : decode cL_law 596 = .ok (.iaload, 1) := by decide +kernel
theorem dL_law_597 : decode cL_law 597 = .ok (.invokevirtual 63, 3) := by decide +kernel
theorem dL_law_600 : decode cL_law 600 = .ok (.pop, 1) := by decide +kernel
theorem dL_law_601 : decode cL_law 601 = .ok (.aload_n 2, 1) := by decide +kernel
theorem dL_law_602 : decode cL_law 602 = .ok (.aload_n 0, 1) := by decide +kernel
theorem dL_law_603 : decode cL_law 603 = .ok (.iload_n 3, 1) := by decide +kernel
theorem dL_law_604 : decode cL_law 604 = .ok (.iconst 1, 1) := by decide +kernel
theorem dL_law_605 : decode cL_law 605 = .ok (.iadd, 1) := by decide +kernel
theorem dL_law_606 : decode cL_law 606 = .ok (.iaload, 1) := by decide +kernel
theorem dL_law_607 : decode cL_law 607 = .ok (.invokevirtual 66, 3) := by decide +kernel
theorem dL_law_610 : decode cL_law 610 = .ok (.pop, 1) := by decide +kernel
theorem dL_law_611 : decode cL_law 611 = .ok (.goto 177, 3) := by decide +kernel
theorem dL_law_614 : decode cL_law 614 = .ok (.aload_n 1, 1) := by decide +kernel
theorem dL_law_615 : decode cL_law 615 = .ok (.invokevirtual 67, 3) := by decide +kernel
theorem dL_law_618 : decode cL_law 618 = .ok (.pop, 1) := by decide +kernel
theorem dL_law_619 : decode cL_law 619 = .ok (.aload_n 2, 1) := by decide +kernel
theorem dL_law_620 : decode cL_law 620 = .ok (.invokevirtual 70, 3) := by decide +kernel
theorem dL_law_623 : decode cL_law 623 = .ok (.pop, 1) := by decide +kernel
theorem dL_law_624 : decode cL_law 624 = .ok (.goto 164, 3) := by decide +kernel
theorem dL_law_627 : decode cL_law 627 = .ok (.aload_n 1, 1) := by decide +kernel
theorem dL_law_628 : decode cL_law 628 = .ok (.aload_n 0, 1) := by decide +kernel
theorem dL_law_629 : decode cL_law 629 = .ok (.iload_n 3, 1) := by decide +kernel
theorem dL_law_630 : decode cL_law 630 = .ok (.iconst 1, 1) := by decide +kernel
theorem dL_law_631 : decode cL_law 631 = .ok (.iadd, 1) := by decide +kernel
theorem dL_law_632 : decode cL_law 632 = .ok (.iaload, 1) := by decide +kernel
theorem dL_law_633 : decode cL_law 633 = .ok (.invokevirtual 71, 3) := by decide +kernel
theorem dL_law_636 : decode cL_law 636 = .ok (.pop, 1) := by decide +kernel
theorem dL_law_637 : decode cL_law 637 = .ok (.aload_n 2, 1) := by decide +kernel
theorem dL_law_638 : decode cL_law 638 = .ok (.aload_n 0, 1) := by decide +kernel
theorem dL_law_639 : decode cL_law 639 = .ok (.iload_n 3, 1) := by decide +kernel
theorem dL_law_640 : decode cL_law 640 = .ok (.iconst 1, 1) := by decide +kernel
theorem dL_law_641 : decode cL_law 641 = .ok (.iadd, 1) := by decide +kernel
theorem dL_law_642 : decode cL_law 642 = .ok (.iaload, 1) := by decide +kernel
theorem dL_law_643 : decode cL_law 643 = .ok (.invokevirtual 74, 3) := by decide +kernel
theorem dL_law_646 : decode cL_law 646 = .ok (.pop, 1) := by decide +kernel
theorem dL_law_647 : decode cL_law 647 = .ok (.goto 141, 3) := by decide +kernel
theorem dL_law_650 : decode cL_law 650 = .ok (.aload_n 1, 1) := by decide +kernel
theorem dL_law_651 : decode cL_law 651 = .ok (.aload_n 0, 1) := by decide +kernel
theorem dL_law_652 : decode cL_law 652 = .ok (.iload_n 3, 1) := by decide +kernel
theorem dL_law_653 : decode cL_law 653 = .ok (.iconst 1, 1) := by decide +kernel
theorem dL_law_654 : decode cL_law 654 = .ok (.iadd, 1) := by decide +kernel
theorem dL_law_655 : decode cL_law 655 = .ok (.iaload, 1) := by decide +kernel
theorem dL_law_656 : decode cL_law 656 = .ok (.aload_n 0, 1) := by decide +kernel
theorem dL_law_657 : decode cL_law 657 = .ok (.iload_n 3, 1) := by decide +kernel
theorem dL_law_658 : decode cL_law 658 = .ok (.iconst 2, 1) := by decide +kernel
theorem dL_law_659 : decode cL_law 659 = .ok (.iadd, 1) := by decide +kernel
theorem dL_law_660 : decode cL_law 660 = .ok (.iaload, 1) := by decide +kernel
theorem dL_law_661 : decode cL_law 661 = .ok (.invokevirtual 75, 3) := by decide +kernel
theorem dL_law_664 : decode cL_law 664 = .ok (.pop, 1) := by decide +kernel
theorem dL_law_665 : decode cL_law 665 = .ok (.aload_n 2, 1) := by decide +kernel
theorem dL_law_666 : decode cL_law 666 = .ok (.aload_n 0, 1) := by decide +kernel
theorem dL_law_667 : decode cL_law 667 = .ok (.iload_n 3, 1) := by decide +kernel
theorem dL_law_668 : decode cL_law 668 = .ok (.iconst 1, 1) := by decide +kernel
theorem dL_law_669 : decode cL_law 669 = .ok (.iadd, 1) := by decide +kernel
theorem dL_law_670 : decode cL_law 670 = .ok (.iaload, 1) := by decide +kernel
theorem dL_law_671 : decode cL_law 671 = .ok (.aload_n 0, 1) := by decide +kernel
theorem dL_law_672 : decode cL_law 672 = .ok (.iload_n 3, 1) := by decide +kernel
theorem dL_law_673 : decode cL_law 673 = .ok (.iconst 2, 1) := by decide +kernel
theorem dL_law_674 : decode cL_law 674 = .ok (.iadd, 1) := by decide +kernel
theorem dL_law_675 : decode cL_law 675 = .ok (.iaload, 1) := by decide +kernel
theorem dL_law_676 : decode cL_law 676 = .ok (.invokevirtual 78, 3) := by decide +kernel
theorem dL_law_679 : decode cL_law 679 = .ok (.pop, 1) := by decide +kernel
theorem dL_law_680 : decode cL_law 680 = .ok (.goto 108, 3) := by decide +kernel
theorem dL_law_683 : decode cL_law 683 = .ok (.aload_n 1, 1) := by decide +kernel
theorem dL_law_684 : decode cL_law 684 = .ok (.aload_n 0, 1) := by decide +kernel
theorem dL_law_685 : decode cL_law 685 = .ok (.iload_n 3, 1) := by decide +kernel
theorem dL_law_686 : decode cL_law 686 = .ok (.iconst 1, 1) := by decide +kernel
theorem dL_law_687 : decode cL_law 687 = .ok (.iadd, 1) := by decide +kernel
theorem dL_law_688 : decode cL_law 688 = .ok (.iaload, 1) := by decide +kernel
theorem dL_law_689 : decode cL_law 689 = .ok (.invokevirtual 79, 3) := by decide +kernel
theorem dL_law_692 : decode cL_law 692 = .ok (.pop, 1) := by decide +kernel
theorem dL_law_693 : decode cL_law 693 = .ok (.aload_n 2, 1) := by decide +kernel
theorem dL_law_694 : decode cL_law 694 = .ok (.aload_n 0, 1) := by decide +kernel
theorem dL_law_695 : decode cL_law 695 = .ok (.iload_n 3, 1) := by decide +kernel
theorem dL_law_696 : decode cL_law 696 = .ok (.iconst 1, 1) := by decide +kernel
theorem dL_law_697 : decode cL_law 697 = .ok (.iadd, 1) := by decide +kernel
theorem dL_law_698 : decode cL_law 698 = .ok (.iaload, 1) := by decide +kernel
theorem dL_law_699 : decode cL_law 699 = .ok (.invokevirtual 82, 3) := by decide +kernel
theorem dL_law_702 : decode cL_law 702 = .ok (.pop, 1) := by decide +kernel
theorem dL_law_703 : decode cL_law 703 = .ok (.goto 85, 3) := by decide +kernel
theorem dL_law_706 : decode cL_law 706 = .ok (.aload_n 1, 1) := by decide +kernel
theorem dL_law_707 : decode cL_law 707 = .ok (.invokevirtual 83, 3) := by decide +kernel
theorem dL_law_710 : decode cL_law 710 = .ok (.pop, 1) := by decide +kernel
theorem dL_law_711 : decode cL_law 711 = .ok (.aload_n 2, 1) := by decide +kernel
theorem dL_law_712 : decode cL_law 712 = .ok (.invokevirtual 86, 3) := by decide +kernel
theorem dL_law_715 : decode cL_law 715 = .ok (.pop, 1) := by decide +kernel
theorem dL_law_716 : decode cL_law 716 = .ok (.goto 72, 3) := by decide +kernel
theorem dL_law_719 : decode cL_law 719 = .ok (.aload_n 1, 1) := by decide +kernel
theorem dL_law_720 : decode cL_law 720 = .ok (.aload_n 0, 1) := by decide +kernel
theorem dL_law_721 : decode cL_law 721 = .ok (.iload_n 3, 1) := by decide +kernel
theorem dL_law_722 : decode cL_law 722 = .ok (.iconst 1, 1) := by decide +kernel
theorem dL_law_723 : decode cL_law 723 = .ok (.iadd, 1) := by decide +kernel
theorem dL_law_724 : decode cL_law 724 = .ok (.iaload, 1) := by decide +kernel
theorem dL_law_725 : decode cL_law 725 = .ok (.aload_n 0, 1) := by decide +kernel
theorem dL_law_726 : decode cL_law 726 = .ok (.iload_n 3, 1) := by decide +kernel
theorem dL_law_727 : decode cL_law 727 = .ok (.iconst 2, 1) := by decide +kernel
theorem dL_law_728 : decode cL_law 728 = .ok (.iadd, 1) := by decide +kernel
theorem dL_law_729 : decode cL_law 729 = .ok (.iaload, 1) := by decide +kernel
theorem dL_law_730 : decode cL_law 730 = .ok (.invokevirtual 87, 3) := by decide +kernel
theorem dL_law_733 : decode cL_law 733 = .ok (.pop, 1) := by decide +kernel
theorem dL_law_734 : decode cL_law 734 = .ok (.aload_n 2, 1) := by decide +kernel
theorem dL_law_735 : decode cL_law 735 = .ok (.aload_n 0, 1) := by decide +kernel
theorem dL_law_736 : decode cL_law 736 = .ok (.iload_n 3, 1) := by decide +kernel
theorem dL_law_737 : decode cL_law 737 = .ok (.iconst 1, 1) := by decide +kernel
theorem dL_law_738 : decode cL_law 738 = .ok (.iadd, 1) := by decide +kernel
theorem dL_law_739 : decode cL_law 739 = .ok (.iaload, 1) := by decide +kernel
theorem dL_law_740 : decode cL_law 740 = .ok (.aload_n 0, 1) := by decide +kernel
theorem dL_law_741 : decode cL_law 741 = .ok (.iload_n 3, 1) := by decide +kernel
theorem dL_law_742 : decode cL_law 742 = .ok (.iconst 2, 1) := by decide +kernel
theorem dL_law_743 : decode cL_law 743 = .ok (.iadd, 1) := by decide +kernel
theorem dL_law_744 : decode cL_law 744 = .ok (.iaload, 1) := by decide +kernel
theorem dL_law_745 : decode cL_law 745 = .ok (.invokevirtual 90, 3) := by decide +kernel
theorem dL_law_748 : decode cL_law 748 = .ok (.pop, 1) := by decide +kernel
theorem dL_law_749 : decode cL_law 749 = .ok (.goto 39, 3) := by decide +kernel
theorem dL_law_752 : decode cL_law 752 = .ok (.aload_n 1, 1) := by decide +kernel
theorem dL_law_753 : decode cL_law 753 = .ok (.aload_n 0, 1) := by decide +kernel
theorem dL_law_754 : decode cL_law 754 = .ok (.iload_n 3, 1) := by decide +kernel
theorem dL_law_755 : decode cL_law 755 = .ok (.iconst 1, 1) := by decide +kernel
theorem dL_law_756 : decode cL_law 756 = .ok (.iadd, 1) := by decide +kernel
theorem dL_law_757 : decode cL_law 757 = .ok (.iaload, 1) := by decide +kernel
theorem dL_law_758 : decode cL_law 758 = .ok (.invokevirtual 91, 3) := by decide +kernel
theorem dL_law_761 : decode cL_law 761 = .ok (.pop, 1) := by decide +kernel
theorem dL_law_762 : decode cL_law 762 = .ok (.aload_n 2, 1) := by decide +kernel
theorem dL_law_763 : decode cL_law 763 = .ok (.aload_n 0, 1) := by decide +kernel
theorem dL_law_764 : decode cL_law 764 = .ok (.iload_n 3, 1) := by decide +kernel
theorem dL_law_765 : decode cL_law 765 = .ok (.iconst 1, 1) := by decide +kernel
theorem dL_law_766 : decode cL_law 766 = .ok (.iadd, 1) := by decide +kernel
theorem dL_law_767 : decode cL_law 767 = .ok (.iaload, 1) := by decide +kernel
theorem dL_law_768 : decode cL_law 768 = .ok (.invokevirtual 94, 3) := by decide +kernel
theorem dL_law_771 : decode cL_law 771 = .ok (.pop, 1) := by decide +kernel
theorem dL_law_772 : decode cL_law 772 = .ok (.goto 16, 3) := by decide +kernel
theorem dL_law_775 : decode cL_law 775 = .ok (.aload_n 1, 1) := by decide +kernel
theorem dL_law_776 : decode cL_law 776 = .ok (.invokevirtual 95, 3) := by decide +kernel
theorem dL_law_779 : decode cL_law 779 = .ok (.pop2, 1) := by decide +kernel
theorem dL_law_780 : decode cL_law 780 = .ok (.aload_n 2, 1) := by decide +kernel
theorem dL_law_781 : decode cL_law 781 = .ok (.invokevirtual 99, 3) := by decide +kernel
theorem dL_law_784 : decode cL_law 784 = .ok (.pop2, 1) := by decide +kernel
theorem dL_law_785 : decode cL_law 785 = .ok (.goto 3, 3) := by decide +kernel
theorem dL_law_788 : decode cL_law 788 = .ok (.iinc 3 6, 3) := by decide +kernel
theorem dL_law_791 : decode cL_law 791 = .ok (.goto (-773), 3) := by decide +kernel
theorem dL_law_794 : decode cL_law 794 = .ok (.iconst 1, 1) := by decide +kernel
theorem dL_law_795 : decode cL_law 795 = .ok (.ireturn, 1) := by decide +kernel
end
section
theorem fl_10_12 : Cond.fieldLink "ClockZones" 12 "ClockZones" "net" "LClockZones$Net;" ∈ z_tbl := z_m (by decide +kernel) (by decide +kernel)
theorem fl_10_19 : Cond.fieldLink "ClockZones" 19 "ClockZones" "search" "LClockZones$Search;" ∈ z_tbl := z_m (by decide +kernel) (by decide +kernel)
theorem fl_10_26 : Cond.fieldLink "ClockZones" 26 "ClockZones" "walk" "LClockZones$Walk;" ∈ z_tbl := z_m (by decide +kernel) (by decide +kernel)
theorem fl_10_33 : Cond.fieldLink "ClockZones" 33 "ClockZones" "timetable" "LClockZones$Timetable;" ∈ z_tbl := z_m (by decide +kernel) (by decide +kernel)
theorem fl_10_37 : Cond.fieldLink "ClockZones" 37 "ClockZones" "askedPlaces" "[I" ∈ z_tbl := z_m (by decide +kernel) (by decide +kernel)
theorem fl_10_41 : Cond.fieldLink "ClockZones" 41 "ClockZones" "askedAmounts" "[I" ∈ z_tbl := z_m (by decide +kernel) (by decide +kernel)
theorem fl_10_51 : Cond.fieldLink "ClockZones" 51 "ClockZones$Net" "edgeCount" "I" ∈ z_tbl := z_m (by decide +kernel) (by decide +kernel)
theorem fl_10_76 : Cond.fieldLink "ClockZones" 76 "ClockZones$Net" "edges" "[LClockZones$Edge;" ∈ z_tbl := z_m (by decide +kernel) (by decide +kernel)
theorem fl_10_80 : Cond.fieldLink "ClockZones" 80 "ClockZones$Edge" "guards" "LClockZones$TestList;" ∈ z_tbl := z_m (by decide +kernel) (by decide +kernel)
theorem fl_10_95 : Cond.fieldLink "ClockZones" 95 "ClockZones$Search" "timesDone" "I" ∈ z_tbl := z_m (by decide +kernel) (by decide +kernel)
theorem fl_10_102 : Cond.fieldLink "ClockZones" 102 "ClockZones$Search" "isNeeded" "Z" ∈ z_tbl := z_m (by decide +kernel) (by decide +kernel)
theorem fl_10_106 : Cond.fieldLink "ClockZones" 106 "ClockZones$Search" "states" "LClockZones$States;" ∈ z_tbl := z_m (by decide +kernel) (by decide +kernel)
theorem fl_10_153 : Cond.fieldLink "ClockZones" 153 "ClockZones$Timetable" "earliest" "[I" ∈ z_tbl := z_m (by decide +kernel) (by decide +kernel)
theorem fl_10_165 : Cond.fieldLink "ClockZones" 165 "ClockZones$Walk" "isGoing" "Z" ∈ z_tbl := z_m (by decide +kernel) (by decide +kernel)
theorem fl_10_185 : Cond.fieldLink "ClockZones" 185 "ClockZones$Walk" "places" "[I" ∈ z_tbl := z_m (by decide +kernel) (by decide +kernel)
theorem fl_10_188 : Cond.fieldLink "ClockZones" 188 "ClockZones$Walk" "amounts" "[I" ∈ z_tbl := z_m (by decide +kernel) (by decide +kernel)
theorem fl_10_191 : Cond.fieldLink "ClockZones" 191 "ClockZones$Walk" "allTime" "I" ∈ z_tbl := z_m (by decide +kernel) (by decide +kernel)
theorem fl_10_194 : Cond.fieldLink "ClockZones" 194 "ClockZones$Walk" "stepCount" "I" ∈ z_tbl := z_m (by decide +kernel) (by decide +kernel)
theorem fl_10_201 : Cond.fieldLink "ClockZones" 201 "ClockZones$Edge" "machine" "I" ∈ z_tbl := z_m (by decide +kernel) (by decide +kernel)
theorem fl_10_204 : Cond.fieldLink "ClockZones" 204 "ClockZones$Edge" "from" "I" ∈ z_tbl := z_m (by decide +kernel) (by decide +kernel)
theorem fl_10_207 : Cond.fieldLink "ClockZones" 207 "ClockZones$Edge" "to" "I" ∈ z_tbl := z_m (by decide +kernel) (by decide +kernel)
theorem fl_10_210 : Cond.fieldLink "ClockZones" 210 "ClockZones$Edge" "channel" "I" ∈ z_tbl := z_m (by decide +kernel) (by decide +kernel)
theorem fl_10_213 : Cond.fieldLink "ClockZones" 213 "ClockZones$Edge" "resets" "I" ∈ z_tbl := z_m (by decide +kernel) (by decide +kernel)
theorem fl_10_216 : Cond.fieldLink "ClockZones" 216 "ClockZones$TestList" "size" "I" ∈ z_tbl := z_m (by decide +kernel) (by decide +kernel)
theorem fl_10_227 : Cond.fieldLink "ClockZones" 227 "ClockZones$States" "size" "I" ∈ z_tbl := z_m (by decide +kernel) (by decide +kernel)
theorem fl_10_228 : Cond.fieldLink "ClockZones" 228 "ClockZones$Net" "moveCount" "I" ∈ z_tbl := z_m (by decide +kernel) (by decide +kernel)
theorem fl_10_257 : Cond.fieldLink "ClockZones" 257 "ClockZones$TestList" "tests" "[LClockZones$Test;" ∈ z_tbl := z_m (by decide +kernel) (by decide +kernel)
theorem fl_10_261 : Cond.fieldLink "ClockZones" 261 "ClockZones$Test" "clock" "I" ∈ z_tbl := z_m (by decide +kernel) (by decide +kernel)
theorem fl_10_268 : Cond.fieldLink "ClockZones" 268 "ClockZones$Test" "sort" "I" ∈ z_tbl := z_m (by decide +kernel) (by decide +kernel)
theorem fl_10_271 : Cond.fieldLink "ClockZones" 271 "ClockZones$Test" "number" "I" ∈ z_tbl := z_m (by decide +kernel) (by decide +kernel)
theorem fl_0_10 : Cond.fieldLink "ClockZones$Edge" 10 "ClockZones$Edge" "guards" "LClockZones$TestList;" ∈ z_tbl := z_m (by decide +kernel) (by decide +kernel)
theorem fl_0_16 : Cond.fieldLink "ClockZones$Edge" 16 "ClockZones$Edge" "machine" "I" ∈ z_tbl := z_m (by decide +kernel) (by decide +kernel)
theorem fl_0_20 : Cond.fieldLink "ClockZones$Edge" 20 "ClockZones$Edge" "from" "I" ∈ z_tbl := z_m (by decide +kernel) (by decide +kernel)
theorem fl_0_23 : Cond.fieldLink "ClockZones$Edge" 23 "ClockZones$Edge" "to" "I" ∈ z_tbl := z_m (by decide +kernel) (by decide +kernel)
theorem fl_0_26 : Cond.fieldLink "ClockZones$Edge" 26 "ClockZones$Edge" "channel" "I" ∈ z_tbl := z_m (by decide +kernel) (by decide +kernel)
theorem fl_0_29 : Cond.fieldLink "ClockZones$Edge" 29 "ClockZones$Edge" "resets" "I" ∈ z_tbl := z_m (by decide +kernel) (by decide +kernel)
theorem fl_1_7 : Cond.fieldLink "ClockZones$Move" 7 "ClockZones$Move" "first" "I" ∈ z_tbl := z_m (by decide +kernel) (by decide +kernel)
theorem fl_1_13 : Cond.fieldLink "ClockZones$Move" 13 "ClockZones$Move" "second" "I" ∈ z_tbl := z_m (by decide +kernel) (by decide +kernel)
theorem fl_1_16 : Cond.fieldLink "ClockZones$Move" 16 "ClockZones$Move" "call" "LClockZones$Edge;" ∈ z_tbl := z_m (by decide +kernel) (by decide +kernel)
theorem fl_1_20 : Cond.fieldLink "ClockZones$Move" 20 "ClockZones$Move" "answer" "LClockZones$Edge;" ∈ z_tbl := z_m (by decide +kernel) (by decide +kernel)
theorem fl_1_23 : Cond.fieldLink "ClockZones$Move" 23 "ClockZones$Edge" "resets" "I" ∈ z_tbl := z_m (by decide +kernel) (by decide +kernel)
theorem fl_1_28 : Cond.fieldLink "ClockZones$Move" 28 "ClockZones$Move" "resets" "I" ∈ z_tbl := z_m (by decide +kernel) (by decide +kernel)
theorem fl_1_29 : Cond.fieldLink "ClockZones$Move" 29 "ClockZones$Edge" "machine" "I" ∈ z_tbl := z_m (by decide +kernel) (by decide +kernel)
theorem fl_1_32 : Cond.fieldLink "ClockZones$Move" 32 "ClockZones$Edge" "from" "I" ∈ z_tbl := z_m (by decide +kernel) (by decide +kernel)
theorem fl_1_35 : Cond.fieldLink "ClockZones$Move" 35 "ClockZones$Edge" "to" "I" ∈ z_tbl := z_m (by decide +kernel) (by decide +kernel)
theorem fl_1_38 : Cond.fieldLink "ClockZones$Move" 38 "ClockZones$Edge" "guards" "LClockZones$TestList;" ∈ z_tbl := z_m (by decide +kernel) (by decide +kernel)
theorem fl_2_11 : Cond.fieldLink "ClockZones$Net" 11 "ClockZones$Net" "edges" "[LClockZones$Edge;" ∈ z_tbl := z_m (by decide +kernel) (by decide +kernel)
theorem fl_2_19 : Cond.fieldLink "ClockZones$Net" 19 "ClockZones$Net" "moves" "[LClockZones$Move;" ∈ z_tbl := z_m (by decide +kernel) (by decide +kernel)
theorem fl_2_25 : Cond.fieldLink "ClockZones$Net" 25 "ClockZones$Net" "limits" "[LClockZones$TestList;" ∈ z_tbl := z_m (by decide +kernel) (by decide +kernel)
theorem fl_2_30 : Cond.fieldLink "ClockZones$Net" 30 "ClockZones$Net" "edgeCount" "I" ∈ z_tbl := z_m (by decide +kernel) (by decide +kernel)
theorem fl_2_34 : Cond.fieldLink "ClockZones$Net" 34 "ClockZones$Edge" "channel" "I" ∈ z_tbl := z_m (by decide +kernel) (by decide +kernel)
theorem fl_2_48 : Cond.fieldLink "ClockZones$Net" 48 "ClockZones$Net" "moveCount" "I" ∈ z_tbl := z_m (by decide +kernel) (by decide +kernel)
theorem fl_2_55 : Cond.fieldLink "ClockZones$Net" 55 "ClockZones$Move" "first" "I" ∈ z_tbl := z_m (by decide +kernel) (by decide +kernel)
theorem fl_2_58 : Cond.fieldLink "ClockZones$Net" 58 "ClockZones$Move" "second" "I" ∈ z_tbl := z_m (by decide +kernel) (by decide +kernel)
theorem fl_2_61 : Cond.fieldLink "ClockZones$Net" 61 "ClockZones$TestList" "size" "I" ∈ z_tbl := z_m (by decide +kernel) (by decide +kernel)
theorem fl_2_76 : Cond.fieldLink "ClockZones$Net" 76 "ClockZones$Edge" "guards" "LClockZones$TestList;" ∈ z_tbl := z_m (by decide +kernel) (by decide +kernel)
theorem fl_3_12 : Cond.fieldLink "ClockZones$Search" 12 "ClockZones$Search" "states" "LClockZones$States;" ∈ z_tbl := z_m (by decide +kernel) (by decide +kernel)
theorem fl_3_18 : Cond.fieldLink "ClockZones$Search" 18 "ClockZones$Search" "isNeeded" "Z" ∈ z_tbl := z_m (by decide +kernel) (by decide +kernel)
theorem fl_3_22 : Cond.fieldLink "ClockZones$Search" 22 "ClockZones$Search" "facts" "[I" ∈ z_tbl := z_m (by decide +kernel) (by decide +kernel)
theorem fl_3_29 : Cond.fieldLink "ClockZones$Search" 29 "ClockZones$Search" "zone" "LClockZones$Zone;" ∈ z_tbl := z_m (by decide +kernel) (by decide +kernel)
theorem fl_3_33 : Cond.fieldLink "ClockZones$Search" 33 "ClockZones$Search" "most" "[I" ∈ z_tbl := z_m (by decide +kernel) (by decide +kernel)
theorem fl_3_51 : Cond.fieldLink "ClockZones$Search" 51 "ClockZones$States" "size" "I" ∈ z_tbl := z_m (by decide +kernel) (by decide +kernel)
theorem fl_3_55 : Cond.fieldLink "ClockZones$Search" 55 "ClockZones$Net" "moveCount" "I" ∈ z_tbl := z_m (by decide +kernel) (by decide +kernel)
theorem fl_3_60 : Cond.fieldLink "ClockZones$Search" 60 "ClockZones$Net" "moves" "[LClockZones$Move;" ∈ z_tbl := z_m (by decide +kernel) (by decide +kernel)
theorem fl_3_72 : Cond.fieldLink "ClockZones$Search" 72 "ClockZones$Search" "timesDone" "I" ∈ z_tbl := z_m (by decide +kernel) (by decide +kernel)
theorem fl_3_118 : Cond.fieldLink "ClockZones$Search" 118 "ClockZones$Move" "first" "I" ∈ z_tbl := z_m (by decide +kernel) (by decide +kernel)
theorem fl_3_121 : Cond.fieldLink "ClockZones$Search" 121 "ClockZones$Move" "second" "I" ∈ z_tbl := z_m (by decide +kernel) (by decide +kernel)
theorem fl_4_9 : Cond.fieldLink "ClockZones$States" 9 "ClockZones$States" "facts" "[I" ∈ z_tbl := z_m (by decide +kernel) (by decide +kernel)
theorem fl_4_15 : Cond.fieldLink "ClockZones$States" 15 "ClockZones$States" "bounds" "[I" ∈ z_tbl := z_m (by decide +kernel) (by decide +kernel)
theorem fl_4_18 : Cond.fieldLink "ClockZones$States" 18 "ClockZones$States" "size" "I" ∈ z_tbl := z_m (by decide +kernel) (by decide +kernel)
theorem fl_4_36 : Cond.fieldLink "ClockZones$States" 36 "ClockZones$Zone" "bounds" "[I" ∈ z_tbl := z_m (by decide +kernel) (by decide +kernel)
theorem fl_5_9 : Cond.fieldLink "ClockZones$Test" 9 "ClockZones$Test" "clock" "I" ∈ z_tbl := z_m (by decide +kernel) (by decide +kernel)
theorem fl_5_15 : Cond.fieldLink "ClockZones$Test" 15 "ClockZones$Test" "sort" "I" ∈ z_tbl := z_m (by decide +kernel) (by decide +kernel)
theorem fl_5_18 : Cond.fieldLink "ClockZones$Test" 18 "ClockZones$Test" "number" "I" ∈ z_tbl := z_m (by decide +kernel) (by decide +kernel)
theorem fl_6_11 : Cond.fieldLink "ClockZones$TestList" 11 "ClockZones$TestList" "tests" "[LClockZones$Test;" ∈ z_tbl := z_m (by decide +kernel) (by decide +kernel)
theorem fl_6_17 : Cond.fieldLink "ClockZones$TestList" 17 "ClockZones$TestList" "size" "I" ∈ z_tbl := z_m (by decide +kernel) (by decide +kernel)
theorem fl_6_21 : Cond.fieldLink "ClockZones$TestList" 21 "ClockZones$Test" "clock" "I" ∈ z_tbl := z_m (by decide +kernel) (by decide +kernel)
theorem fl_6_48 : Cond.fieldLink "ClockZones$TestList" 48 "ClockZones$Test" "number" "I" ∈ z_tbl := z_m (by decide +kernel) (by decide +kernel)
theorem fl_7_9 : Cond.fieldLink "ClockZones$Timetable" 9 "ClockZones$Timetable" "earliest" "[I" ∈ z_tbl := z_m (by decide +kernel) (by decide +kernel)
theorem fl_7_15 : Cond.fieldLink "ClockZones$Timetable" 15 "ClockZones$Timetable" "visited" "[I" ∈ z_tbl := z_m (by decide +kernel) (by decide +kernel)
theorem fl_7_18 : Cond.fieldLink "ClockZones$Timetable" 18 "ClockZones$Timetable" "lastSet" "[I" ∈ z_tbl := z_m (by decide +kernel) (by decide +kernel)
theorem fl_7_21 : Cond.fieldLink "ClockZones$Timetable" 21 "ClockZones$Timetable" "gapFrom" "[I" ∈ z_tbl := z_m (by decide +kernel) (by decide +kernel)
theorem fl_7_24 : Cond.fieldLink "ClockZones$Timetable" 24 "ClockZones$Timetable" "gapTo" "[I" ∈ z_tbl := z_m (by decide +kernel) (by decide +kernel)
theorem fl_7_27 : Cond.fieldLink "ClockZones$Timetable" 27 "ClockZones$Timetable" "gapLeast" "[I" ∈ z_tbl := z_m (by decide +kernel) (by decide +kernel)
theorem fl_7_45 : Cond.fieldLink "ClockZones$Timetable" 45 "ClockZones$Timetable" "gapCount" "I" ∈ z_tbl := z_m (by decide +kernel) (by decide +kernel)
theorem fl_7_76 : Cond.fieldLink "ClockZones$Timetable" 76 "ClockZones$Move" "call" "LClockZones$Edge;" ∈ z_tbl := z_m (by decide +kernel) (by decide +kernel)
theorem fl_7_82 : Cond.fieldLink "ClockZones$Timetable" 82 "ClockZones$Edge" "guards" "LClockZones$TestList;" ∈ z_tbl := z_m (by decide +kernel) (by decide +kernel)
theorem fl_7_92 : Cond.fieldLink "ClockZones$Timetable" 92 "ClockZones$Move" "answer" "LClockZones$Edge;" ∈ z_tbl := z_m (by decide +kernel) (by decide +kernel)
theorem fl_7_103 : Cond.fieldLink "ClockZones$Timetable" 103 "ClockZones$TestList" "size" "I" ∈ z_tbl := z_m (by decide +kernel) (by decide +kernel)
theorem fl_7_108 : Cond.fieldLink "ClockZones$Timetable" 108 "ClockZones$TestList" "tests" "[LClockZones$Test;" ∈ z_tbl := z_m (by decide +kernel) (by decide +kernel)
theorem fl_7_112 : Cond.fieldLink "ClockZones$Timetable" 112 "ClockZones$Test" "clock" "I" ∈ z_tbl := z_m (by decide +kernel) (by decide +kernel)
theorem fl_8_9 : Cond.fieldLink "ClockZones$Walk" 9 "ClockZones$Walk" "places" "[I" ∈ z_tbl := z_m (by decide +kernel) (by decide +kernel)
theorem fl_8_15 : Cond.fieldLink "ClockZones$Walk" 15 "ClockZones$Walk" "amounts" "[I" ∈ z_tbl := z_m (by decide +kernel) (by decide +kernel)
theorem fl_8_18 : Cond.fieldLink "ClockZones$Walk" 18 "ClockZones$Walk" "nextPlaces" "[I" ∈ z_tbl := z_m (by decide +kernel) (by decide +kernel)
theorem fl_8_21 : Cond.fieldLink "ClockZones$Walk" 21 "ClockZones$Walk" "nextAmounts" "[I" ∈ z_tbl := z_m (by decide +kernel) (by decide +kernel)
theorem fl_8_30 : Cond.fieldLink "ClockZones$Walk" 30 "ClockZones$Walk" "allTime" "I" ∈ z_tbl := z_m (by decide +kernel) (by decide +kernel)
theorem fl_8_34 : Cond.fieldLink "ClockZones$Walk" 34 "ClockZones$Walk" "stepCount" "I" ∈ z_tbl := z_m (by decide +kernel) (by decide +kernel)
theorem fl_8_43 : Cond.fieldLink "ClockZones$Walk" 43 "ClockZones$Walk" "isGoing" "Z" ∈ z_tbl := z_m (by decide +kernel) (by decide +kernel)
theorem fl_9_9 : Cond.fieldLink "ClockZones$Zone" 9 "ClockZones$Zone" "bounds" "[I" ∈ z_tbl := z_m (by decide +kernel) (by decide +kernel)
theorem fl_11_7 : Cond.fieldLink "ClockZonesModel" 7 "ClockZonesModel" "machine" "[I" ∈ z_tbl := z_m (by decide +kernel) (by decide +kernel)
theorem fl_11_13 : Cond.fieldLink "ClockZonesModel" 13 "ClockZonesModel" "from" "[I" ∈ z_tbl := z_m (by decide +kernel) (by decide +kernel)
theorem fl_11_16 : Cond.fieldLink "ClockZonesModel" 16 "ClockZonesModel" "to" "[I" ∈ z_tbl := z_m (by decide +kernel) (by decide +kernel)
theorem fl_11_19 : Cond.fieldLink "ClockZonesModel" 19 "ClockZonesModel" "channel" "[I" ∈ z_tbl := z_m (by decide +kernel) (by decide +kernel)
theorem fl_11_22 : Cond.fieldLink "ClockZonesModel" 22 "ClockZonesModel" "resets" "[I" ∈ z_tbl := z_m (by decide +kernel) (by decide +kernel)
theorem fl_11_25 : Cond.fieldLink "ClockZonesModel" 25 "ClockZonesModel" "guards" "[I" ∈ z_tbl := z_m (by decide +kernel) (by decide +kernel)
theorem fl_11_28 : Cond.fieldLink "ClockZonesModel" 28 "ClockZonesModel" "guardOf" "[I" ∈ z_tbl := z_m (by decide +kernel) (by decide +kernel)
theorem fl_11_31 : Cond.fieldLink "ClockZonesModel" 31 "ClockZonesModel" "limits" "[I" ∈ z_tbl := z_m (by decide +kernel) (by decide +kernel)
theorem fl_11_34 : Cond.fieldLink "ClockZonesModel" 34 "ClockZonesModel" "limitOf" "[I" ∈ z_tbl := z_m (by decide +kernel) (by decide +kernel)
theorem fl_11_37 : Cond.fieldLink "ClockZonesModel" 37 "ClockZonesModel" "isNeeded" "Z" ∈ z_tbl := z_m (by decide +kernel) (by decide +kernel)
theorem fl_11_41 : Cond.fieldLink "ClockZonesModel" 41 "ClockZonesModel" "places" "[I" ∈ z_tbl := z_m (by decide +kernel) (by decide +kernel)
theorem fl_11_44 : Cond.fieldLink "ClockZonesModel" 44 "ClockZonesModel" "zones" "[I" ∈ z_tbl := z_m (by decide +kernel) (by decide +kernel)
theorem fl_11_47 : Cond.fieldLink "ClockZonesModel" 47 "ClockZonesModel" "parent" "[I" ∈ z_tbl := z_m (by decide +kernel) (by decide +kernel)
theorem fl_11_50 : Cond.fieldLink "ClockZonesModel" 50 "ClockZonesModel" "moveE" "[I" ∈ z_tbl := z_m (by decide +kernel) (by decide +kernel)
theorem fl_11_53 : Cond.fieldLink "ClockZonesModel" 53 "ClockZonesModel" "moveF" "[I" ∈ z_tbl := z_m (by decide +kernel) (by decide +kernel)
theorem fl_11_56 : Cond.fieldLink "ClockZonesModel" 56 "ClockZonesModel" "moves" "[I" ∈ z_tbl := z_m (by decide +kernel) (by decide +kernel)
theorem fl_11_59 : Cond.fieldLink "ClockZonesModel" 59 "ClockZonesModel" "z" "[I" ∈ z_tbl := z_m (by decide +kernel) (by decide +kernel)
theorem fl_11_62 : Cond.fieldLink "ClockZonesModel" 62 "ClockZonesModel" "ahead" "[I" ∈ z_tbl := z_m (by decide +kernel) (by decide +kernel)
theorem fl_11_65 : Cond.fieldLink "ClockZonesModel" 65 "ClockZonesModel" "at" "[I" ∈ z_tbl := z_m (by decide +kernel) (by decide +kernel)
theorem fl_11_68 : Cond.fieldLink "ClockZonesModel" 68 "ClockZonesModel" "amounts" "[I" ∈ z_tbl := z_m (by decide +kernel) (by decide +kernel)
theorem fl_11_71 : Cond.fieldLink "ClockZonesModel" 71 "ClockZonesModel" "way" "[I" ∈ z_tbl := z_m (by decide +kernel) (by decide +kernel)
theorem fl_11_74 : Cond.fieldLink "ClockZonesModel" 74 "ClockZonesModel" "moments" "[I" ∈ z_tbl := z_m (by decide +kernel) (by decide +kernel)
theorem fl_11_77 : Cond.fieldLink "ClockZonesModel" 77 "ClockZonesModel" "runAt" "[I" ∈ z_tbl := z_m (by decide +kernel) (by decide +kernel)
theorem fl_11_80 : Cond.fieldLink "ClockZonesModel" 80 "ClockZonesModel" "runClock" "[I" ∈ z_tbl := z_m (by decide +kernel) (by decide +kernel)
theorem fl_11_83 : Cond.fieldLink "ClockZonesModel" 83 "ClockZonesModel" "runs" "Z" ∈ z_tbl := z_m (by decide +kernel) (by decide +kernel)
theorem fl_11_90 : Cond.fieldLink "ClockZonesModel" 90 "ClockZonesModel" "edges" "I" ∈ z_tbl := z_m (by decide +kernel) (by decide +kernel)
theorem fl_11_94 : Cond.fieldLink "ClockZonesModel" 94 "ClockZonesModel" "states" "I" ∈ z_tbl := z_m (by decide +kernel) (by decide +kernel)
theorem fl_11_149 : Cond.fieldLink "ClockZonesModel" 149 "ClockZonesModel" "explored" "I" ∈ z_tbl := z_m (by decide +kernel) (by decide +kernel)
theorem fl_11_180 : Cond.fieldLink "ClockZonesModel" 180 "ClockZonesModel" "isMoved" "Z" ∈ z_tbl := z_m (by decide +kernel) (by decide +kernel)
theorem fl_11_212 : Cond.fieldLink "ClockZonesModel" 212 "ClockZonesModel" "runTime" "I" ∈ z_tbl := z_m (by decide +kernel) (by decide +kernel)
theorem fl_11_215 : Cond.fieldLink "ClockZonesModel" 215 "ClockZonesModel" "runMoves" "I" ∈ z_tbl := z_m (by decide +kernel) (by decide +kernel)
theorem fl_11_234 : Cond.fieldLink "ClockZonesModel" 234 "ClockZonesModel" "h" "J" ∈ z_tbl := z_m (by decide +kernel) (by decide +kernel)
theorem kc_10_119 : Cond.constant "ClockZones" 119 (100001 : Int32) ∈ z_tbl := z_m (by decide +kernel) (by decide +kernel)
theorem kc_10_123 : Cond.constant "ClockZones" 123 (100002 : Int32) ∈ z_tbl := z_m (by decide +kernel) (by decide +kernel)
theorem kc_10_164 : Cond.constant "ClockZones" 164 (64000 : Int32) ∈ z_tbl := z_m (by decide +kernel) (by decide +kernel)
theorem kc_10_172 : Cond.constant "ClockZones" 172 (1000000 : Int32) ∈ z_tbl := z_m (by decide +kernel) (by decide +kernel)
theorem kc_4_54 : Cond.constant "ClockZones$States" 54 (100000 : Int32) ∈ z_tbl := z_m (by decide +kernel) (by decide +kernel)
theorem kc_9_15 : Cond.constant "ClockZones$Zone" 15 (100000 : Int32) ∈ z_tbl := z_m (by decide +kernel) (by decide +kernel)
theorem kc_11_113 : Cond.constant "ClockZonesModel" 113 (100000 : Int32) ∈ z_tbl := z_m (by decide +kernel) (by decide +kernel)
theorem kc_11_171 : Cond.constant "ClockZonesModel" 171 (100001 : Int32) ∈ z_tbl := z_m (by decide +kernel) (by decide +kernel)
theorem kc_11_172 : Cond.constant "ClockZonesModel" 172 (100002 : Int32) ∈ z_tbl := z_m (by decide +kernel) (by decide +kernel)
theorem kc_11_173 : Cond.constant "ClockZonesModel" 173 (1000000 : Int32) ∈ z_tbl := z_m (by decide +kernel) (by decide +kernel)
theorem kc_11_218 : Cond.constant "ClockZonesModel" 218 (64000 : Int32) ∈ z_tbl := z_m (by decide +kernel) (by decide +kernel)
theorem kl_10_231 : Cond.constantLong "ClockZones" 231 (71 : Int64) ∈ z_tbl := z_m (by decide +kernel) (by decide +kernel)
theorem kl_10_255 : Cond.constantLong "ClockZones" 255 (31 : Int64) ∈ z_tbl := z_m (by decide +kernel) (by decide +kernel)
theorem kl_11_232 : Cond.constantLong "ClockZonesModel" 232 (31 : Int64) ∈ z_tbl := z_m (by decide +kernel) (by decide +kernel)
theorem kl_11_238 : Cond.constantLong "ClockZonesModel" 238 (71 : Int64) ∈ z_tbl := z_m (by decide +kernel) (by decide +kernel)
theorem mo_10_3 : ∀ w ∈ [Cond.methodLink "ClockZones" 3 Lib.objectInit, Cond.instanceMethod Lib.objectInit, Cond.code Lib.objectInit ⟨#[0xb1]⟩ 1 none], w ∈ z_tbl := fun w h => z_m (by revert w h; decide +kernel) (by revert w h; decide +kernel)
theorem mv_10_11 : ∀ w ∈ [Cond.methodLink "ClockZones" 11 yX2_init, Cond.instanceMethod yX2_init, Cond.initialized yX2_init.cls, Cond.code yX2_init cX2_init 2 none], w ∈ z_tbl := fun w h => z_m (by revert w h; decide +kernel) (by revert w h; decide +kernel)
theorem mv_10_18 : ∀ w ∈ [Cond.instanceMethod yX3_init, Cond.initialized yX3_init.cls, Cond.code yX3_init cX3_init 1 none], w ∈ z_tbl := fun w h => z_m (by revert w h; decide +kernel) (by revert w h; decide +kernel)
theorem mv_10_25 : ∀ w ∈ [Cond.instanceMethod yX8_init, Cond.initialized yX8_init.cls, Cond.code yX8_init cX8_init 1 none], w ∈ z_tbl := fun w h => z_m (by revert w h; decide +kernel) (by revert w h; decide +kernel)
theorem mv_10_32 : ∀ w ∈ [Cond.instanceMethod yX7_init, Cond.initialized yX7_init.cls, Cond.code yX7_init cX7_init 1 none], w ∈ z_tbl := fun w h => z_m (by revert w h; decide +kernel) (by revert w h; decide +kernel)
theorem mv_10_44 : ∀ w ∈ [Cond.methodLink "ClockZones" 44 yX10_isMachine, Cond.static yX10_isMachine, Cond.initialized yX10_isMachine.cls, Cond.code yX10_isMachine cX10_isMachine 1 (some .boolean)], w ∈ z_tbl := fun w h => z_m (by revert w h; decide +kernel) (by revert w h; decide +kernel)
theorem mv_10_48 : ∀ w ∈ [Cond.methodLink "ClockZones" 48 yX10_isPlace, Cond.static yX10_isPlace, Cond.initialized yX10_isPlace.cls, Cond.code yX10_isPlace cX10_isPlace 1 (some .boolean)], w ∈ z_tbl := fun w h => z_m (by revert w h; decide +kernel) (by revert w h; decide +kernel)
theorem mv_10_55 : ∀ w ∈ [Cond.methodLink "ClockZones" 55 yX10_forgetFindings, Cond.instanceMethod yX10_forgetFindings, Cond.selects yX10_forgetFindings.cls yX10_forgetFindings yX10_forgetFindings, Cond.initialized yX10_forgetFindings.cls, Cond.code yX10_forgetFindings cX10_forgetFindings 1 none], w ∈ z_tbl := fun w h => z_m (by revert w h; decide +kernel) (by revert w h; decide +kernel)
theorem mv_10_60 : ∀ w ∈ [Cond.methodLink "ClockZones" 60 yX0_init, Cond.instanceMethod yX0_init, Cond.initialized yX0_init.cls, Cond.code yX0_init cX0_init 6 none], w ∈ z_tbl := fun w h => z_m (by revert w h; decide +kernel) (by revert w h; decide +kernel)
theorem mv_10_63 : ∀ w ∈ [Cond.methodLink "ClockZones" 63 yX2_addEdge, Cond.instanceMethod yX2_addEdge, Cond.selects yX2_addEdge.cls yX2_addEdge yX2_addEdge, Cond.initialized yX2_addEdge.cls, Cond.code yX2_addEdge cX2_addEdge 4 (some .int)], w ∈ z_tbl := fun w h => z_m (by revert w h; decide +kernel) (by revert w h; decide +kernel)
theorem mv_10_67 : ∀ w ∈ [Cond.methodLink "ClockZones" 67 yX2_isEdge, Cond.instanceMethod yX2_isEdge, Cond.selects yX2_isEdge.cls yX2_isEdge yX2_isEdge, Cond.initialized yX2_isEdge.cls, Cond.code yX2_isEdge cX2_isEdge 2 (some .boolean)], w ∈ z_tbl := fun w h => z_m (by revert w h; decide +kernel) (by revert w h; decide +kernel)
theorem mv_10_70 : ∀ w ∈ [Cond.methodLink "ClockZones" 70 yX10_isClock, Cond.static yX10_isClock, Cond.initialized yX10_isClock.cls, Cond.code yX10_isClock cX10_isClock 1 (some .boolean)], w ∈ z_tbl := fun w h => z_m (by revert w h; decide +kernel) (by revert w h; decide +kernel)
theorem mv_10_73 : ∀ w ∈ [Cond.methodLink "ClockZones" 73 yX10_isNumber, Cond.static yX10_isNumber, Cond.initialized yX10_isNumber.cls, Cond.code yX10_isNumber cX10_isNumber 1 (some .boolean)], w ∈ z_tbl := fun w h => z_m (by revert w h; decide +kernel) (by revert w h; decide +kernel)
theorem mv_10_84 : ∀ w ∈ [Cond.methodLink "ClockZones" 84 yX10_addTest, Cond.instanceMethod yX10_addTest, Cond.selects yX10_addTest.cls yX10_addTest yX10_addTest, Cond.initialized yX10_addTest.cls, Cond.code yX10_addTest cX10_addTest 5 (some .int)], w ∈ z_tbl := fun w h => z_m (by revert w h; decide +kernel) (by revert w h; decide +kernel)
theorem mv_10_88 : ∀ w ∈ [Cond.methodLink "ClockZones" 88 yX2_limitsOf, Cond.instanceMethod yX2_limitsOf, Cond.selects yX2_limitsOf.cls yX2_limitsOf yX2_limitsOf, Cond.initialized yX2_limitsOf.cls, Cond.code yX2_limitsOf cX2_limitsOf 3 (some (.object "ClockZones$TestList"))], w ∈ z_tbl := fun w h => z_m (by revert w h; decide +kernel) (by revert w h; decide +kernel)
theorem mv_10_92 : ∀ w ∈ [Cond.methodLink "ClockZones" 92 yX2_clear, Cond.instanceMethod yX2_clear, Cond.selects yX2_clear.cls yX2_clear yX2_clear, Cond.initialized yX2_clear.cls, Cond.code yX2_clear cX2_clear 2 none], w ∈ z_tbl := fun w h => z_m (by revert w h; decide +kernel) (by revert w h; decide +kernel)
theorem mv_10_98 : ∀ w ∈ [Cond.methodLink "ClockZones" 98 yX3_meetAll, Cond.instanceMethod yX3_meetAll, Cond.selects yX3_meetAll.cls yX3_meetAll yX3_meetAll, Cond.initialized yX3_meetAll.cls, Cond.code yX3_meetAll cX3_meetAll 5 (some .int)], w ∈ z_tbl := fun w h => z_m (by revert w h; decide +kernel) (by revert w h; decide +kernel)
theorem mv_10_110 : ∀ w ∈ [Cond.methodLink "ClockZones" 110 yX4_isMet, Cond.instanceMethod yX4_isMet, Cond.selects yX4_isMet.cls yX4_isMet yX4_isMet, Cond.initialized yX4_isMet.cls, Cond.code yX4_isMet cX4_isMet 2 (some .boolean)], w ∈ z_tbl := fun w h => z_m (by revert w h; decide +kernel) (by revert w h; decide +kernel)
theorem mv_10_115 : ∀ w ∈ [Cond.methodLink "ClockZones" 115 yX4_fact, Cond.instanceMethod yX4_fact, Cond.selects yX4_fact.cls yX4_fact yX4_fact, Cond.initialized yX4_fact.cls, Cond.code yX4_fact cX4_fact 3 (some .int)], w ∈ z_tbl := fun w h => z_m (by revert w h; decide +kernel) (by revert w h; decide +kernel)
theorem mv_10_120 : ∀ w ∈ [Cond.methodLink "ClockZones" 120 yX10_isClockOrZero, Cond.static yX10_isClockOrZero, Cond.initialized yX10_isClockOrZero.cls, Cond.code yX10_isClockOrZero cX10_isClockOrZero 1 (some .boolean)], w ∈ z_tbl := fun w h => z_m (by revert w h; decide +kernel) (by revert w h; decide +kernel)
theorem mv_10_124 : ∀ w ∈ [Cond.methodLink "ClockZones" 124 yX4_boundOf, Cond.instanceMethod yX4_boundOf, Cond.selects yX4_boundOf.cls yX4_boundOf yX4_boundOf, Cond.initialized yX4_boundOf.cls, Cond.code yX4_boundOf cX4_boundOf 4 (some .int)], w ∈ z_tbl := fun w h => z_m (by revert w h; decide +kernel) (by revert w h; decide +kernel)
theorem mv_10_128 : ∀ w ∈ [Cond.methodLink "ClockZones" 128 yX10_isPlaceOrAny, Cond.static yX10_isPlaceOrAny, Cond.initialized yX10_isPlaceOrAny.cls, Cond.code yX10_isPlaceOrAny cX10_isPlaceOrAny 1 (some .boolean)], w ∈ z_tbl := fun w h => z_m (by revert w h; decide +kernel) (by revert w h; decide +kernel)
theorem mv_10_131 : ∀ w ∈ [Cond.methodLink "ClockZones" 131 yX4_firstAt, Cond.instanceMethod yX4_firstAt, Cond.selects yX4_firstAt.cls yX4_firstAt yX4_firstAt, Cond.initialized yX4_firstAt.cls, Cond.code yX4_firstAt cX4_firstAt 3 (some .int)], w ∈ z_tbl := fun w h => z_m (by revert w h; decide +kernel) (by revert w h; decide +kernel)
theorem mv_10_135 : ∀ w ∈ [Cond.methodLink "ClockZones" 135 yX10_isAmount, Cond.static yX10_isAmount, Cond.initialized yX10_isAmount.cls, Cond.code yX10_isAmount cX10_isAmount 1 (some .boolean)], w ∈ z_tbl := fun w h => z_m (by revert w h; decide +kernel) (by revert w h; decide +kernel)
theorem mv_10_138 : ∀ w ∈ [Cond.methodLink "ClockZones" 138 yX4_holds, Cond.instanceMethod yX4_holds, Cond.selects yX4_holds.cls yX4_holds yX4_holds, Cond.initialized yX4_holds.cls, Cond.code yX4_holds cX4_holds 7 (some .boolean)], w ∈ z_tbl := fun w h => z_m (by revert w h; decide +kernel) (by revert w h; decide +kernel)
theorem mv_10_142 : ∀ w ∈ [Cond.methodLink "ClockZones" 142 yX4_isStep, Cond.instanceMethod yX4_isStep, Cond.selects yX4_isStep.cls yX4_isStep yX4_isStep, Cond.initialized yX4_isStep.cls, Cond.code yX4_isStep cX4_isStep 3 (some .boolean)], w ∈ z_tbl := fun w h => z_m (by revert w h; decide +kernel) (by revert w h; decide +kernel)
theorem mv_10_146 : ∀ w ∈ [Cond.methodLink "ClockZones" 146 yX4_onWay, Cond.instanceMethod yX4_onWay, Cond.selects yX4_onWay.cls yX4_onWay yX4_onWay, Cond.initialized yX4_onWay.cls, Cond.code yX4_onWay cX4_onWay 5 (some .int)], w ∈ z_tbl := fun w h => z_m (by revert w h; decide +kernel) (by revert w h; decide +kernel)
theorem mv_10_149 : ∀ w ∈ [Cond.methodLink "ClockZones" 149 yX7_fill, Cond.instanceMethod yX7_fill, Cond.selects yX7_fill.cls yX7_fill yX7_fill, Cond.initialized yX7_fill.cls, Cond.code yX7_fill cX7_fill 7 none], w ∈ z_tbl := fun w h => z_m (by revert w h; decide +kernel) (by revert w h; decide +kernel)
theorem mv_10_156 : ∀ w ∈ [Cond.methodLink "ClockZones" 156 yX2_greatestOf, Cond.instanceMethod yX2_greatestOf, Cond.selects yX2_greatestOf.cls yX2_greatestOf yX2_greatestOf, Cond.initialized yX2_greatestOf.cls, Cond.code yX2_greatestOf cX2_greatestOf 4 (some .int)], w ∈ z_tbl := fun w h => z_m (by revert w h; decide +kernel) (by revert w h; decide +kernel)
theorem mv_10_160 : ∀ w ∈ [Cond.methodLink "ClockZones" 160 yX8_start, Cond.instanceMethod yX8_start, Cond.selects yX8_start.cls yX8_start yX8_start, Cond.initialized yX8_start.cls, Cond.code yX8_start cX8_start 2 (some .boolean)], w ∈ z_tbl := fun w h => z_m (by revert w h; decide +kernel) (by revert w h; decide +kernel)
theorem mv_10_168 : ∀ w ∈ [Cond.methodLink "ClockZones" 168 yX8_greatestAmount, Cond.instanceMethod yX8_greatestAmount, Cond.selects yX8_greatestAmount.cls yX8_greatestAmount yX8_greatestAmount, Cond.initialized yX8_greatestAmount.cls, Cond.code yX8_greatestAmount cX8_greatestAmount 1 (some .int)], w ∈ z_tbl := fun w h => z_m (by revert w h; decide +kernel) (by revert w h; decide +kernel)
theorem mv_10_173 : ∀ w ∈ [Cond.methodLink "ClockZones" 173 yX8_linger, Cond.instanceMethod yX8_linger, Cond.selects yX8_linger.cls yX8_linger yX8_linger, Cond.initialized yX8_linger.cls, Cond.code yX8_linger cX8_linger 4 (some .boolean)], w ∈ z_tbl := fun w h => z_m (by revert w h; decide +kernel) (by revert w h; decide +kernel)
theorem mv_10_177 : ∀ w ∈ [Cond.methodLink "ClockZones" 177 yX2_find, Cond.instanceMethod yX2_find, Cond.selects yX2_find.cls yX2_find yX2_find, Cond.initialized yX2_find.cls, Cond.code yX2_find cX2_find 4 (some (.object "ClockZones$Move"))], w ∈ z_tbl := fun w h => z_m (by revert w h; decide +kernel) (by revert w h; decide +kernel)
theorem mv_10_181 : ∀ w ∈ [Cond.methodLink "ClockZones" 181 yX8_take, Cond.instanceMethod yX8_take, Cond.selects yX8_take.cls yX8_take yX8_take, Cond.initialized yX8_take.cls, Cond.code yX8_take cX8_take 4 (some .boolean)], w ∈ z_tbl := fun w h => z_m (by revert w h; decide +kernel) (by revert w h; decide +kernel)
theorem mv_10_197 : ∀ w ∈ [Cond.methodLink "ClockZones" 197 yX4_firstHolding, Cond.instanceMethod yX4_firstHolding, Cond.selects yX4_firstHolding.cls yX4_firstHolding yX4_firstHolding, Cond.initialized yX4_firstHolding.cls, Cond.code yX4_firstHolding cX4_firstHolding 4 (some .int)], w ∈ z_tbl := fun w h => z_m (by revert w h; decide +kernel) (by revert w h; decide +kernel)
theorem mv_10_221 : ∀ w ∈ [Cond.methodLink "ClockZones" 221 yX2_limitCount, Cond.instanceMethod yX2_limitCount, Cond.selects yX2_limitCount.cls yX2_limitCount yX2_limitCount, Cond.initialized yX2_limitCount.cls, Cond.code yX2_limitCount cX2_limitCount 3 (some .int)], w ∈ z_tbl := fun w h => z_m (by revert w h; decide +kernel) (by revert w h; decide +kernel)
theorem mv_10_224 : ∀ w ∈ [Cond.methodLink "ClockZones" 224 yX2_guardCount, Cond.instanceMethod yX2_guardCount, Cond.selects yX2_guardCount.cls yX2_guardCount yX2_guardCount, Cond.initialized yX2_guardCount.cls, Cond.code yX2_guardCount cX2_guardCount 3 (some .int)], w ∈ z_tbl := fun w h => z_m (by revert w h; decide +kernel) (by revert w h; decide +kernel)
theorem mv_10_233 : ∀ w ∈ [Cond.methodLink "ClockZones" 233 yX10_mixEdges, Cond.instanceMethod yX10_mixEdges, Cond.selects yX10_mixEdges.cls yX10_mixEdges yX10_mixEdges, Cond.initialized yX10_mixEdges.cls, Cond.code yX10_mixEdges cX10_mixEdges 7 (some .long)], w ∈ z_tbl := fun w h => z_m (by revert w h; decide +kernel) (by revert w h; decide +kernel)
theorem mv_10_237 : ∀ w ∈ [Cond.methodLink "ClockZones" 237 yX10_mixLimits, Cond.instanceMethod yX10_mixLimits, Cond.selects yX10_mixLimits.cls yX10_mixLimits yX10_mixLimits, Cond.initialized yX10_mixLimits.cls, Cond.code yX10_mixLimits cX10_mixLimits 8 (some .long)], w ∈ z_tbl := fun w h => z_m (by revert w h; decide +kernel) (by revert w h; decide +kernel)
theorem mv_10_240 : ∀ w ∈ [Cond.methodLink "ClockZones" 240 yX10_mixStates, Cond.instanceMethod yX10_mixStates, Cond.selects yX10_mixStates.cls yX10_mixStates yX10_mixStates, Cond.initialized yX10_mixStates.cls, Cond.code yX10_mixStates cX10_mixStates 8 (some .long)], w ∈ z_tbl := fun w h => z_m (by revert w h; decide +kernel) (by revert w h; decide +kernel)
theorem mv_10_243 : ∀ w ∈ [Cond.methodLink "ClockZones" 243 yX10_mixWalk, Cond.instanceMethod yX10_mixWalk, Cond.selects yX10_mixWalk.cls yX10_mixWalk yX10_mixWalk, Cond.initialized yX10_mixWalk.cls, Cond.code yX10_mixWalk cX10_mixWalk 6 (some .long)], w ∈ z_tbl := fun w h => z_m (by revert w h; decide +kernel) (by revert w h; decide +kernel)
theorem mv_10_248 : ∀ w ∈ [Cond.methodLink "ClockZones" 248 yX5_init, Cond.instanceMethod yX5_init, Cond.initialized yX5_init.cls, Cond.code yX5_init cX5_init 4 none], w ∈ z_tbl := fun w h => z_m (by revert w h; decide +kernel) (by revert w h; decide +kernel)
theorem mv_10_251 : ∀ w ∈ [Cond.methodLink "ClockZones" 251 yX6_add, Cond.instanceMethod yX6_add, Cond.selects yX6_add.cls yX6_add yX6_add, Cond.initialized yX6_add.cls, Cond.code yX6_add cX6_add 2 none], w ∈ z_tbl := fun w h => z_m (by revert w h; decide +kernel) (by revert w h; decide +kernel)
theorem mv_10_264 : ∀ w ∈ [Cond.methodLink "ClockZones" 264 yX10_mix, Cond.static yX10_mix, Cond.initialized yX10_mix.cls, Cond.code yX10_mix cX10_mix 4 (some .long)], w ∈ z_tbl := fun w h => z_m (by revert w h; decide +kernel) (by revert w h; decide +kernel)
theorem mv_10_274 : ∀ w ∈ [Cond.methodLink "ClockZones" 274 yX10_about, Cond.instanceMethod yX10_about, Cond.selects yX10_about.cls yX10_about yX10_about, Cond.initialized yX10_about.cls, Cond.code yX10_about cX10_about 4 (some .int)], w ∈ z_tbl := fun w h => z_m (by revert w h; decide +kernel) (by revert w h; decide +kernel)
theorem mv_10_277 : ∀ w ∈ [Cond.methodLink "ClockZones" 277 yX10_mixTests, Cond.static yX10_mixTests, Cond.initialized yX10_mixTests.cls, Cond.code yX10_mixTests cX10_mixTests 7 (some .long)], w ∈ z_tbl := fun w h => z_m (by revert w h; decide +kernel) (by revert w h; decide +kernel)
theorem mv_10_281 : ∀ w ∈ [Cond.methodLink "ClockZones" 281 yX10_state, Cond.instanceMethod yX10_state, Cond.selects yX10_state.cls yX10_state yX10_state, Cond.initialized yX10_state.cls, Cond.code yX10_state cX10_state 3 (some .int)], w ∈ z_tbl := fun w h => z_m (by revert w h; decide +kernel) (by revert w h; decide +kernel)
theorem mv_10_284 : ∀ w ∈ [Cond.methodLink "ClockZones" 284 yX10_bound, Cond.instanceMethod yX10_bound, Cond.selects yX10_bound.cls yX10_bound yX10_bound, Cond.initialized yX10_bound.cls, Cond.code yX10_bound cX10_bound 4 (some .int)], w ∈ z_tbl := fun w h => z_m (by revert w h; decide +kernel) (by revert w h; decide +kernel)
theorem mv_10_287 : ∀ w ∈ [Cond.methodLink "ClockZones" 287 yX10_run, Cond.instanceMethod yX10_run, Cond.selects yX10_run.cls yX10_run yX10_run, Cond.initialized yX10_run.cls, Cond.code yX10_run cX10_run 2 (some .int)], w ∈ z_tbl := fun w h => z_m (by revert w h; decide +kernel) (by revert w h; decide +kernel)
theorem mo_0_1 : ∀ w ∈ [Cond.methodLink "ClockZones$Edge" 1 Lib.objectInit, Cond.instanceMethod Lib.objectInit, Cond.code Lib.objectInit ⟨#[0xb1]⟩ 1 none], w ∈ z_tbl := fun w h => z_m (by revert w h; decide +kernel) (by revert w h; decide +kernel)
theorem mv_0_9 : ∀ w ∈ [Cond.instanceMethod yX6_init, Cond.initialized yX6_init.cls, Cond.code yX6_init cX6_init 1 none], w ∈ z_tbl := fun w h => z_m (by revert w h; decide +kernel) (by revert w h; decide +kernel)
theorem mo_1_1 : ∀ w ∈ [Cond.methodLink "ClockZones$Move" 1 Lib.objectInit, Cond.instanceMethod Lib.objectInit, Cond.code Lib.objectInit ⟨#[0xb1]⟩ 1 none], w ∈ z_tbl := fun w h => z_m (by revert w h; decide +kernel) (by revert w h; decide +kernel)
theorem mv_1_42 : ∀ w ∈ [Cond.methodLink "ClockZones$Move" 42 yX6_allow, Cond.instanceMethod yX6_allow, Cond.selects yX6_allow.cls yX6_allow yX6_allow, Cond.initialized yX6_allow.cls, Cond.code yX6_allow cX6_allow 3 (some .boolean)], w ∈ z_tbl := fun w h => z_m (by revert w h; decide +kernel) (by revert w h; decide +kernel)
theorem mv_1_48 : ∀ w ∈ [Cond.methodLink "ClockZones$Move" 48 yX6_narrow, Cond.instanceMethod yX6_narrow, Cond.selects yX6_narrow.cls yX6_narrow yX6_narrow, Cond.initialized yX6_narrow.cls, Cond.code yX6_narrow cX6_narrow 4 (some .boolean)], w ∈ z_tbl := fun w h => z_m (by revert w h; decide +kernel) (by revert w h; decide +kernel)
theorem mo_2_3 : ∀ w ∈ [Cond.methodLink "ClockZones$Net" 3 Lib.objectInit, Cond.instanceMethod Lib.objectInit, Cond.code Lib.objectInit ⟨#[0xb1]⟩ 1 none], w ∈ z_tbl := fun w h => z_m (by revert w h; decide +kernel) (by revert w h; decide +kernel)
theorem mv_2_29 : ∀ w ∈ [Cond.instanceMethod yX6_init, Cond.initialized yX6_init.cls, Cond.code yX6_init cX6_init 1 none], w ∈ z_tbl := fun w h => z_m (by revert w h; decide +kernel) (by revert w h; decide +kernel)
theorem mv_2_37 : ∀ w ∈ [Cond.methodLink "ClockZones$Net" 37 yX1_init, Cond.instanceMethod yX1_init, Cond.initialized yX1_init.cls, Cond.code yX1_init cX1_init 5 none], w ∈ z_tbl := fun w h => z_m (by revert w h; decide +kernel) (by revert w h; decide +kernel)
theorem mv_2_40 : ∀ w ∈ [Cond.methodLink "ClockZones$Net" 40 yX2_insert, Cond.instanceMethod yX2_insert, Cond.selects yX2_insert.cls yX2_insert yX2_insert, Cond.initialized yX2_insert.cls, Cond.code yX2_insert cX2_insert 3 none], w ∈ z_tbl := fun w h => z_m (by revert w h; decide +kernel) (by revert w h; decide +kernel)
theorem mv_2_44 : ∀ w ∈ [Cond.methodLink "ClockZones$Net" 44 yX0_isAnsweredBy, Cond.instanceMethod yX0_isAnsweredBy, Cond.selects yX0_isAnsweredBy.cls yX0_isAnsweredBy yX0_isAnsweredBy, Cond.initialized yX0_isAnsweredBy.cls, Cond.code yX0_isAnsweredBy cX0_isAnsweredBy 2 (some .boolean)], w ∈ z_tbl := fun w h => z_m (by revert w h; decide +kernel) (by revert w h; decide +kernel)
theorem mv_2_51 : ∀ w ∈ [Cond.methodLink "ClockZones$Net" 51 yX1_comesAfter, Cond.instanceMethod yX1_comesAfter, Cond.selects yX1_comesAfter.cls yX1_comesAfter yX1_comesAfter, Cond.initialized yX1_comesAfter.cls, Cond.code yX1_comesAfter cX1_comesAfter 2 (some .boolean)], w ∈ z_tbl := fun w h => z_m (by revert w h; decide +kernel) (by revert w h; decide +kernel)
theorem mv_2_64 : ∀ w ∈ [Cond.methodLink "ClockZones$Net" 64 yX2_limitsOf, Cond.instanceMethod yX2_limitsOf, Cond.selects yX2_limitsOf.cls yX2_limitsOf yX2_limitsOf, Cond.initialized yX2_limitsOf.cls, Cond.code yX2_limitsOf cX2_limitsOf 3 (some (.object "ClockZones$TestList"))], w ∈ z_tbl := fun w h => z_m (by revert w h; decide +kernel) (by revert w h; decide +kernel)
theorem mv_2_68 : ∀ w ∈ [Cond.methodLink "ClockZones$Net" 68 yX6_allow, Cond.instanceMethod yX6_allow, Cond.selects yX6_allow.cls yX6_allow yX6_allow, Cond.initialized yX6_allow.cls, Cond.code yX6_allow cX6_allow 3 (some .boolean)], w ∈ z_tbl := fun w h => z_m (by revert w h; decide +kernel) (by revert w h; decide +kernel)
theorem mv_2_72 : ∀ w ∈ [Cond.methodLink "ClockZones$Net" 72 yX6_narrow, Cond.instanceMethod yX6_narrow, Cond.selects yX6_narrow.cls yX6_narrow yX6_narrow, Cond.initialized yX6_narrow.cls, Cond.code yX6_narrow cX6_narrow 4 (some .boolean)], w ∈ z_tbl := fun w h => z_m (by revert w h; decide +kernel) (by revert w h; decide +kernel)
theorem mv_2_80 : ∀ w ∈ [Cond.methodLink "ClockZones$Net" 80 yX6_greatestNumber, Cond.instanceMethod yX6_greatestNumber, Cond.selects yX6_greatestNumber.cls yX6_greatestNumber yX6_greatestNumber, Cond.initialized yX6_greatestNumber.cls, Cond.code yX6_greatestNumber cX6_greatestNumber 4 (some .int)], w ∈ z_tbl := fun w h => z_m (by revert w h; decide +kernel) (by revert w h; decide +kernel)
theorem mm_2_84 : ∀ w ∈ [Cond.methodLink "ClockZones$Net" 84 Lib.Math.max.name, Cond.static Lib.Math.max.name, Cond.initialized "java/lang/Math", Cond.code Lib.Math.max.name Lib.Math.max.code 2 (some .int)], w ∈ z_tbl := fun w h => z_m (by revert w h; decide +kernel) (by revert w h; decide +kernel)
theorem mo_3_3 : ∀ w ∈ [Cond.methodLink "ClockZones$Search" 3 Lib.objectInit, Cond.instanceMethod Lib.objectInit, Cond.code Lib.objectInit ⟨#[0xb1]⟩ 1 none], w ∈ z_tbl := fun w h => z_m (by revert w h; decide +kernel) (by revert w h; decide +kernel)
theorem mv_3_11 : ∀ w ∈ [Cond.instanceMethod yX4_init, Cond.initialized yX4_init.cls, Cond.code yX4_init cX4_init 1 none], w ∈ z_tbl := fun w h => z_m (by revert w h; decide +kernel) (by revert w h; decide +kernel)
theorem mv_3_28 : ∀ w ∈ [Cond.instanceMethod yX9_init, Cond.initialized yX9_init.cls, Cond.code yX9_init cX9_init 1 none], w ∈ z_tbl := fun w h => z_m (by revert w h; decide +kernel) (by revert w h; decide +kernel)
theorem mv_3_36 : ∀ w ∈ [Cond.methodLink "ClockZones$Search" 36 yX3_prepare, Cond.instanceMethod yX3_prepare, Cond.selects yX3_prepare.cls yX3_prepare yX3_prepare, Cond.initialized yX3_prepare.cls, Cond.code yX3_prepare cX3_prepare 3 none], w ∈ z_tbl := fun w h => z_m (by revert w h; decide +kernel) (by revert w h; decide +kernel)
theorem mv_3_40 : ∀ w ∈ [Cond.methodLink "ClockZones$Search" 40 yX3_standAtStart, Cond.instanceMethod yX3_standAtStart, Cond.selects yX3_standAtStart.cls yX3_standAtStart yX3_standAtStart, Cond.initialized yX3_standAtStart.cls, Cond.code yX3_standAtStart cX3_standAtStart 1 none], w ∈ z_tbl := fun w h => z_m (by revert w h; decide +kernel) (by revert w h; decide +kernel)
theorem mv_3_43 : ∀ w ∈ [Cond.methodLink "ClockZones$Search" 43 yX3_settles, Cond.instanceMethod yX3_settles, Cond.selects yX3_settles.cls yX3_settles yX3_settles, Cond.initialized yX3_settles.cls, Cond.code yX3_settles cX3_settles 2 (some .boolean)], w ∈ z_tbl := fun w h => z_m (by revert w h; decide +kernel) (by revert w h; decide +kernel)
theorem mv_3_47 : ∀ w ∈ [Cond.methodLink "ClockZones$Search" 47 yX4_add, Cond.instanceMethod yX4_add, Cond.selects yX4_add.cls yX4_add yX4_add, Cond.initialized yX4_add.cls, Cond.code yX4_add cX4_add 3 none], w ∈ z_tbl := fun w h => z_m (by revert w h; decide +kernel) (by revert w h; decide +kernel)
theorem mv_3_64 : ∀ w ∈ [Cond.methodLink "ClockZones$Search" 64 yX3_goesBy, Cond.instanceMethod yX3_goesBy, Cond.selects yX3_goesBy.cls yX3_goesBy yX3_goesBy, Cond.initialized yX3_goesBy.cls, Cond.code yX3_goesBy cX3_goesBy 4 (some .boolean)], w ∈ z_tbl := fun w h => z_m (by revert w h; decide +kernel) (by revert w h; decide +kernel)
theorem mv_3_68 : ∀ w ∈ [Cond.methodLink "ClockZones$Search" 68 yX4_cover, Cond.instanceMethod yX4_cover, Cond.selects yX4_cover.cls yX4_cover yX4_cover, Cond.initialized yX4_cover.cls, Cond.code yX4_cover cX4_cover 4 (some .boolean)], w ∈ z_tbl := fun w h => z_m (by revert w h; decide +kernel) (by revert w h; decide +kernel)
theorem mv_3_75 : ∀ w ∈ [Cond.methodLink "ClockZones$Search" 75 yX2_greatestOf, Cond.instanceMethod yX2_greatestOf, Cond.selects yX2_greatestOf.cls yX2_greatestOf yX2_greatestOf, Cond.initialized yX2_greatestOf.cls, Cond.code yX2_greatestOf cX2_greatestOf 4 (some .int)], w ∈ z_tbl := fun w h => z_m (by revert w h; decide +kernel) (by revert w h; decide +kernel)
theorem mv_3_79 : ∀ w ∈ [Cond.methodLink "ClockZones$Search" 79 yJ7_fill_53178, Cond.static yJ7_fill_53178, Cond.initialized yJ7_fill_53178.cls, Cond.code yJ7_fill_53178 cJ7_fill_53178 4 none], w ∈ z_tbl := fun w h => z_m (by revert w h; decide +kernel) (by revert w h; decide +kernel)
theorem mv_3_85 : ∀ w ∈ [Cond.methodLink "ClockZones$Search" 85 yX9_putAllClocksAtZero, Cond.instanceMethod yX9_putAllClocksAtZero, Cond.selects yX9_putAllClocksAtZero.cls yX9_putAllClocksAtZero yX9_putAllClocksAtZero, Cond.initialized yX9_putAllClocksAtZero.cls, Cond.code yX9_putAllClocksAtZero cX9_putAllClocksAtZero 1 none], w ∈ z_tbl := fun w h => z_m (by revert w h; decide +kernel) (by revert w h; decide +kernel)
theorem mv_3_88 : ∀ w ∈ [Cond.methodLink "ClockZones$Search" 88 yX4_copyFacts, Cond.instanceMethod yX4_copyFacts, Cond.selects yX4_copyFacts.cls yX4_copyFacts yX4_copyFacts, Cond.initialized yX4_copyFacts.cls, Cond.code yX4_copyFacts cX4_copyFacts 3 none], w ∈ z_tbl := fun w h => z_m (by revert w h; decide +kernel) (by revert w h; decide +kernel)
theorem mv_3_92 : ∀ w ∈ [Cond.methodLink "ClockZones$Search" 92 yX1_startsAt, Cond.instanceMethod yX1_startsAt, Cond.selects yX1_startsAt.cls yX1_startsAt yX1_startsAt, Cond.initialized yX1_startsAt.cls, Cond.code yX1_startsAt cX1_startsAt 2 (some .boolean)], w ∈ z_tbl := fun w h => z_m (by revert w h; decide +kernel) (by revert w h; decide +kernel)
theorem mv_3_98 : ∀ w ∈ [Cond.methodLink "ClockZones$Search" 98 yX4_copyZone, Cond.instanceMethod yX4_copyZone, Cond.selects yX4_copyZone.cls yX4_copyZone yX4_copyZone, Cond.initialized yX4_copyZone.cls, Cond.code yX4_copyZone cX4_copyZone 3 none], w ∈ z_tbl := fun w h => z_m (by revert w h; decide +kernel) (by revert w h; decide +kernel)
theorem mv_3_102 : ∀ w ∈ [Cond.methodLink "ClockZones$Search" 102 yX1_guardsNarrow, Cond.instanceMethod yX1_guardsNarrow, Cond.selects yX1_guardsNarrow.cls yX1_guardsNarrow yX1_guardsNarrow, Cond.initialized yX1_guardsNarrow.cls, Cond.code yX1_guardsNarrow cX1_guardsNarrow 2 (some .boolean)], w ∈ z_tbl := fun w h => z_m (by revert w h; decide +kernel) (by revert w h; decide +kernel)
theorem mv_3_106 : ∀ w ∈ [Cond.methodLink "ClockZones$Search" 106 yX1_sets, Cond.instanceMethod yX1_sets, Cond.selects yX1_sets.cls yX1_sets yX1_sets, Cond.initialized yX1_sets.cls, Cond.code yX1_sets cX1_sets 2 (some .boolean)], w ∈ z_tbl := fun w h => z_m (by revert w h; decide +kernel) (by revert w h; decide +kernel)
theorem mv_3_110 : ∀ w ∈ [Cond.methodLink "ClockZones$Search" 110 yX9_setToZero, Cond.instanceMethod yX9_setToZero, Cond.selects yX9_setToZero.cls yX9_setToZero yX9_setToZero, Cond.initialized yX9_setToZero.cls, Cond.code yX9_setToZero cX9_setToZero 3 none], w ∈ z_tbl := fun w h => z_m (by revert w h; decide +kernel) (by revert w h; decide +kernel)
theorem mv_3_114 : ∀ w ∈ [Cond.methodLink "ClockZones$Search" 114 yX1_carry, Cond.instanceMethod yX1_carry, Cond.selects yX1_carry.cls yX1_carry yX1_carry, Cond.initialized yX1_carry.cls, Cond.code yX1_carry cX1_carry 2 none], w ∈ z_tbl := fun w h => z_m (by revert w h; decide +kernel) (by revert w h; decide +kernel)
theorem mv_3_124 : ∀ w ∈ [Cond.methodLink "ClockZones$Search" 124 yX2_limitsNarrow, Cond.instanceMethod yX2_limitsNarrow, Cond.selects yX2_limitsNarrow.cls yX2_limitsNarrow yX2_limitsNarrow, Cond.initialized yX2_limitsNarrow.cls, Cond.code yX2_limitsNarrow cX2_limitsNarrow 4 (some .boolean)], w ∈ z_tbl := fun w h => z_m (by revert w h; decide +kernel) (by revert w h; decide +kernel)
theorem mv_3_127 : ∀ w ∈ [Cond.methodLink "ClockZones$Search" 127 yX9_letTimeGoBy, Cond.instanceMethod yX9_letTimeGoBy, Cond.selects yX9_letTimeGoBy.cls yX9_letTimeGoBy yX9_letTimeGoBy, Cond.initialized yX9_letTimeGoBy.cls, Cond.code yX9_letTimeGoBy cX9_letTimeGoBy 2 none], w ∈ z_tbl := fun w h => z_m (by revert w h; decide +kernel) (by revert w h; decide +kernel)
theorem mv_3_130 : ∀ w ∈ [Cond.methodLink "ClockZones$Search" 130 yX9_widen, Cond.instanceMethod yX9_widen, Cond.selects yX9_widen.cls yX9_widen yX9_widen, Cond.initialized yX9_widen.cls, Cond.code yX9_widen cX9_widen 4 none], w ∈ z_tbl := fun w h => z_m (by revert w h; decide +kernel) (by revert w h; decide +kernel)
theorem mo_4_3 : ∀ w ∈ [Cond.methodLink "ClockZones$States" 3 Lib.objectInit, Cond.instanceMethod Lib.objectInit, Cond.code Lib.objectInit ⟨#[0xb1]⟩ 1 none], w ∈ z_tbl := fun w h => z_m (by revert w h; decide +kernel) (by revert w h; decide +kernel)
theorem mv_4_22 : ∀ w ∈ [Cond.methodLink "ClockZones$States" 22 yX4_isMet, Cond.instanceMethod yX4_isMet, Cond.selects yX4_isMet.cls yX4_isMet yX4_isMet, Cond.initialized yX4_isMet.cls, Cond.code yX4_isMet cX4_isMet 2 (some .boolean)], w ∈ z_tbl := fun w h => z_m (by revert w h; decide +kernel) (by revert w h; decide +kernel)
theorem mv_4_26 : ∀ w ∈ [Cond.methodLink "ClockZones$States" 26 yX4_fact, Cond.instanceMethod yX4_fact, Cond.selects yX4_fact.cls yX4_fact yX4_fact, Cond.initialized yX4_fact.cls, Cond.code yX4_fact cX4_fact 3 (some .int)], w ∈ z_tbl := fun w h => z_m (by revert w h; decide +kernel) (by revert w h; decide +kernel)
theorem mc_4_30 : ∀ w ∈ [Cond.methodLink "ClockZones$States" 30 arraycopyName, Cond.native arraycopyName, Cond.static arraycopyName, Cond.initialized "java/lang/System"], w ∈ z_tbl := fun w h => z_m (by revert w h; decide +kernel) (by revert w h; decide +kernel)
theorem mv_4_39 : ∀ w ∈ [Cond.methodLink "ClockZones$States" 39 yX4_isAt, Cond.instanceMethod yX4_isAt, Cond.selects yX4_isAt.cls yX4_isAt yX4_isAt, Cond.initialized yX4_isAt.cls, Cond.code yX4_isAt cX4_isAt 4 (some .boolean)], w ∈ z_tbl := fun w h => z_m (by revert w h; decide +kernel) (by revert w h; decide +kernel)
theorem mv_4_43 : ∀ w ∈ [Cond.methodLink "ClockZones$States" 43 yX4_holds, Cond.instanceMethod yX4_holds, Cond.selects yX4_holds.cls yX4_holds yX4_holds, Cond.initialized yX4_holds.cls, Cond.code yX4_holds cX4_holds 7 (some .boolean)], w ∈ z_tbl := fun w h => z_m (by revert w h; decide +kernel) (by revert w h; decide +kernel)
theorem mv_4_46 : ∀ w ∈ [Cond.methodLink "ClockZones$States" 46 yX4_takesIn, Cond.instanceMethod yX4_takesIn, Cond.selects yX4_takesIn.cls yX4_takesIn yX4_takesIn, Cond.initialized yX4_takesIn.cls, Cond.code yX4_takesIn cX4_takesIn 4 (some .boolean)], w ∈ z_tbl := fun w h => z_m (by revert w h; decide +kernel) (by revert w h; decide +kernel)
theorem mv_4_50 : ∀ w ∈ [Cond.methodLink "ClockZones$States" 50 yX4_boundOf, Cond.instanceMethod yX4_boundOf, Cond.selects yX4_boundOf.cls yX4_boundOf yX4_boundOf, Cond.initialized yX4_boundOf.cls, Cond.code yX4_boundOf cX4_boundOf 4 (some .int)], w ∈ z_tbl := fun w h => z_m (by revert w h; decide +kernel) (by revert w h; decide +kernel)
theorem mo_5_3 : ∀ w ∈ [Cond.methodLink "ClockZones$Test" 3 Lib.objectInit, Cond.instanceMethod Lib.objectInit, Cond.code Lib.objectInit ⟨#[0xb1]⟩ 1 none], w ∈ z_tbl := fun w h => z_m (by revert w h; decide +kernel) (by revert w h; decide +kernel)
theorem mv_5_21 : ∀ w ∈ [Cond.methodLink "ClockZones$Test" 21 yX5_isCeiling, Cond.instanceMethod yX5_isCeiling, Cond.selects yX5_isCeiling.cls yX5_isCeiling yX5_isCeiling, Cond.initialized yX5_isCeiling.cls, Cond.code yX5_isCeiling cX5_isCeiling 1 (some .boolean)], w ∈ z_tbl := fun w h => z_m (by revert w h; decide +kernel) (by revert w h; decide +kernel)
theorem mv_5_25 : ∀ w ∈ [Cond.methodLink "ClockZones$Test" 25 yX5_mostParts, Cond.instanceMethod yX5_mostParts, Cond.selects yX5_mostParts.cls yX5_mostParts yX5_mostParts, Cond.initialized yX5_mostParts.cls, Cond.code yX5_mostParts cX5_mostParts 1 (some .int)], w ∈ z_tbl := fun w h => z_m (by revert w h; decide +kernel) (by revert w h; decide +kernel)
theorem mv_5_29 : ∀ w ∈ [Cond.methodLink "ClockZones$Test" 29 yX5_isFloor, Cond.instanceMethod yX5_isFloor, Cond.selects yX5_isFloor.cls yX5_isFloor yX5_isFloor, Cond.initialized yX5_isFloor.cls, Cond.code yX5_isFloor cX5_isFloor 1 (some .boolean)], w ∈ z_tbl := fun w h => z_m (by revert w h; decide +kernel) (by revert w h; decide +kernel)
theorem mv_5_32 : ∀ w ∈ [Cond.methodLink "ClockZones$Test" 32 yX5_leastParts, Cond.instanceMethod yX5_leastParts, Cond.selects yX5_leastParts.cls yX5_leastParts yX5_leastParts, Cond.initialized yX5_leastParts.cls, Cond.code yX5_leastParts cX5_leastParts 1 (some .int)], w ∈ z_tbl := fun w h => z_m (by revert w h; decide +kernel) (by revert w h; decide +kernel)
theorem mo_6_3 : ∀ w ∈ [Cond.methodLink "ClockZones$TestList" 3 Lib.objectInit, Cond.instanceMethod Lib.objectInit, Cond.code Lib.objectInit ⟨#[0xb1]⟩ 1 none], w ∈ z_tbl := fun w h => z_m (by revert w h; decide +kernel) (by revert w h; decide +kernel)
theorem mv_6_24 : ∀ w ∈ [Cond.methodLink "ClockZones$TestList" 24 yX5_allows, Cond.instanceMethod yX5_allows, Cond.selects yX5_allows.cls yX5_allows yX5_allows, Cond.initialized yX5_allows.cls, Cond.code yX5_allows cX5_allows 2 (some .boolean)], w ∈ z_tbl := fun w h => z_m (by revert w h; decide +kernel) (by revert w h; decide +kernel)
theorem mv_6_28 : ∀ w ∈ [Cond.methodLink "ClockZones$TestList" 28 yX5_isCeiling, Cond.instanceMethod yX5_isCeiling, Cond.selects yX5_isCeiling.cls yX5_isCeiling yX5_isCeiling, Cond.initialized yX5_isCeiling.cls, Cond.code yX5_isCeiling cX5_isCeiling 1 (some .boolean)], w ∈ z_tbl := fun w h => z_m (by revert w h; decide +kernel) (by revert w h; decide +kernel)
theorem mv_6_32 : ∀ w ∈ [Cond.methodLink "ClockZones$TestList" 32 yX5_ceiling, Cond.instanceMethod yX5_ceiling, Cond.selects yX5_ceiling.cls yX5_ceiling yX5_ceiling, Cond.initialized yX5_ceiling.cls, Cond.code yX5_ceiling cX5_ceiling 1 (some .int)], w ∈ z_tbl := fun w h => z_m (by revert w h; decide +kernel) (by revert w h; decide +kernel)
theorem mv_6_36 : ∀ w ∈ [Cond.methodLink "ClockZones$TestList" 36 yX9_narrow, Cond.instanceMethod yX9_narrow, Cond.selects yX9_narrow.cls yX9_narrow yX9_narrow, Cond.initialized yX9_narrow.cls, Cond.code yX9_narrow cX9_narrow 8 (some .boolean)], w ∈ z_tbl := fun w h => z_m (by revert w h; decide +kernel) (by revert w h; decide +kernel)
theorem mv_6_42 : ∀ w ∈ [Cond.methodLink "ClockZones$TestList" 42 yX5_isFloor, Cond.instanceMethod yX5_isFloor, Cond.selects yX5_isFloor.cls yX5_isFloor yX5_isFloor, Cond.initialized yX5_isFloor.cls, Cond.code yX5_isFloor cX5_isFloor 1 (some .boolean)], w ∈ z_tbl := fun w h => z_m (by revert w h; decide +kernel) (by revert w h; decide +kernel)
theorem mv_6_45 : ∀ w ∈ [Cond.methodLink "ClockZones$TestList" 45 yX5_floor, Cond.instanceMethod yX5_floor, Cond.selects yX5_floor.cls yX5_floor yX5_floor, Cond.initialized yX5_floor.cls, Cond.code yX5_floor cX5_floor 1 (some .int)], w ∈ z_tbl := fun w h => z_m (by revert w h; decide +kernel) (by revert w h; decide +kernel)
theorem mm_6_51 : ∀ w ∈ [Cond.methodLink "ClockZones$TestList" 51 Lib.Math.max.name, Cond.static Lib.Math.max.name, Cond.initialized "java/lang/Math", Cond.code Lib.Math.max.name Lib.Math.max.code 2 (some .int)], w ∈ z_tbl := fun w h => z_m (by revert w h; decide +kernel) (by revert w h; decide +kernel)
theorem mo_7_3 : ∀ w ∈ [Cond.methodLink "ClockZones$Timetable" 3 Lib.objectInit, Cond.instanceMethod Lib.objectInit, Cond.code Lib.objectInit ⟨#[0xb1]⟩ 1 none], w ∈ z_tbl := fun w h => z_m (by revert w h; decide +kernel) (by revert w h; decide +kernel)
theorem mv_7_30 : ∀ w ∈ [Cond.methodLink "ClockZones$Timetable" 30 yX4_fact, Cond.instanceMethod yX4_fact, Cond.selects yX4_fact.cls yX4_fact yX4_fact, Cond.initialized yX4_fact.cls, Cond.code yX4_fact cX4_fact 3 (some .int)], w ∈ z_tbl := fun w h => z_m (by revert w h; decide +kernel) (by revert w h; decide +kernel)
theorem mm_7_36 : ∀ w ∈ [Cond.methodLink "ClockZones$Timetable" 36 Lib.Math.min.name, Cond.static Lib.Math.min.name, Cond.initialized "java/lang/Math", Cond.code Lib.Math.min.name Lib.Math.min.code 2 (some .int)], w ∈ z_tbl := fun w h => z_m (by revert w h; decide +kernel) (by revert w h; decide +kernel)
theorem mv_7_41 : ∀ w ∈ [Cond.methodLink "ClockZones$Timetable" 41 yX7_visit, Cond.instanceMethod yX7_visit, Cond.selects yX7_visit.cls yX7_visit yX7_visit, Cond.initialized yX7_visit.cls, Cond.code yX7_visit cX7_visit 6 none], w ∈ z_tbl := fun w h => z_m (by revert w h; decide +kernel) (by revert w h; decide +kernel)
theorem mv_7_49 : ∀ w ∈ [Cond.methodLink "ClockZones$Timetable" 49 yJ7_fill_53178, Cond.static yJ7_fill_53178, Cond.initialized yJ7_fill_53178.cls, Cond.code yJ7_fill_53178 cJ7_fill_53178 4 none], w ∈ z_tbl := fun w h => z_m (by revert w h; decide +kernel) (by revert w h; decide +kernel)
theorem mv_7_55 : ∀ w ∈ [Cond.methodLink "ClockZones$Timetable" 55 yX7_addGap, Cond.instanceMethod yX7_addGap, Cond.selects yX7_addGap.cls yX7_addGap yX7_addGap, Cond.initialized yX7_addGap.cls, Cond.code yX7_addGap cX7_addGap 4 none], w ∈ z_tbl := fun w h => z_m (by revert w h; decide +kernel) (by revert w h; decide +kernel)
theorem mv_7_59 : ∀ w ∈ [Cond.methodLink "ClockZones$Timetable" 59 yX7_addLimits, Cond.instanceMethod yX7_addLimits, Cond.selects yX7_addLimits.cls yX7_addLimits yX7_addLimits, Cond.initialized yX7_addLimits.cls, Cond.code yX7_addLimits cX7_addLimits 6 none], w ∈ z_tbl := fun w h => z_m (by revert w h; decide +kernel) (by revert w h; decide +kernel)
theorem mv_7_63 : ∀ w ∈ [Cond.methodLink "ClockZones$Timetable" 63 yX2_find, Cond.instanceMethod yX2_find, Cond.selects yX2_find.cls yX2_find yX2_find, Cond.initialized yX2_find.cls, Cond.code yX2_find cX2_find 4 (some (.object "ClockZones$Move"))], w ∈ z_tbl := fun w h => z_m (by revert w h; decide +kernel) (by revert w h; decide +kernel)
theorem mv_7_69 : ∀ w ∈ [Cond.methodLink "ClockZones$Timetable" 69 yX7_addStep, Cond.instanceMethod yX7_addStep, Cond.selects yX7_addStep.cls yX7_addStep yX7_addStep, Cond.initialized yX7_addStep.cls, Cond.code yX7_addStep cX7_addStep 4 none], w ∈ z_tbl := fun w h => z_m (by revert w h; decide +kernel) (by revert w h; decide +kernel)
theorem mv_7_73 : ∀ w ∈ [Cond.methodLink "ClockZones$Timetable" 73 yX7_settle, Cond.instanceMethod yX7_settle, Cond.selects yX7_settle.cls yX7_settle yX7_settle, Cond.initialized yX7_settle.cls, Cond.code yX7_settle cX7_settle 5 none], w ∈ z_tbl := fun w h => z_m (by revert w h; decide +kernel) (by revert w h; decide +kernel)
theorem mv_7_88 : ∀ w ∈ [Cond.methodLink "ClockZones$Timetable" 88 yX7_addTests, Cond.instanceMethod yX7_addTests, Cond.selects yX7_addTests.cls yX7_addTests yX7_addTests, Cond.initialized yX7_addTests.cls, Cond.code yX7_addTests cX7_addTests 6 none], w ∈ z_tbl := fun w h => z_m (by revert w h; decide +kernel) (by revert w h; decide +kernel)
theorem mv_7_95 : ∀ w ∈ [Cond.methodLink "ClockZones$Timetable" 95 yX1_sets, Cond.instanceMethod yX1_sets, Cond.selects yX1_sets.cls yX1_sets yX1_sets, Cond.initialized yX1_sets.cls, Cond.code yX1_sets cX1_sets 2 (some .boolean)], w ∈ z_tbl := fun w h => z_m (by revert w h; decide +kernel) (by revert w h; decide +kernel)
theorem mv_7_99 : ∀ w ∈ [Cond.methodLink "ClockZones$Timetable" 99 yX2_limitsOf, Cond.instanceMethod yX2_limitsOf, Cond.selects yX2_limitsOf.cls yX2_limitsOf yX2_limitsOf, Cond.initialized yX2_limitsOf.cls, Cond.code yX2_limitsOf cX2_limitsOf 3 (some (.object "ClockZones$TestList"))], w ∈ z_tbl := fun w h => z_m (by revert w h; decide +kernel) (by revert w h; decide +kernel)
theorem mv_7_117 : ∀ w ∈ [Cond.methodLink "ClockZones$Timetable" 117 yX5_isCeiling, Cond.instanceMethod yX5_isCeiling, Cond.selects yX5_isCeiling.cls yX5_isCeiling yX5_isCeiling, Cond.initialized yX5_isCeiling.cls, Cond.code yX5_isCeiling cX5_isCeiling 1 (some .boolean)], w ∈ z_tbl := fun w h => z_m (by revert w h; decide +kernel) (by revert w h; decide +kernel)
theorem mv_7_121 : ∀ w ∈ [Cond.methodLink "ClockZones$Timetable" 121 yX5_mostParts, Cond.instanceMethod yX5_mostParts, Cond.selects yX5_mostParts.cls yX5_mostParts yX5_mostParts, Cond.initialized yX5_mostParts.cls, Cond.code yX5_mostParts cX5_mostParts 1 (some .int)], w ∈ z_tbl := fun w h => z_m (by revert w h; decide +kernel) (by revert w h; decide +kernel)
theorem mv_7_125 : ∀ w ∈ [Cond.methodLink "ClockZones$Timetable" 125 yX5_isFloor, Cond.instanceMethod yX5_isFloor, Cond.selects yX5_isFloor.cls yX5_isFloor yX5_isFloor, Cond.initialized yX5_isFloor.cls, Cond.code yX5_isFloor cX5_isFloor 1 (some .boolean)], w ∈ z_tbl := fun w h => z_m (by revert w h; decide +kernel) (by revert w h; decide +kernel)
theorem mv_7_128 : ∀ w ∈ [Cond.methodLink "ClockZones$Timetable" 128 yX5_leastParts, Cond.instanceMethod yX5_leastParts, Cond.selects yX5_leastParts.cls yX5_leastParts yX5_leastParts, Cond.initialized yX5_leastParts.cls, Cond.code yX5_leastParts cX5_leastParts 1 (some .int)], w ∈ z_tbl := fun w h => z_m (by revert w h; decide +kernel) (by revert w h; decide +kernel)
theorem mo_8_3 : ∀ w ∈ [Cond.methodLink "ClockZones$Walk" 3 Lib.objectInit, Cond.instanceMethod Lib.objectInit, Cond.code Lib.objectInit ⟨#[0xb1]⟩ 1 none], w ∈ z_tbl := fun w h => z_m (by revert w h; decide +kernel) (by revert w h; decide +kernel)
theorem mv_8_24 : ∀ w ∈ [Cond.methodLink "ClockZones$Walk" 24 yJ7_fill_53178, Cond.static yJ7_fill_53178, Cond.initialized yJ7_fill_53178.cls, Cond.code yJ7_fill_53178 cJ7_fill_53178 4 none], w ∈ z_tbl := fun w h => z_m (by revert w h; decide +kernel) (by revert w h; decide +kernel)
theorem mv_8_37 : ∀ w ∈ [Cond.methodLink "ClockZones$Walk" 37 yX2_limitsAllow, Cond.instanceMethod yX2_limitsAllow, Cond.selects yX2_limitsAllow.cls yX2_limitsAllow yX2_limitsAllow, Cond.initialized yX2_limitsAllow.cls, Cond.code yX2_limitsAllow cX2_limitsAllow 4 (some .boolean)], w ∈ z_tbl := fun w h => z_m (by revert w h; decide +kernel) (by revert w h; decide +kernel)
theorem mm_8_47 : ∀ w ∈ [Cond.methodLink "ClockZones$Walk" 47 Lib.Math.max.name, Cond.static Lib.Math.max.name, Cond.initialized "java/lang/Math", Cond.code Lib.Math.max.name Lib.Math.max.code 2 (some .int)], w ∈ z_tbl := fun w h => z_m (by revert w h; decide +kernel) (by revert w h; decide +kernel)
theorem mc_8_53 : ∀ w ∈ [Cond.methodLink "ClockZones$Walk" 53 arraycopyName, Cond.native arraycopyName, Cond.static arraycopyName, Cond.initialized "java/lang/System"], w ∈ z_tbl := fun w h => z_m (by revert w h; decide +kernel) (by revert w h; decide +kernel)
theorem mv_8_59 : ∀ w ∈ [Cond.methodLink "ClockZones$Walk" 59 yX1_startsAt, Cond.instanceMethod yX1_startsAt, Cond.selects yX1_startsAt.cls yX1_startsAt yX1_startsAt, Cond.initialized yX1_startsAt.cls, Cond.code yX1_startsAt cX1_startsAt 2 (some .boolean)], w ∈ z_tbl := fun w h => z_m (by revert w h; decide +kernel) (by revert w h; decide +kernel)
theorem mv_8_65 : ∀ w ∈ [Cond.methodLink "ClockZones$Walk" 65 yX1_guardsAllow, Cond.instanceMethod yX1_guardsAllow, Cond.selects yX1_guardsAllow.cls yX1_guardsAllow yX1_guardsAllow, Cond.initialized yX1_guardsAllow.cls, Cond.code yX1_guardsAllow cX1_guardsAllow 2 (some .boolean)], w ∈ z_tbl := fun w h => z_m (by revert w h; decide +kernel) (by revert w h; decide +kernel)
theorem mv_8_68 : ∀ w ∈ [Cond.methodLink "ClockZones$Walk" 68 yX1_carry, Cond.instanceMethod yX1_carry, Cond.selects yX1_carry.cls yX1_carry yX1_carry, Cond.initialized yX1_carry.cls, Cond.code yX1_carry cX1_carry 2 none], w ∈ z_tbl := fun w h => z_m (by revert w h; decide +kernel) (by revert w h; decide +kernel)
theorem mv_8_72 : ∀ w ∈ [Cond.methodLink "ClockZones$Walk" 72 yX1_sets, Cond.instanceMethod yX1_sets, Cond.selects yX1_sets.cls yX1_sets yX1_sets, Cond.initialized yX1_sets.cls, Cond.code yX1_sets cX1_sets 2 (some .boolean)], w ∈ z_tbl := fun w h => z_m (by revert w h; decide +kernel) (by revert w h; decide +kernel)
theorem mo_9_3 : ∀ w ∈ [Cond.methodLink "ClockZones$Zone" 3 Lib.objectInit, Cond.instanceMethod Lib.objectInit, Cond.code Lib.objectInit ⟨#[0xb1]⟩ 1 none], w ∈ z_tbl := fun w h => z_m (by revert w h; decide +kernel) (by revert w h; decide +kernel)
theorem mv_9_16 : ∀ w ∈ [Cond.methodLink "ClockZones$Zone" 16 yJ7_fill_53178, Cond.static yJ7_fill_53178, Cond.initialized yJ7_fill_53178.cls, Cond.code yJ7_fill_53178 cJ7_fill_53178 4 none], w ∈ z_tbl := fun w h => z_m (by revert w h; decide +kernel) (by revert w h; decide +kernel)
theorem mv_9_22 : ∀ w ∈ [Cond.methodLink "ClockZones$Zone" 22 yX9_sum, Cond.static yX9_sum, Cond.initialized yX9_sum.cls, Cond.code yX9_sum cX9_sum 2 (some .int)], w ∈ z_tbl := fun w h => z_m (by revert w h; decide +kernel) (by revert w h; decide +kernel)
theorem mv_9_26 : ∀ w ∈ [Cond.methodLink "ClockZones$Zone" 26 yX9_close, Cond.instanceMethod yX9_close, Cond.selects yX9_close.cls yX9_close yX9_close, Cond.initialized yX9_close.cls, Cond.code yX9_close cX9_close 6 none], w ∈ z_tbl := fun w h => z_m (by revert w h; decide +kernel) (by revert w h; decide +kernel)
theorem mv_L_9 : ∀ w ∈ [Cond.methodLink "ClockZonesLaw" 9 yX10_init, Cond.instanceMethod yX10_init, Cond.initialized yX10_init.cls, Cond.code yX10_init cX10_init 1 none], w ∈ z_tbl := fun w h => z_m (by revert w h; decide +kernel) (by revert w h; decide +kernel)
theorem mv_L_12 : ∀ w ∈ [Cond.methodLink "ClockZonesLaw" 12 yX11_init, Cond.instanceMethod yX11_init, Cond.initialized yX11_init.cls, Cond.code yX11_init cX11_init 1 none], w ∈ z_tbl := fun w h => z_m (by revert w h; decide +kernel) (by revert w h; decide +kernel)
theorem mv_L_13 : ∀ w ∈ [Cond.methodLink "ClockZonesLaw" 13 yX10_edge, Cond.instanceMethod yX10_edge, Cond.selects yX10_edge.cls yX10_edge yX10_edge, Cond.initialized yX10_edge.cls, Cond.code yX10_edge cX10_edge 6 (some .int)], w ∈ z_tbl := fun w h => z_m (by revert w h; decide +kernel) (by revert w h; decide +kernel)
theorem mv_L_17 : ∀ w ∈ [Cond.methodLink "ClockZonesLaw" 17 yX11_edge, Cond.instanceMethod yX11_edge, Cond.selects yX11_edge.cls yX11_edge yX11_edge, Cond.initialized yX11_edge.cls, Cond.code yX11_edge cX11_edge 6 (some .int)], w ∈ z_tbl := fun w h => z_m (by revert w h; decide +kernel) (by revert w h; decide +kernel)
theorem mv_L_18 : ∀ w ∈ [Cond.methodLink "ClockZonesLaw" 18 yX10_guard, Cond.instanceMethod yX10_guard, Cond.selects yX10_guard.cls yX10_guard yX10_guard, Cond.initialized yX10_guard.cls, Cond.code yX10_guard cX10_guard 5 (some .int)], w ∈ z_tbl := fun w h => z_m (by revert w h; decide +kernel) (by revert w h; decide +kernel)
theorem mv_L_22 : ∀ w ∈ [Cond.methodLink "ClockZonesLaw" 22 yX11_guard, Cond.instanceMethod yX11_guard, Cond.selects yX11_guard.cls yX11_guard yX11_guard, Cond.initialized yX11_guard.cls, Cond.code yX11_guard cX11_guard 6 (some .int)], w ∈ z_tbl := fun w h => z_m (by revert w h; decide +kernel) (by revert w h; decide +kernel)
theorem mv_L_23 : ∀ w ∈ [Cond.methodLink "ClockZonesLaw" 23 yX10_limit, Cond.instanceMethod yX10_limit, Cond.selects yX10_limit.cls yX10_limit yX10_limit, Cond.initialized yX10_limit.cls, Cond.code yX10_limit cX10_limit 6 (some .int)], w ∈ z_tbl := fun w h => z_m (by revert w h; decide +kernel) (by revert w h; decide +kernel)
theorem mv_L_26 : ∀ w ∈ [Cond.methodLink "ClockZonesLaw" 26 yX11_limit, Cond.instanceMethod yX11_limit, Cond.selects yX11_limit.cls yX11_limit yX11_limit, Cond.initialized yX11_limit.cls, Cond.code yX11_limit cX11_limit 8 (some .int)], w ∈ z_tbl := fun w h => z_m (by revert w h; decide +kernel) (by revert w h; decide +kernel)
theorem mv_L_27 : ∀ w ∈ [Cond.methodLink "ClockZonesLaw" 27 yX10_wipe, Cond.instanceMethod yX10_wipe, Cond.selects yX10_wipe.cls yX10_wipe yX10_wipe, Cond.initialized yX10_wipe.cls, Cond.code yX10_wipe cX10_wipe 2 (some .int)], w ∈ z_tbl := fun w h => z_m (by revert w h; decide +kernel) (by revert w h; decide +kernel)
theorem mv_L_31 : ∀ w ∈ [Cond.methodLink "ClockZonesLaw" 31 yX11_wipe, Cond.instanceMethod yX11_wipe, Cond.selects yX11_wipe.cls yX11_wipe yX11_wipe, Cond.initialized yX11_wipe.cls, Cond.code yX11_wipe cX11_wipe 3 (some .int)], w ∈ z_tbl := fun w h => z_m (by revert w h; decide +kernel) (by revert w h; decide +kernel)
theorem mv_L_32 : ∀ w ∈ [Cond.methodLink "ClockZonesLaw" 32 yX10_explore, Cond.instanceMethod yX10_explore, Cond.selects yX10_explore.cls yX10_explore yX10_explore, Cond.initialized yX10_explore.cls, Cond.code yX10_explore cX10_explore 2 (some .int)], w ∈ z_tbl := fun w h => z_m (by revert w h; decide +kernel) (by revert w h; decide +kernel)
theorem mv_L_36 : ∀ w ∈ [Cond.methodLink "ClockZonesLaw" 36 yX11_explore, Cond.instanceMethod yX11_explore, Cond.selects yX11_explore.cls yX11_explore yX11_explore, Cond.initialized yX11_explore.cls, Cond.code yX11_explore cX11_explore 5 (some .int)], w ∈ z_tbl := fun w h => z_m (by revert w h; decide +kernel) (by revert w h; decide +kernel)
theorem mv_L_37 : ∀ w ∈ [Cond.methodLink "ClockZonesLaw" 37 yX10_state, Cond.instanceMethod yX10_state, Cond.selects yX10_state.cls yX10_state yX10_state, Cond.initialized yX10_state.cls, Cond.code yX10_state cX10_state 3 (some .int)], w ∈ z_tbl := fun w h => z_m (by revert w h; decide +kernel) (by revert w h; decide +kernel)
theorem mv_L_41 : ∀ w ∈ [Cond.methodLink "ClockZonesLaw" 41 yX11_state, Cond.instanceMethod yX11_state, Cond.selects yX11_state.cls yX11_state yX11_state, Cond.initialized yX11_state.cls, Cond.code yX11_state cX11_state 3 (some .int)], w ∈ z_tbl := fun w h => z_m (by revert w h; decide +kernel) (by revert w h; decide +kernel)
theorem mv_L_42 : ∀ w ∈ [Cond.methodLink "ClockZonesLaw" 42 yX10_bound, Cond.instanceMethod yX10_bound, Cond.selects yX10_bound.cls yX10_bound yX10_bound, Cond.initialized yX10_bound.cls, Cond.code yX10_bound cX10_bound 4 (some .int)], w ∈ z_tbl := fun w h => z_m (by revert w h; decide +kernel) (by revert w h; decide +kernel)
theorem mv_L_46 : ∀ w ∈ [Cond.methodLink "ClockZonesLaw" 46 yX11_bound, Cond.instanceMethod yX11_bound, Cond.selects yX11_bound.cls yX11_bound yX11_bound, Cond.initialized yX11_bound.cls, Cond.code yX11_bound cX11_bound 4 (some .int)], w ∈ z_tbl := fun w h => z_m (by revert w h; decide +kernel) (by revert w h; decide +kernel)
theorem mv_L_47 : ∀ w ∈ [Cond.methodLink "ClockZonesLaw" 47 yX10_reach, Cond.instanceMethod yX10_reach, Cond.selects yX10_reach.cls yX10_reach yX10_reach, Cond.initialized yX10_reach.cls, Cond.code yX10_reach cX10_reach 4 (some .int)], w ∈ z_tbl := fun w h => z_m (by revert w h; decide +kernel) (by revert w h; decide +kernel)
theorem mv_L_50 : ∀ w ∈ [Cond.methodLink "ClockZonesLaw" 50 yX11_reach, Cond.instanceMethod yX11_reach, Cond.selects yX11_reach.cls yX11_reach yX11_reach, Cond.initialized yX11_reach.cls, Cond.code yX11_reach cX11_reach 5 (some .int)], w ∈ z_tbl := fun w h => z_m (by revert w h; decide +kernel) (by revert w h; decide +kernel)
theorem mv_L_51 : ∀ w ∈ [Cond.methodLink "ClockZonesLaw" 51 yX10_has, Cond.instanceMethod yX10_has, Cond.selects yX10_has.cls yX10_has yX10_has, Cond.initialized yX10_has.cls, Cond.code yX10_has cX10_has 5 (some .int)], w ∈ z_tbl := fun w h => z_m (by revert w h; decide +kernel) (by revert w h; decide +kernel)
theorem mv_L_54 : ∀ w ∈ [Cond.methodLink "ClockZonesLaw" 54 yX11_has, Cond.instanceMethod yX11_has, Cond.selects yX11_has.cls yX11_has yX11_has, Cond.initialized yX11_has.cls, Cond.code yX11_has cX11_has 5 (some .int)], w ∈ z_tbl := fun w h => z_m (by revert w h; decide +kernel) (by revert w h; decide +kernel)
theorem mv_L_55 : ∀ w ∈ [Cond.methodLink "ClockZonesLaw" 55 yX10_way, Cond.instanceMethod yX10_way, Cond.selects yX10_way.cls yX10_way yX10_way, Cond.initialized yX10_way.cls, Cond.code yX10_way cX10_way 4 (some .int)], w ∈ z_tbl := fun w h => z_m (by revert w h; decide +kernel) (by revert w h; decide +kernel)
theorem mv_L_58 : ∀ w ∈ [Cond.methodLink "ClockZonesLaw" 58 yX11_way, Cond.instanceMethod yX11_way, Cond.selects yX11_way.cls yX11_way yX11_way, Cond.initialized yX11_way.cls, Cond.code yX11_way cX11_way 4 (some .int)], w ∈ z_tbl := fun w h => z_m (by revert w h; decide +kernel) (by revert w h; decide +kernel)
theorem mv_L_59 : ∀ w ∈ [Cond.methodLink "ClockZonesLaw" 59 yX10_moment, Cond.instanceMethod yX10_moment, Cond.selects yX10_moment.cls yX10_moment yX10_moment, Cond.initialized yX10_moment.cls, Cond.code yX10_moment cX10_moment 3 (some .int)], w ∈ z_tbl := fun w h => z_m (by revert w h; decide +kernel) (by revert w h; decide +kernel)
theorem mv_L_62 : ∀ w ∈ [Cond.methodLink "ClockZonesLaw" 62 yX11_moment, Cond.instanceMethod yX11_moment, Cond.selects yX11_moment.cls yX11_moment yX11_moment, Cond.initialized yX11_moment.cls, Cond.code yX11_moment cX11_moment 3 (some .int)], w ∈ z_tbl := fun w h => z_m (by revert w h; decide +kernel) (by revert w h; decide +kernel)
theorem mv_L_63 : ∀ w ∈ [Cond.methodLink "ClockZonesLaw" 63 yX10_greatest, Cond.instanceMethod yX10_greatest, Cond.selects yX10_greatest.cls yX10_greatest yX10_greatest, Cond.initialized yX10_greatest.cls, Cond.code yX10_greatest cX10_greatest 2 (some .int)], w ∈ z_tbl := fun w h => z_m (by revert w h; decide +kernel) (by revert w h; decide +kernel)
theorem mv_L_66 : ∀ w ∈ [Cond.methodLink "ClockZonesLaw" 66 yX11_greatest, Cond.instanceMethod yX11_greatest, Cond.selects yX11_greatest.cls yX11_greatest yX11_greatest, Cond.initialized yX11_greatest.cls, Cond.code yX11_greatest cX11_greatest 2 (some .int)], w ∈ z_tbl := fun w h => z_m (by revert w h; decide +kernel) (by revert w h; decide +kernel)
theorem mv_L_67 : ∀ w ∈ [Cond.methodLink "ClockZonesLaw" 67 yX10_begin, Cond.instanceMethod yX10_begin, Cond.selects yX10_begin.cls yX10_begin yX10_begin, Cond.initialized yX10_begin.cls, Cond.code yX10_begin cX10_begin 1 (some .int)], w ∈ z_tbl := fun w h => z_m (by revert w h; decide +kernel) (by revert w h; decide +kernel)
theorem mv_L_70 : ∀ w ∈ [Cond.methodLink "ClockZonesLaw" 70 yX11_begin, Cond.instanceMethod yX11_begin, Cond.selects yX11_begin.cls yX11_begin yX11_begin, Cond.initialized yX11_begin.cls, Cond.code yX11_begin cX11_begin 2 (some .int)], w ∈ z_tbl := fun w h => z_m (by revert w h; decide +kernel) (by revert w h; decide +kernel)
theorem mv_L_71 : ∀ w ∈ [Cond.methodLink "ClockZonesLaw" 71 yX10_pass, Cond.instanceMethod yX10_pass, Cond.selects yX10_pass.cls yX10_pass yX10_pass, Cond.initialized yX10_pass.cls, Cond.code yX10_pass cX10_pass 2 (some .int)], w ∈ z_tbl := fun w h => z_m (by revert w h; decide +kernel) (by revert w h; decide +kernel)
theorem mv_L_74 : ∀ w ∈ [Cond.methodLink "ClockZonesLaw" 74 yX11_pass, Cond.instanceMethod yX11_pass, Cond.selects yX11_pass.cls yX11_pass yX11_pass, Cond.initialized yX11_pass.cls, Cond.code yX11_pass cX11_pass 4 (some .int)], w ∈ z_tbl := fun w h => z_m (by revert w h; decide +kernel) (by revert w h; decide +kernel)
theorem mv_L_75 : ∀ w ∈ [Cond.methodLink "ClockZonesLaw" 75 yX10_move, Cond.instanceMethod yX10_move, Cond.selects yX10_move.cls yX10_move yX10_move, Cond.initialized yX10_move.cls, Cond.code yX10_move cX10_move 4 (some .int)], w ∈ z_tbl := fun w h => z_m (by revert w h; decide +kernel) (by revert w h; decide +kernel)
theorem mv_L_78 : ∀ w ∈ [Cond.methodLink "ClockZonesLaw" 78 yX11_move, Cond.instanceMethod yX11_move, Cond.selects yX11_move.cls yX11_move yX11_move, Cond.initialized yX11_move.cls, Cond.code yX11_move cX11_move 3 (some .int)], w ∈ z_tbl := fun w h => z_m (by revert w h; decide +kernel) (by revert w h; decide +kernel)
theorem mv_L_79 : ∀ w ∈ [Cond.methodLink "ClockZonesLaw" 79 yX10_run, Cond.instanceMethod yX10_run, Cond.selects yX10_run.cls yX10_run yX10_run, Cond.initialized yX10_run.cls, Cond.code yX10_run cX10_run 2 (some .int)], w ∈ z_tbl := fun w h => z_m (by revert w h; decide +kernel) (by revert w h; decide +kernel)
theorem mv_L_82 : ∀ w ∈ [Cond.methodLink "ClockZonesLaw" 82 yX11_run, Cond.instanceMethod yX11_run, Cond.selects yX11_run.cls yX11_run yX11_run, Cond.initialized yX11_run.cls, Cond.code yX11_run cX11_run 2 (some .int)], w ∈ z_tbl := fun w h => z_m (by revert w h; decide +kernel) (by revert w h; decide +kernel)
theorem mv_L_83 : ∀ w ∈ [Cond.methodLink "ClockZonesLaw" 83 yX10_here, Cond.instanceMethod yX10_here, Cond.selects yX10_here.cls yX10_here yX10_here, Cond.initialized yX10_here.cls, Cond.code yX10_here cX10_here 1 (some .int)], w ∈ z_tbl := fun w h => z_m (by revert w h; decide +kernel) (by revert w h; decide +kernel)
theorem mv_L_86 : ∀ w ∈ [Cond.methodLink "ClockZonesLaw" 86 yX11_here, Cond.instanceMethod yX11_here, Cond.selects yX11_here.cls yX11_here yX11_here, Cond.initialized yX11_here.cls, Cond.code yX11_here cX11_here 4 (some .int)], w ∈ z_tbl := fun w h => z_m (by revert w h; decide +kernel) (by revert w h; decide +kernel)
theorem mv_L_87 : ∀ w ∈ [Cond.methodLink "ClockZonesLaw" 87 yX10_about, Cond.instanceMethod yX10_about, Cond.selects yX10_about.cls yX10_about yX10_about, Cond.initialized yX10_about.cls, Cond.code yX10_about cX10_about 4 (some .int)], w ∈ z_tbl := fun w h => z_m (by revert w h; decide +kernel) (by revert w h; decide +kernel)
theorem mv_L_90 : ∀ w ∈ [Cond.methodLink "ClockZonesLaw" 90 yX11_about, Cond.instanceMethod yX11_about, Cond.selects yX11_about.cls yX11_about yX11_about, Cond.initialized yX11_about.cls, Cond.code yX11_about cX11_about 3 (some .int)], w ∈ z_tbl := fun w h => z_m (by revert w h; decide +kernel) (by revert w h; decide +kernel)
theorem mv_L_91 : ∀ w ∈ [Cond.methodLink "ClockZonesLaw" 91 yX10_count, Cond.instanceMethod yX10_count, Cond.selects yX10_count.cls yX10_count yX10_count, Cond.initialized yX10_count.cls, Cond.code yX10_count cX10_count 2 (some .int)], w ∈ z_tbl := fun w h => z_m (by revert w h; decide +kernel) (by revert w h; decide +kernel)
theorem mv_L_94 : ∀ w ∈ [Cond.methodLink "ClockZonesLaw" 94 yX11_count, Cond.instanceMethod yX11_count, Cond.selects yX11_count.cls yX11_count yX11_count, Cond.initialized yX11_count.cls, Cond.code yX11_count cX11_count 4 (some .int)], w ∈ z_tbl := fun w h => z_m (by revert w h; decide +kernel) (by revert w h; decide +kernel)
theorem mv_L_95 : ∀ w ∈ [Cond.methodLink "ClockZonesLaw" 95 yX10_digest, Cond.instanceMethod yX10_digest, Cond.selects yX10_digest.cls yX10_digest yX10_digest, Cond.initialized yX10_digest.cls, Cond.code yX10_digest cX10_digest 3 (some .long)], w ∈ z_tbl := fun w h => z_m (by revert w h; decide +kernel) (by revert w h; decide +kernel)
theorem mv_L_99 : ∀ w ∈ [Cond.methodLink "ClockZonesLaw" 99 yX11_digest, Cond.instanceMethod yX11_digest, Cond.selects yX11_digest.cls yX11_digest yX11_digest, Cond.initialized yX11_digest.cls, Cond.code yX11_digest cX11_digest 3 (some .long)], w ∈ z_tbl := fun w h => z_m (by revert w h; decide +kernel) (by revert w h; decide +kernel)
theorem mo_11_1 : ∀ w ∈ [Cond.methodLink "ClockZonesModel" 1 Lib.objectInit, Cond.instanceMethod Lib.objectInit, Cond.code Lib.objectInit ⟨#[0xb1]⟩ 1 none], w ∈ z_tbl := fun w h => z_m (by revert w h; decide +kernel) (by revert w h; decide +kernel)
theorem mv_11_86 : ∀ w ∈ [Cond.methodLink "ClockZonesModel" 86 yX11_in, Cond.static yX11_in, Cond.initialized yX11_in.cls, Cond.code yX11_in cX11_in 3 (some .boolean)], w ∈ z_tbl := fun w h => z_m (by revert w h; decide +kernel) (by revert w h; decide +kernel)
theorem mv_11_97 : ∀ w ∈ [Cond.methodLink "ClockZonesModel" 97 yX11_isMachine, Cond.static yX11_isMachine, Cond.initialized yX11_isMachine.cls, Cond.code yX11_isMachine cX11_isMachine 1 (some .boolean)], w ∈ z_tbl := fun w h => z_m (by revert w h; decide +kernel) (by revert w h; decide +kernel)
theorem mv_11_101 : ∀ w ∈ [Cond.methodLink "ClockZonesModel" 101 yX11_isPlace, Cond.static yX11_isPlace, Cond.initialized yX11_isPlace.cls, Cond.code yX11_isPlace cX11_isPlace 1 (some .boolean)], w ∈ z_tbl := fun w h => z_m (by revert w h; decide +kernel) (by revert w h; decide +kernel)
theorem mv_11_104 : ∀ w ∈ [Cond.methodLink "ClockZonesModel" 104 yX11_changed, Cond.instanceMethod yX11_changed, Cond.selects yX11_changed.cls yX11_changed yX11_changed, Cond.initialized yX11_changed.cls, Cond.code yX11_changed cX11_changed 1 none], w ∈ z_tbl := fun w h => z_m (by revert w h; decide +kernel) (by revert w h; decide +kernel)
theorem mv_11_107 : ∀ w ∈ [Cond.methodLink "ClockZonesModel" 107 yX11_isEdge, Cond.instanceMethod yX11_isEdge, Cond.selects yX11_isEdge.cls yX11_isEdge yX11_isEdge, Cond.initialized yX11_isEdge.cls, Cond.code yX11_isEdge cX11_isEdge 2 (some .boolean)], w ∈ z_tbl := fun w h => z_m (by revert w h; decide +kernel) (by revert w h; decide +kernel)
theorem mv_11_110 : ∀ w ∈ [Cond.methodLink "ClockZonesModel" 110 yX11_isClock, Cond.static yX11_isClock, Cond.initialized yX11_isClock.cls, Cond.code yX11_isClock cX11_isClock 1 (some .boolean)], w ∈ z_tbl := fun w h => z_m (by revert w h; decide +kernel) (by revert w h; decide +kernel)
theorem mv_11_114 : ∀ w ∈ [Cond.methodLink "ClockZonesModel" 114 yX11_sum, Cond.static yX11_sum, Cond.initialized yX11_sum.cls, Cond.code yX11_sum cX11_sum 2 (some .int)], w ∈ z_tbl := fun w h => z_m (by revert w h; decide +kernel) (by revert w h; decide +kernel)
theorem mv_11_118 : ∀ w ∈ [Cond.methodLink "ClockZonesModel" 118 yX11_bind, Cond.instanceMethod yX11_bind, Cond.selects yX11_bind.cls yX11_bind yX11_bind, Cond.initialized yX11_bind.cls, Cond.code yX11_bind cX11_bind 4 none], w ∈ z_tbl := fun w h => z_m (by revert w h; decide +kernel) (by revert w h; decide +kernel)
theorem mv_11_122 : ∀ w ∈ [Cond.methodLink "ClockZonesModel" 122 yX11_test, Cond.instanceMethod yX11_test, Cond.selects yX11_test.cls yX11_test yX11_test, Cond.initialized yX11_test.cls, Cond.code yX11_test cX11_test 4 none], w ∈ z_tbl := fun w h => z_m (by revert w h; decide +kernel) (by revert w h; decide +kernel)
theorem mv_11_125 : ∀ w ∈ [Cond.methodLink "ClockZonesModel" 125 yX11_close, Cond.instanceMethod yX11_close, Cond.selects yX11_close.cls yX11_close yX11_close, Cond.initialized yX11_close.cls, Cond.code yX11_close cX11_close 5 (some .boolean)], w ∈ z_tbl := fun w h => z_m (by revert w h; decide +kernel) (by revert w h; decide +kernel)
theorem mv_11_129 : ∀ w ∈ [Cond.methodLink "ClockZonesModel" 129 yX11_greatestOf, Cond.instanceMethod yX11_greatestOf, Cond.selects yX11_greatestOf.cls yX11_greatestOf yX11_greatestOf, Cond.initialized yX11_greatestOf.cls, Cond.code yX11_greatestOf cX11_greatestOf 6 (some .int)], w ∈ z_tbl := fun w h => z_m (by revert w h; decide +kernel) (by revert w h; decide +kernel)
theorem mv_11_133 : ∀ w ∈ [Cond.methodLink "ClockZonesModel" 133 yX11_keepLimits, Cond.instanceMethod yX11_keepLimits, Cond.selects yX11_keepLimits.cls yX11_keepLimits yX11_keepLimits, Cond.initialized yX11_keepLimits.cls, Cond.code yX11_keepLimits cX11_keepLimits 5 (some .boolean)], w ∈ z_tbl := fun w h => z_m (by revert w h; decide +kernel) (by revert w h; decide +kernel)
theorem mv_11_136 : ∀ w ∈ [Cond.methodLink "ClockZonesModel" 136 yX11_widen, Cond.instanceMethod yX11_widen, Cond.selects yX11_widen.cls yX11_widen yX11_widen, Cond.initialized yX11_widen.cls, Cond.code yX11_widen cX11_widen 6 (some .boolean)], w ∈ z_tbl := fun w h => z_m (by revert w h; decide +kernel) (by revert w h; decide +kernel)
theorem mv_11_139 : ∀ w ∈ [Cond.methodLink "ClockZonesModel" 139 yX11_keepGuards, Cond.instanceMethod yX11_keepGuards, Cond.selects yX11_keepGuards.cls yX11_keepGuards yX11_keepGuards, Cond.initialized yX11_keepGuards.cls, Cond.code yX11_keepGuards cX11_keepGuards 4 (some .boolean)], w ∈ z_tbl := fun w h => z_m (by revert w h; decide +kernel) (by revert w h; decide +kernel)
theorem mv_11_142 : ∀ w ∈ [Cond.methodLink "ClockZonesModel" 142 yX11_set, Cond.instanceMethod yX11_set, Cond.selects yX11_set.cls yX11_set yX11_set, Cond.initialized yX11_set.cls, Cond.code yX11_set cX11_set 4 none], w ∈ z_tbl := fun w h => z_m (by revert w h; decide +kernel) (by revert w h; decide +kernel)
theorem mv_11_146 : ∀ w ∈ [Cond.methodLink "ClockZonesModel" 146 yX11_later, Cond.instanceMethod yX11_later, Cond.selects yX11_later.cls yX11_later yX11_later, Cond.initialized yX11_later.cls, Cond.code yX11_later cX11_later 2 (some .boolean)], w ∈ z_tbl := fun w h => z_m (by revert w h; decide +kernel) (by revert w h; decide +kernel)
theorem mv_11_152 : ∀ w ∈ [Cond.methodLink "ClockZonesModel" 152 yX11_meet, Cond.instanceMethod yX11_meet, Cond.selects yX11_meet.cls yX11_meet yX11_meet, Cond.initialized yX11_meet.cls, Cond.code yX11_meet cX11_meet 5 none], w ∈ z_tbl := fun w h => z_m (by revert w h; decide +kernel) (by revert w h; decide +kernel)
theorem mv_11_155 : ∀ w ∈ [Cond.methodLink "ClockZonesModel" 155 yX11_isMove, Cond.instanceMethod yX11_isMove, Cond.selects yX11_isMove.cls yX11_isMove yX11_isMove, Cond.initialized yX11_isMove.cls, Cond.code yX11_isMove cX11_isMove 3 (some .boolean)], w ∈ z_tbl := fun w h => z_m (by revert w h; decide +kernel) (by revert w h; decide +kernel)
theorem mv_11_159 : ∀ w ∈ [Cond.methodLink "ClockZonesModel" 159 yX11_follows, Cond.instanceMethod yX11_follows, Cond.selects yX11_follows.cls yX11_follows yX11_follows, Cond.initialized yX11_follows.cls, Cond.code yX11_follows cX11_follows 5 (some .boolean)], w ∈ z_tbl := fun w h => z_m (by revert w h; decide +kernel) (by revert w h; decide +kernel)
theorem mv_11_162 : ∀ w ∈ [Cond.methodLink "ClockZonesModel" 162 yX11_isMet, Cond.instanceMethod yX11_isMet, Cond.selects yX11_isMet.cls yX11_isMet yX11_isMet, Cond.initialized yX11_isMet.cls, Cond.code yX11_isMet cX11_isMet 4 (some .boolean)], w ∈ z_tbl := fun w h => z_m (by revert w h; decide +kernel) (by revert w h; decide +kernel)
theorem mv_11_165 : ∀ w ∈ [Cond.methodLink "ClockZonesModel" 165 yX11_isState, Cond.instanceMethod yX11_isState, Cond.selects yX11_isState.cls yX11_isState yX11_isState, Cond.initialized yX11_isState.cls, Cond.code yX11_isState cX11_isState 2 (some .boolean)], w ∈ z_tbl := fun w h => z_m (by revert w h; decide +kernel) (by revert w h; decide +kernel)
theorem mv_11_168 : ∀ w ∈ [Cond.methodLink "ClockZonesModel" 168 yX11_tells, Cond.instanceMethod yX11_tells, Cond.selects yX11_tells.cls yX11_tells yX11_tells, Cond.initialized yX11_tells.cls, Cond.code yX11_tells cX11_tells 3 (some .int)], w ∈ z_tbl := fun w h => z_m (by revert w h; decide +kernel) (by revert w h; decide +kernel)
theorem mv_11_174 : ∀ w ∈ [Cond.methodLink "ClockZonesModel" 174 yX11_holds, Cond.instanceMethod yX11_holds, Cond.selects yX11_holds.cls yX11_holds yX11_holds, Cond.initialized yX11_holds.cls, Cond.code yX11_holds cX11_holds 7 (some .boolean)], w ∈ z_tbl := fun w h => z_m (by revert w h; decide +kernel) (by revert w h; decide +kernel)
theorem mv_11_177 : ∀ w ∈ [Cond.methodLink "ClockZonesModel" 177 yX11_layOut, Cond.instanceMethod yX11_layOut, Cond.selects yX11_layOut.cls yX11_layOut yX11_layOut, Cond.initialized yX11_layOut.cls, Cond.code yX11_layOut cX11_layOut 4 (some .int)], w ∈ z_tbl := fun w h => z_m (by revert w h; decide +kernel) (by revert w h; decide +kernel)
theorem mv_11_183 : ∀ w ∈ [Cond.methodLink "ClockZonesModel" 183 yX11_behind, Cond.instanceMethod yX11_behind, Cond.selects yX11_behind.cls yX11_behind yX11_behind, Cond.initialized yX11_behind.cls, Cond.code yX11_behind cX11_behind 4 none], w ∈ z_tbl := fun w h => z_m (by revert w h; decide +kernel) (by revert w h; decide +kernel)
theorem mv_11_186 : ∀ w ∈ [Cond.methodLink "ClockZonesModel" 186 yX11_setAt, Cond.instanceMethod yX11_setAt, Cond.selects yX11_setAt.cls yX11_setAt yX11_setAt, Cond.initialized yX11_setAt.cls, Cond.code yX11_setAt cX11_setAt 4 (some .int)], w ∈ z_tbl := fun w h => z_m (by revert w h; decide +kernel) (by revert w h; decide +kernel)
theorem mv_11_189 : ∀ w ∈ [Cond.methodLink "ClockZonesModel" 189 yX11_ask, Cond.instanceMethod yX11_ask, Cond.selects yX11_ask.cls yX11_ask yX11_ask, Cond.initialized yX11_ask.cls, Cond.code yX11_ask cX11_ask 5 none], w ∈ z_tbl := fun w h => z_m (by revert w h; decide +kernel) (by revert w h; decide +kernel)
theorem mv_11_193 : ∀ w ∈ [Cond.methodLink "ClockZonesModel" 193 yX11_askGuards, Cond.instanceMethod yX11_askGuards, Cond.selects yX11_askGuards.cls yX11_askGuards yX11_askGuards, Cond.initialized yX11_askGuards.cls, Cond.code yX11_askGuards cX11_askGuards 5 none], w ∈ z_tbl := fun w h => z_m (by revert w h; decide +kernel) (by revert w h; decide +kernel)
theorem mv_11_197 : ∀ w ∈ [Cond.methodLink "ClockZonesModel" 197 yX11_askLimits, Cond.instanceMethod yX11_askLimits, Cond.selects yX11_askLimits.cls yX11_askLimits yX11_askLimits, Cond.initialized yX11_askLimits.cls, Cond.code yX11_askLimits cX11_askLimits 8 none], w ∈ z_tbl := fun w h => z_m (by revert w h; decide +kernel) (by revert w h; decide +kernel)
theorem mv_11_200 : ∀ w ∈ [Cond.methodLink "ClockZonesModel" 200 yX11_timeAll, Cond.instanceMethod yX11_timeAll, Cond.selects yX11_timeAll.cls yX11_timeAll yX11_timeAll, Cond.initialized yX11_timeAll.cls, Cond.code yX11_timeAll cX11_timeAll 4 none], w ∈ z_tbl := fun w h => z_m (by revert w h; decide +kernel) (by revert w h; decide +kernel)
theorem mv_11_203 : ∀ w ∈ [Cond.methodLink "ClockZonesModel" 203 yX11_passes, Cond.static yX11_passes, Cond.initialized yX11_passes.cls, Cond.code yX11_passes cX11_passes 4 (some .boolean)], w ∈ z_tbl := fun w h => z_m (by revert w h; decide +kernel) (by revert w h; decide +kernel)
theorem mv_11_206 : ∀ w ∈ [Cond.methodLink "ClockZonesModel" 206 yX11_areKept, Cond.instanceMethod yX11_areKept, Cond.selects yX11_areKept.cls yX11_areKept yX11_areKept, Cond.initialized yX11_areKept.cls, Cond.code yX11_areKept cX11_areKept 6 (some .boolean)], w ∈ z_tbl := fun w h => z_m (by revert w h; decide +kernel) (by revert w h; decide +kernel)
theorem mv_11_209 : ∀ w ∈ [Cond.methodLink "ClockZonesModel" 209 yX11_become, Cond.instanceMethod yX11_become, Cond.selects yX11_become.cls yX11_become yX11_become, Cond.initialized yX11_become.cls, Cond.code yX11_become cX11_become 2 none], w ∈ z_tbl := fun w h => z_m (by revert w h; decide +kernel) (by revert w h; decide +kernel)
theorem mv_11_219 : ∀ w ∈ [Cond.methodLink "ClockZonesModel" 219 yX11_look, Cond.instanceMethod yX11_look, Cond.selects yX11_look.cls yX11_look yX11_look, Cond.initialized yX11_look.cls, Cond.code yX11_look cX11_look 2 none], w ∈ z_tbl := fun w h => z_m (by revert w h; decide +kernel) (by revert w h; decide +kernel)
theorem mv_11_222 : ∀ w ∈ [Cond.methodLink "ClockZonesModel" 222 yX11_isOpen, Cond.instanceMethod yX11_isOpen, Cond.selects yX11_isOpen.cls yX11_isOpen yX11_isOpen, Cond.initialized yX11_isOpen.cls, Cond.code yX11_isOpen cX11_isOpen 5 (some .boolean)], w ∈ z_tbl := fun w h => z_m (by revert w h; decide +kernel) (by revert w h; decide +kernel)
theorem mv_11_225 : ∀ w ∈ [Cond.methodLink "ClockZonesModel" 225 yX11_go, Cond.instanceMethod yX11_go, Cond.selects yX11_go.cls yX11_go yX11_go, Cond.initialized yX11_go.cls, Cond.code yX11_go cX11_go 3 none], w ∈ z_tbl := fun w h => z_m (by revert w h; decide +kernel) (by revert w h; decide +kernel)
theorem mv_11_228 : ∀ w ∈ [Cond.methodLink "ClockZonesModel" 228 yX11_moveCount, Cond.instanceMethod yX11_moveCount, Cond.selects yX11_moveCount.cls yX11_moveCount yX11_moveCount, Cond.initialized yX11_moveCount.cls, Cond.code yX11_moveCount cX11_moveCount 4 (some .int)], w ∈ z_tbl := fun w h => z_m (by revert w h; decide +kernel) (by revert w h; decide +kernel)
theorem mv_11_240 : ∀ w ∈ [Cond.methodLink "ClockZonesModel" 240 yX11_about, Cond.instanceMethod yX11_about, Cond.selects yX11_about.cls yX11_about yX11_about, Cond.initialized yX11_about.cls, Cond.code yX11_about cX11_about 3 (some .int)], w ∈ z_tbl := fun w h => z_m (by revert w h; decide +kernel) (by revert w h; decide +kernel)
theorem mv_11_243 : ∀ w ∈ [Cond.methodLink "ClockZonesModel" 243 yX11_mix, Cond.instanceMethod yX11_mix, Cond.selects yX11_mix.cls yX11_mix yX11_mix, Cond.initialized yX11_mix.cls, Cond.code yX11_mix cX11_mix 3 none], w ∈ z_tbl := fun w h => z_m (by revert w h; decide +kernel) (by revert w h; decide +kernel)
theorem mv_11_247 : ∀ w ∈ [Cond.methodLink "ClockZonesModel" 247 yX11_run, Cond.instanceMethod yX11_run, Cond.selects yX11_run.cls yX11_run yX11_run, Cond.initialized yX11_run.cls, Cond.code yX11_run cX11_run 2 (some .int)], w ∈ z_tbl := fun w h => z_m (by revert w h; decide +kernel) (by revert w h; decide +kernel)
theorem nw_10_9 : ∀ w ∈ [Cond.classLink "ClockZones" 9 RX2, Cond.instantiable RX2 5, Cond.initialized RX2], w ∈ z_tbl := fun w h => z_m (by revert w h; decide +kernel) (by revert w h; decide +kernel)
theorem nw_10_16 : ∀ w ∈ [Cond.classLink "ClockZones" 16 RX3, Cond.instantiable RX3 6, Cond.initialized RX3], w ∈ z_tbl := fun w h => z_m (by revert w h; decide +kernel) (by revert w h; decide +kernel)
theorem nw_10_23 : ∀ w ∈ [Cond.classLink "ClockZones" 23 RX8, Cond.instantiable RX8 7, Cond.initialized RX8], w ∈ z_tbl := fun w h => z_m (by revert w h; decide +kernel) (by revert w h; decide +kernel)
theorem nw_10_30 : ∀ w ∈ [Cond.classLink "ClockZones" 30 RX7, Cond.instantiable RX7 7, Cond.initialized RX7], w ∈ z_tbl := fun w h => z_m (by revert w h; decide +kernel) (by revert w h; decide +kernel)
theorem nw_10_58 : ∀ w ∈ [Cond.classLink "ClockZones" 58 RX0, Cond.instantiable RX0 6, Cond.initialized RX0], w ∈ z_tbl := fun w h => z_m (by revert w h; decide +kernel) (by revert w h; decide +kernel)
theorem nw_10_246 : ∀ w ∈ [Cond.classLink "ClockZones" 246 RX5, Cond.instantiable RX5 3, Cond.initialized RX5], w ∈ z_tbl := fun w h => z_m (by revert w h; decide +kernel) (by revert w h; decide +kernel)
theorem nw_0_7 : ∀ w ∈ [Cond.classLink "ClockZones$Edge" 7 RX6, Cond.instantiable RX6 2, Cond.initialized RX6], w ∈ z_tbl := fun w h => z_m (by revert w h; decide +kernel) (by revert w h; decide +kernel)
theorem nw_2_17 : ∀ w ∈ [Cond.classLink "ClockZones$Net" 17 RX1, Cond.instantiable RX1 5, Cond.initialized RX1], w ∈ z_tbl := fun w h => z_m (by revert w h; decide +kernel) (by revert w h; decide +kernel)
theorem nw_2_23 : ∀ w ∈ [Cond.classLink "ClockZones$Net" 23 RX6, Cond.instantiable RX6 2, Cond.initialized RX6], w ∈ z_tbl := fun w h => z_m (by revert w h; decide +kernel) (by revert w h; decide +kernel)
theorem nw_3_9 : ∀ w ∈ [Cond.classLink "ClockZones$Search" 9 RX4, Cond.instantiable RX4 3, Cond.initialized RX4], w ∈ z_tbl := fun w h => z_m (by revert w h; decide +kernel) (by revert w h; decide +kernel)
theorem nw_3_26 : ∀ w ∈ [Cond.classLink "ClockZones$Search" 26 RX9, Cond.instantiable RX9 1, Cond.initialized RX9], w ∈ z_tbl := fun w h => z_m (by revert w h; decide +kernel) (by revert w h; decide +kernel)
theorem nw_L_7 : ∀ w ∈ [Cond.classLink "ClockZonesLaw" 7 RX10, Cond.instantiable RX10 6, Cond.initialized RX10], w ∈ z_tbl := fun w h => z_m (by revert w h; decide +kernel) (by revert w h; decide +kernel)
theorem nw_L_10 : ∀ w ∈ [Cond.classLink "ClockZonesLaw" 10 RX11, Cond.instantiable RX11 32, Cond.initialized RX11], w ∈ z_tbl := fun w h => z_m (by revert w h; decide +kernel) (by revert w h; decide +kernel)
theorem na_2_9 : Cond.classLink "ClockZones$Net" 9 RX0 ∈ z_tbl := z_m (by decide +kernel) (by decide +kernel)
theorem na_2_17 : Cond.classLink "ClockZones$Net" 17 RX1 ∈ z_tbl := z_m (by decide +kernel) (by decide +kernel)
theorem na_2_23 : Cond.classLink "ClockZones$Net" 23 RX6 ∈ z_tbl := z_m (by decide +kernel) (by decide +kernel)
theorem na_6_9 : Cond.classLink "ClockZones$TestList" 9 RX5 ∈ z_tbl := z_m (by decide +kernel) (by decide +kernel)
theorem z_intA : Cond.arrayClass .int ∈ z_tbl := z_m (by decide +kernel) (by decide +kernel)
end
