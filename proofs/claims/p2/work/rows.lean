section
-- ===== PART A: goes FIRST, ahead of the names: the tables' words, and 'selects' of the private methods out of them =====
/-- a private method of a class that the tables say can be made, by its rows of tables_1 -/
def lw_okq (q : MethodName × Nat) : Prop := (q.1.cls ≠ "java/lang/invoke/MethodHandle" ∧ q.1.cls ≠ "java/lang/invoke/VarHandle") ∧ Cond.instantiable q.1.cls q.2 ∈ tables_1 ∧ Cond.privateMethod q.1 ∈ tables_1 ∧ Cond.instanceMethod q.1 ∈ tables_1
theorem lw_p0 : lw_okq (⟨"ClockZones", "forgetFindings", "()V"⟩, 6) := ⟨⟨by decide +kernel, by decide +kernel⟩, List.mem_of_getElem? (i := 17) (by decide +kernel), List.mem_of_getElem? (i := 226) (by decide +kernel), List.mem_of_getElem? (i := 227) (by decide +kernel)⟩
theorem lw_p1 : lw_okq (⟨"ClockZones$Net", "insert", "(LClockZones$Move;)V"⟩, 5) := ⟨⟨by decide +kernel, by decide +kernel⟩, List.mem_of_getElem? (i := 25) (by decide +kernel), List.mem_of_getElem? (i := 302) (by decide +kernel), List.mem_of_getElem? (i := 303) (by decide +kernel)⟩
theorem lw_p2 : lw_okq (⟨"ClockZones", "addTest", "(LClockZones$TestList;III)I"⟩, 6) := ⟨⟨by decide +kernel, by decide +kernel⟩, List.mem_of_getElem? (i := 17) (by decide +kernel), List.mem_of_getElem? (i := 331) (by decide +kernel), List.mem_of_getElem? (i := 332) (by decide +kernel)⟩
theorem lw_p3 : lw_okq (⟨"ClockZones$Search", "prepare", "(LClockZones$Net;)V"⟩, 6) := ⟨⟨by decide +kernel, by decide +kernel⟩, List.mem_of_getElem? (i := 77) (by decide +kernel), List.mem_of_getElem? (i := 385) (by decide +kernel), List.mem_of_getElem? (i := 386) (by decide +kernel)⟩
theorem lw_p4 : lw_okq (⟨"ClockZones$Search", "standAtStart", "()V"⟩, 6) := ⟨⟨by decide +kernel, by decide +kernel⟩, List.mem_of_getElem? (i := 77) (by decide +kernel), List.mem_of_getElem? (i := 401) (by decide +kernel), List.mem_of_getElem? (i := 402) (by decide +kernel)⟩
theorem lw_p5 : lw_okq (⟨"ClockZones$Search", "settles", "(LClockZones$Net;)Z"⟩, 6) := ⟨⟨by decide +kernel, by decide +kernel⟩, List.mem_of_getElem? (i := 77) (by decide +kernel), List.mem_of_getElem? (i := 413) (by decide +kernel), List.mem_of_getElem? (i := 414) (by decide +kernel)⟩
theorem lw_p6 : lw_okq (⟨"ClockZones$Zone", "close", "()V"⟩, 1) := ⟨⟨by decide +kernel, by decide +kernel⟩, List.mem_of_getElem? (i := 102) (by decide +kernel), List.mem_of_getElem? (i := 458) (by decide +kernel), List.mem_of_getElem? (i := 459) (by decide +kernel)⟩
theorem lw_p7 : lw_okq (⟨"ClockZones$Search", "goesBy", "(ILClockZones$Move;)Z"⟩, 6) := ⟨⟨by decide +kernel, by decide +kernel⟩, List.mem_of_getElem? (i := 77) (by decide +kernel), List.mem_of_getElem? (i := 469) (by decide +kernel), List.mem_of_getElem? (i := 470) (by decide +kernel)⟩
theorem lw_p8 : lw_okq (⟨"ClockZones$States", "isAt", "(I[I)Z"⟩, 3) := ⟨⟨by decide +kernel, by decide +kernel⟩, List.mem_of_getElem? (i := 83) (by decide +kernel), List.mem_of_getElem? (i := 506) (by decide +kernel), List.mem_of_getElem? (i := 507) (by decide +kernel)⟩
theorem lw_p9 : lw_okq (⟨"ClockZones$States", "takesIn", "(ILClockZones$Zone;)Z"⟩, 3) := ⟨⟨by decide +kernel, by decide +kernel⟩, List.mem_of_getElem? (i := 83) (by decide +kernel), List.mem_of_getElem? (i := 514) (by decide +kernel), List.mem_of_getElem? (i := 515) (by decide +kernel)⟩
theorem lw_p10 : lw_okq (⟨"ClockZones$Timetable", "visit", "(LClockZones$States;II)V"⟩, 7) := ⟨⟨by decide +kernel, by decide +kernel⟩, List.mem_of_getElem? (i := 168) (by decide +kernel), List.mem_of_getElem? (i := 587) (by decide +kernel), List.mem_of_getElem? (i := 588) (by decide +kernel)⟩
theorem lw_p11 : lw_okq (⟨"ClockZones$Timetable", "addGap", "(III)V"⟩, 7) := ⟨⟨by decide +kernel, by decide +kernel⟩, List.mem_of_getElem? (i := 168) (by decide +kernel), List.mem_of_getElem? (i := 592) (by decide +kernel), List.mem_of_getElem? (i := 593) (by decide +kernel)⟩
theorem lw_p12 : lw_okq (⟨"ClockZones$Timetable", "addLimits", "(LClockZones$Net;LClockZones$States;II)V"⟩, 7) := ⟨⟨by decide +kernel, by decide +kernel⟩, List.mem_of_getElem? (i := 168) (by decide +kernel), List.mem_of_getElem? (i := 596) (by decide +kernel), List.mem_of_getElem? (i := 597) (by decide +kernel)⟩
theorem lw_p13 : lw_okq (⟨"ClockZones$Timetable", "addTests", "(LClockZones$TestList;I)V"⟩, 7) := ⟨⟨by decide +kernel, by decide +kernel⟩, List.mem_of_getElem? (i := 168) (by decide +kernel), List.mem_of_getElem? (i := 601) (by decide +kernel), List.mem_of_getElem? (i := 602) (by decide +kernel)⟩
theorem lw_p14 : lw_okq (⟨"ClockZones$Timetable", "addStep", "(LClockZones$Move;I)V"⟩, 7) := ⟨⟨by decide +kernel, by decide +kernel⟩, List.mem_of_getElem? (i := 168) (by decide +kernel), List.mem_of_getElem? (i := 619) (by decide +kernel), List.mem_of_getElem? (i := 620) (by decide +kernel)⟩
theorem lw_p15 : lw_okq (⟨"ClockZones$Timetable", "settle", "()V"⟩, 7) := ⟨⟨by decide +kernel, by decide +kernel⟩, List.mem_of_getElem? (i := 168) (by decide +kernel), List.mem_of_getElem? (i := 624) (by decide +kernel), List.mem_of_getElem? (i := 625) (by decide +kernel)⟩
def lw_privs_1 : List (MethodName × Nat) := [(⟨"ClockZones", "forgetFindings", "()V"⟩, 6), (⟨"ClockZones$Net", "insert", "(LClockZones$Move;)V"⟩, 5), (⟨"ClockZones", "addTest", "(LClockZones$TestList;III)I"⟩, 6), (⟨"ClockZones$Search", "prepare", "(LClockZones$Net;)V"⟩, 6), (⟨"ClockZones$Search", "standAtStart", "()V"⟩, 6), (⟨"ClockZones$Search", "settles", "(LClockZones$Net;)Z"⟩, 6), (⟨"ClockZones$Zone", "close", "()V"⟩, 1), (⟨"ClockZones$Search", "goesBy", "(ILClockZones$Move;)Z"⟩, 6), (⟨"ClockZones$States", "isAt", "(I[I)Z"⟩, 3), (⟨"ClockZones$States", "takesIn", "(ILClockZones$Zone;)Z"⟩, 3), (⟨"ClockZones$Timetable", "visit", "(LClockZones$States;II)V"⟩, 7), (⟨"ClockZones$Timetable", "addGap", "(III)V"⟩, 7), (⟨"ClockZones$Timetable", "addLimits", "(LClockZones$Net;LClockZones$States;II)V"⟩, 7), (⟨"ClockZones$Timetable", "addTests", "(LClockZones$TestList;I)V"⟩, 7), (⟨"ClockZones$Timetable", "addStep", "(LClockZones$Move;I)V"⟩, 7), (⟨"ClockZones$Timetable", "settle", "()V"⟩, 7)]
theorem lw_r1 : ∀ q ∈ lw_privs_1, lw_okq q := List.forall_mem_cons.mpr ⟨lw_p0, List.forall_mem_cons.mpr ⟨lw_p1, List.forall_mem_cons.mpr ⟨lw_p2, List.forall_mem_cons.mpr ⟨lw_p3, List.forall_mem_cons.mpr ⟨lw_p4, List.forall_mem_cons.mpr ⟨lw_p5, List.forall_mem_cons.mpr ⟨lw_p6, List.forall_mem_cons.mpr ⟨lw_p7, List.forall_mem_cons.mpr ⟨lw_p8, List.forall_mem_cons.mpr ⟨lw_p9, List.forall_mem_cons.mpr ⟨lw_p10, List.forall_mem_cons.mpr ⟨lw_p11, List.forall_mem_cons.mpr ⟨lw_p12, List.forall_mem_cons.mpr ⟨lw_p13, List.forall_mem_cons.mpr ⟨lw_p14, List.forall_mem_cons.mpr ⟨lw_p15, fun _ h => absurd h List.not_mem_nil⟩⟩⟩⟩⟩⟩⟩⟩⟩⟩⟩⟩⟩⟩⟩⟩
theorem lw_p16 : lw_okq (⟨"ClockZones", "mixEdges", "(J)J"⟩, 6) := ⟨⟨by decide +kernel, by decide +kernel⟩, List.mem_of_getElem? (i := 17) (by decide +kernel), List.mem_of_getElem? (i := 724) (by decide +kernel), List.mem_of_getElem? (i := 725) (by decide +kernel)⟩
theorem lw_p17 : lw_okq (⟨"ClockZones", "mixLimits", "(J)J"⟩, 6) := ⟨⟨by decide +kernel, by decide +kernel⟩, List.mem_of_getElem? (i := 17) (by decide +kernel), List.mem_of_getElem? (i := 736) (by decide +kernel), List.mem_of_getElem? (i := 737) (by decide +kernel)⟩
theorem lw_p18 : lw_okq (⟨"ClockZones", "mixStates", "(J)J"⟩, 6) := ⟨⟨by decide +kernel, by decide +kernel⟩, List.mem_of_getElem? (i := 17) (by decide +kernel), List.mem_of_getElem? (i := 740) (by decide +kernel), List.mem_of_getElem? (i := 741) (by decide +kernel)⟩
theorem lw_p19 : lw_okq (⟨"ClockZones", "mixWalk", "(J)J"⟩, 6) := ⟨⟨by decide +kernel, by decide +kernel⟩, List.mem_of_getElem? (i := 17) (by decide +kernel), List.mem_of_getElem? (i := 746) (by decide +kernel), List.mem_of_getElem? (i := 747) (by decide +kernel)⟩
theorem lw_p20 : lw_okq (⟨"ClockZonesModel", "changed", "()V"⟩, 32) := ⟨⟨by decide +kernel, by decide +kernel⟩, List.mem_of_getElem? (i := 751) (by decide +kernel), List.mem_of_getElem? (i := 867) (by decide +kernel), List.mem_of_getElem? (i := 868) (by decide +kernel)⟩
theorem lw_p21 : lw_okq (⟨"ClockZonesModel", "isEdge", "(I)Z"⟩, 32) := ⟨⟨by decide +kernel, by decide +kernel⟩, List.mem_of_getElem? (i := 751) (by decide +kernel), List.mem_of_getElem? (i := 875) (by decide +kernel), List.mem_of_getElem? (i := 876) (by decide +kernel)⟩
theorem lw_p22 : lw_okq (⟨"ClockZonesModel", "keepLimits", "()Z"⟩, 32) := ⟨⟨by decide +kernel, by decide +kernel⟩, List.mem_of_getElem? (i := 751) (by decide +kernel), List.mem_of_getElem? (i := 894) (by decide +kernel), List.mem_of_getElem? (i := 895) (by decide +kernel)⟩
theorem lw_p23 : lw_okq (⟨"ClockZonesModel", "test", "(III)V"⟩, 32) := ⟨⟨by decide +kernel, by decide +kernel⟩, List.mem_of_getElem? (i := 751) (by decide +kernel), List.mem_of_getElem? (i := 898) (by decide +kernel), List.mem_of_getElem? (i := 899) (by decide +kernel)⟩
theorem lw_p24 : lw_okq (⟨"ClockZonesModel", "bind", "(III)V"⟩, 32) := ⟨⟨by decide +kernel, by decide +kernel⟩, List.mem_of_getElem? (i := 751) (by decide +kernel), List.mem_of_getElem? (i := 902) (by decide +kernel), List.mem_of_getElem? (i := 903) (by decide +kernel)⟩
theorem lw_p25 : lw_okq (⟨"ClockZonesModel", "close", "()Z"⟩, 32) := ⟨⟨by decide +kernel, by decide +kernel⟩, List.mem_of_getElem? (i := 751) (by decide +kernel), List.mem_of_getElem? (i := 906) (by decide +kernel), List.mem_of_getElem? (i := 907) (by decide +kernel)⟩
theorem lw_p26 : lw_okq (⟨"ClockZonesModel", "later", "()Z"⟩, 32) := ⟨⟨by decide +kernel, by decide +kernel⟩, List.mem_of_getElem? (i := 751) (by decide +kernel), List.mem_of_getElem? (i := 914) (by decide +kernel), List.mem_of_getElem? (i := 915) (by decide +kernel)⟩
theorem lw_p27 : lw_okq (⟨"ClockZonesModel", "widen", "()Z"⟩, 32) := ⟨⟨by decide +kernel, by decide +kernel⟩, List.mem_of_getElem? (i := 751) (by decide +kernel), List.mem_of_getElem? (i := 918) (by decide +kernel), List.mem_of_getElem? (i := 919) (by decide +kernel)⟩
theorem lw_p28 : lw_okq (⟨"ClockZonesModel", "greatestOf", "(I)I"⟩, 32) := ⟨⟨by decide +kernel, by decide +kernel⟩, List.mem_of_getElem? (i := 751) (by decide +kernel), List.mem_of_getElem? (i := 922) (by decide +kernel), List.mem_of_getElem? (i := 923) (by decide +kernel)⟩
theorem lw_p29 : lw_okq (⟨"ClockZonesModel", "meet", "(III)V"⟩, 32) := ⟨⟨by decide +kernel, by decide +kernel⟩, List.mem_of_getElem? (i := 751) (by decide +kernel), List.mem_of_getElem? (i := 926) (by decide +kernel), List.mem_of_getElem? (i := 927) (by decide +kernel)⟩
theorem lw_p30 : lw_okq (⟨"ClockZonesModel", "isMove", "(II)Z"⟩, 32) := ⟨⟨by decide +kernel, by decide +kernel⟩, List.mem_of_getElem? (i := 751) (by decide +kernel), List.mem_of_getElem? (i := 930) (by decide +kernel), List.mem_of_getElem? (i := 931) (by decide +kernel)⟩
theorem lw_p31 : lw_okq (⟨"ClockZonesModel", "follows", "(III)Z"⟩, 32) := ⟨⟨by decide +kernel, by decide +kernel⟩, List.mem_of_getElem? (i := 751) (by decide +kernel), List.mem_of_getElem? (i := 934) (by decide +kernel), List.mem_of_getElem? (i := 935) (by decide +kernel)⟩
def lw_privs_2 : List (MethodName × Nat) := [(⟨"ClockZones", "mixEdges", "(J)J"⟩, 6), (⟨"ClockZones", "mixLimits", "(J)J"⟩, 6), (⟨"ClockZones", "mixStates", "(J)J"⟩, 6), (⟨"ClockZones", "mixWalk", "(J)J"⟩, 6), (⟨"ClockZonesModel", "changed", "()V"⟩, 32), (⟨"ClockZonesModel", "isEdge", "(I)Z"⟩, 32), (⟨"ClockZonesModel", "keepLimits", "()Z"⟩, 32), (⟨"ClockZonesModel", "test", "(III)V"⟩, 32), (⟨"ClockZonesModel", "bind", "(III)V"⟩, 32), (⟨"ClockZonesModel", "close", "()Z"⟩, 32), (⟨"ClockZonesModel", "later", "()Z"⟩, 32), (⟨"ClockZonesModel", "widen", "()Z"⟩, 32), (⟨"ClockZonesModel", "greatestOf", "(I)I"⟩, 32), (⟨"ClockZonesModel", "meet", "(III)V"⟩, 32), (⟨"ClockZonesModel", "isMove", "(II)Z"⟩, 32), (⟨"ClockZonesModel", "follows", "(III)Z"⟩, 32)]
theorem lw_r2 : ∀ q ∈ lw_privs_2, lw_okq q := List.forall_mem_cons.mpr ⟨lw_p16, List.forall_mem_cons.mpr ⟨lw_p17, List.forall_mem_cons.mpr ⟨lw_p18, List.forall_mem_cons.mpr ⟨lw_p19, List.forall_mem_cons.mpr ⟨lw_p20, List.forall_mem_cons.mpr ⟨lw_p21, List.forall_mem_cons.mpr ⟨lw_p22, List.forall_mem_cons.mpr ⟨lw_p23, List.forall_mem_cons.mpr ⟨lw_p24, List.forall_mem_cons.mpr ⟨lw_p25, List.forall_mem_cons.mpr ⟨lw_p26, List.forall_mem_cons.mpr ⟨lw_p27, List.forall_mem_cons.mpr ⟨lw_p28, List.forall_mem_cons.mpr ⟨lw_p29, List.forall_mem_cons.mpr ⟨lw_p30, List.forall_mem_cons.mpr ⟨lw_p31, fun _ h => absurd h List.not_mem_nil⟩⟩⟩⟩⟩⟩⟩⟩⟩⟩⟩⟩⟩⟩⟩⟩
theorem lw_p32 : lw_okq (⟨"ClockZonesModel", "keepGuards", "(I)Z"⟩, 32) := ⟨⟨by decide +kernel, by decide +kernel⟩, List.mem_of_getElem? (i := 751) (by decide +kernel), List.mem_of_getElem? (i := 938) (by decide +kernel), List.mem_of_getElem? (i := 939) (by decide +kernel)⟩
theorem lw_p33 : lw_okq (⟨"ClockZonesModel", "set", "(I)V"⟩, 32) := ⟨⟨by decide +kernel, by decide +kernel⟩, List.mem_of_getElem? (i := 751) (by decide +kernel), List.mem_of_getElem? (i := 942) (by decide +kernel), List.mem_of_getElem? (i := 943) (by decide +kernel)⟩
theorem lw_p34 : lw_okq (⟨"ClockZonesModel", "isMet", "()Z"⟩, 32) := ⟨⟨by decide +kernel, by decide +kernel⟩, List.mem_of_getElem? (i := 751) (by decide +kernel), List.mem_of_getElem? (i := 946) (by decide +kernel), List.mem_of_getElem? (i := 947) (by decide +kernel)⟩
theorem lw_p35 : lw_okq (⟨"ClockZonesModel", "isState", "(I)Z"⟩, 32) := ⟨⟨by decide +kernel, by decide +kernel⟩, List.mem_of_getElem? (i := 751) (by decide +kernel), List.mem_of_getElem? (i := 954) (by decide +kernel), List.mem_of_getElem? (i := 955) (by decide +kernel)⟩
theorem lw_p36 : lw_okq (⟨"ClockZonesModel", "tells", "(II)I"⟩, 32) := ⟨⟨by decide +kernel, by decide +kernel⟩, List.mem_of_getElem? (i := 751) (by decide +kernel), List.mem_of_getElem? (i := 958) (by decide +kernel), List.mem_of_getElem? (i := 959) (by decide +kernel)⟩
theorem lw_p37 : lw_okq (⟨"ClockZonesModel", "holds", "(I)Z"⟩, 32) := ⟨⟨by decide +kernel, by decide +kernel⟩, List.mem_of_getElem? (i := 751) (by decide +kernel), List.mem_of_getElem? (i := 977) (by decide +kernel), List.mem_of_getElem? (i := 978) (by decide +kernel)⟩
theorem lw_p38 : lw_okq (⟨"ClockZonesModel", "layOut", "(I)I"⟩, 32) := ⟨⟨by decide +kernel, by decide +kernel⟩, List.mem_of_getElem? (i := 751) (by decide +kernel), List.mem_of_getElem? (i := 985) (by decide +kernel), List.mem_of_getElem? (i := 986) (by decide +kernel)⟩
theorem lw_p39 : lw_okq (⟨"ClockZonesModel", "timeAll", "(I)V"⟩, 32) := ⟨⟨by decide +kernel, by decide +kernel⟩, List.mem_of_getElem? (i := 751) (by decide +kernel), List.mem_of_getElem? (i := 993) (by decide +kernel), List.mem_of_getElem? (i := 994) (by decide +kernel)⟩
theorem lw_p40 : lw_okq (⟨"ClockZonesModel", "behind", "(III)V"⟩, 32) := ⟨⟨by decide +kernel, by decide +kernel⟩, List.mem_of_getElem? (i := 751) (by decide +kernel), List.mem_of_getElem? (i := 997) (by decide +kernel), List.mem_of_getElem? (i := 998) (by decide +kernel)⟩
theorem lw_p41 : lw_okq (⟨"ClockZonesModel", "askGuards", "(II)V"⟩, 32) := ⟨⟨by decide +kernel, by decide +kernel⟩, List.mem_of_getElem? (i := 751) (by decide +kernel), List.mem_of_getElem? (i := 1001) (by decide +kernel), List.mem_of_getElem? (i := 1002) (by decide +kernel)⟩
theorem lw_p42 : lw_okq (⟨"ClockZonesModel", "setAt", "(II)I"⟩, 32) := ⟨⟨by decide +kernel, by decide +kernel⟩, List.mem_of_getElem? (i := 751) (by decide +kernel), List.mem_of_getElem? (i := 1005) (by decide +kernel), List.mem_of_getElem? (i := 1006) (by decide +kernel)⟩
theorem lw_p43 : lw_okq (⟨"ClockZonesModel", "ask", "(IIII)V"⟩, 32) := ⟨⟨by decide +kernel, by decide +kernel⟩, List.mem_of_getElem? (i := 751) (by decide +kernel), List.mem_of_getElem? (i := 1009) (by decide +kernel), List.mem_of_getElem? (i := 1010) (by decide +kernel)⟩
theorem lw_p44 : lw_okq (⟨"ClockZonesModel", "askLimits", "(III)V"⟩, 32) := ⟨⟨by decide +kernel, by decide +kernel⟩, List.mem_of_getElem? (i := 751) (by decide +kernel), List.mem_of_getElem? (i := 1013) (by decide +kernel), List.mem_of_getElem? (i := 1014) (by decide +kernel)⟩
theorem lw_p45 : lw_okq (⟨"ClockZonesModel", "areKept", "()Z"⟩, 32) := ⟨⟨by decide +kernel, by decide +kernel⟩, List.mem_of_getElem? (i := 751) (by decide +kernel), List.mem_of_getElem? (i := 1025) (by decide +kernel), List.mem_of_getElem? (i := 1026) (by decide +kernel)⟩
theorem lw_p46 : lw_okq (⟨"ClockZonesModel", "become", "()V"⟩, 32) := ⟨⟨by decide +kernel, by decide +kernel⟩, List.mem_of_getElem? (i := 751) (by decide +kernel), List.mem_of_getElem? (i := 1032) (by decide +kernel), List.mem_of_getElem? (i := 1033) (by decide +kernel)⟩
theorem lw_p47 : lw_okq (⟨"ClockZonesModel", "look", "()V"⟩, 32) := ⟨⟨by decide +kernel, by decide +kernel⟩, List.mem_of_getElem? (i := 751) (by decide +kernel), List.mem_of_getElem? (i := 1041) (by decide +kernel), List.mem_of_getElem? (i := 1042) (by decide +kernel)⟩
def lw_privs_3 : List (MethodName × Nat) := [(⟨"ClockZonesModel", "keepGuards", "(I)Z"⟩, 32), (⟨"ClockZonesModel", "set", "(I)V"⟩, 32), (⟨"ClockZonesModel", "isMet", "()Z"⟩, 32), (⟨"ClockZonesModel", "isState", "(I)Z"⟩, 32), (⟨"ClockZonesModel", "tells", "(II)I"⟩, 32), (⟨"ClockZonesModel", "holds", "(I)Z"⟩, 32), (⟨"ClockZonesModel", "layOut", "(I)I"⟩, 32), (⟨"ClockZonesModel", "timeAll", "(I)V"⟩, 32), (⟨"ClockZonesModel", "behind", "(III)V"⟩, 32), (⟨"ClockZonesModel", "askGuards", "(II)V"⟩, 32), (⟨"ClockZonesModel", "setAt", "(II)I"⟩, 32), (⟨"ClockZonesModel", "ask", "(IIII)V"⟩, 32), (⟨"ClockZonesModel", "askLimits", "(III)V"⟩, 32), (⟨"ClockZonesModel", "areKept", "()Z"⟩, 32), (⟨"ClockZonesModel", "become", "()V"⟩, 32), (⟨"ClockZonesModel", "look", "()V"⟩, 32)]
theorem lw_r3 : ∀ q ∈ lw_privs_3, lw_okq q := List.forall_mem_cons.mpr ⟨lw_p32, List.forall_mem_cons.mpr ⟨lw_p33, List.forall_mem_cons.mpr ⟨lw_p34, List.forall_mem_cons.mpr ⟨lw_p35, List.forall_mem_cons.mpr ⟨lw_p36, List.forall_mem_cons.mpr ⟨lw_p37, List.forall_mem_cons.mpr ⟨lw_p38, List.forall_mem_cons.mpr ⟨lw_p39, List.forall_mem_cons.mpr ⟨lw_p40, List.forall_mem_cons.mpr ⟨lw_p41, List.forall_mem_cons.mpr ⟨lw_p42, List.forall_mem_cons.mpr ⟨lw_p43, List.forall_mem_cons.mpr ⟨lw_p44, List.forall_mem_cons.mpr ⟨lw_p45, List.forall_mem_cons.mpr ⟨lw_p46, List.forall_mem_cons.mpr ⟨lw_p47, fun _ h => absurd h List.not_mem_nil⟩⟩⟩⟩⟩⟩⟩⟩⟩⟩⟩⟩⟩⟩⟩⟩
theorem lw_p48 : lw_okq (⟨"ClockZonesModel", "isOpen", "(I)Z"⟩, 32) := ⟨⟨by decide +kernel, by decide +kernel⟩, List.mem_of_getElem? (i := 751) (by decide +kernel), List.mem_of_getElem? (i := 1049) (by decide +kernel), List.mem_of_getElem? (i := 1050) (by decide +kernel)⟩
theorem lw_p49 : lw_okq (⟨"ClockZonesModel", "go", "(I)V"⟩, 32) := ⟨⟨by decide +kernel, by decide +kernel⟩, List.mem_of_getElem? (i := 751) (by decide +kernel), List.mem_of_getElem? (i := 1053) (by decide +kernel), List.mem_of_getElem? (i := 1054) (by decide +kernel)⟩
theorem lw_p50 : lw_okq (⟨"ClockZonesModel", "moveCount", "()I"⟩, 32) := ⟨⟨by decide +kernel, by decide +kernel⟩, List.mem_of_getElem? (i := 751) (by decide +kernel), List.mem_of_getElem? (i := 1073) (by decide +kernel), List.mem_of_getElem? (i := 1074) (by decide +kernel)⟩
theorem lw_p51 : lw_okq (⟨"ClockZonesModel", "mix", "(J)V"⟩, 32) := ⟨⟨by decide +kernel, by decide +kernel⟩, List.mem_of_getElem? (i := 751) (by decide +kernel), List.mem_of_getElem? (i := 1083) (by decide +kernel), List.mem_of_getElem? (i := 1084) (by decide +kernel)⟩
def lw_privs_4 : List (MethodName × Nat) := [(⟨"ClockZonesModel", "isOpen", "(I)Z"⟩, 32), (⟨"ClockZonesModel", "go", "(I)V"⟩, 32), (⟨"ClockZonesModel", "moveCount", "()I"⟩, 32), (⟨"ClockZonesModel", "mix", "(J)V"⟩, 32)]
theorem lw_r4 : ∀ q ∈ lw_privs_4, lw_okq q := List.forall_mem_cons.mpr ⟨lw_p48, List.forall_mem_cons.mpr ⟨lw_p49, List.forall_mem_cons.mpr ⟨lw_p50, List.forall_mem_cons.mpr ⟨lw_p51, fun _ h => absurd h List.not_mem_nil⟩⟩⟩⟩
def lw_privs : List (MethodName × Nat) := lw_privs_1 ++ (lw_privs_2 ++ (lw_privs_3 ++ (lw_privs_4)))
def lw_tbl : List Cond := k2_sels lw_privs ++ tables_1
theorem lw_privs_ok : ∀ q ∈ lw_privs, lw_okq q := by
  show ∀ q ∈ lw_privs_1 ++ (lw_privs_2 ++ (lw_privs_3 ++ (lw_privs_4))), lw_okq q
  exact List.forall_mem_append.mpr ⟨lw_r1, List.forall_mem_append.mpr ⟨lw_r2, List.forall_mem_append.mpr ⟨lw_r3, lw_r4⟩⟩⟩
def RX0 : String := "ClockZones$Edge"
def TX0 : u_T := fun k => match k with
  | 0 => ("ClockZones$Edge", "machine", "I", true)
  | 1 => ("ClockZones$Edge", "from", "I", true)
  | 2 => ("ClockZones$Edge", "to", "I", true)
  | 3 => ("ClockZones$Edge", "channel", "I", true)
  | 4 => ("ClockZones$Edge", "resets", "I", true)
  | _ => ("ClockZones$Edge", "guards", "LClockZones$TestList;", true)
def tyX0 : Nat → FieldType := fun k => match k with
  | 0 => .int
  | 1 => .int
  | 2 => .int
  | 3 => .int
  | 4 => .int
  | _ => .object "ClockZones$TestList"
abbrev wsX00 : List Cond := u_ws RX0 TX0 6
theorem nmX0 : ∀ a, a < 6 → ∀ b, b < 6 → a ≠ b → (TX0 a).2.1 ≠ (TX0 b).2.1 := by decide +kernel
theorem tyX0_ok : ∀ k, k < 6 → parseFieldDescriptor (TX0 k).2.2.1 = some (tyX0 k) := by decide +kernel
abbrev cX0_init : ByteArray := prog_2_method_1_code
def yX0_init : MethodName := ⟨RX0, "<init>", "(IIIII)V"⟩
abbrev cX0_isAnsweredBy : ByteArray := prog_2_method_2_code
def yX0_isAnsweredBy : MethodName := ⟨RX0, "isAnsweredBy", "(LClockZones$Edge;)Z"⟩
def RX1 : String := "ClockZones$Move"
def TX1 : u_T := fun k => match k with
  | 0 => ("ClockZones$Move", "first", "I", true)
  | 1 => ("ClockZones$Move", "second", "I", true)
  | 2 => ("ClockZones$Move", "call", "LClockZones$Edge;", true)
  | 3 => ("ClockZones$Move", "answer", "LClockZones$Edge;", true)
  | _ => ("ClockZones$Move", "resets", "I", true)
def tyX1 : Nat → FieldType := fun k => match k with
  | 0 => .int
  | 1 => .int
  | 2 => .object "ClockZones$Edge"
  | 3 => .object "ClockZones$Edge"
  | _ => .int
abbrev wsX10 : List Cond := u_ws RX1 TX1 5
theorem nmX1 : ∀ a, a < 5 → ∀ b, b < 5 → a ≠ b → (TX1 a).2.1 ≠ (TX1 b).2.1 := by decide +kernel
theorem tyX1_ok : ∀ k, k < 5 → parseFieldDescriptor (TX1 k).2.2.1 = some (tyX1 k) := by decide +kernel
abbrev cX1_init : ByteArray := prog_3_method_1_code
def yX1_init : MethodName := ⟨RX1, "<init>", "(IILClockZones$Edge;LClockZones$Edge;)V"⟩
abbrev cX1_comesAfter : ByteArray := prog_3_method_2_code
def yX1_comesAfter : MethodName := ⟨RX1, "comesAfter", "(LClockZones$Move;)Z"⟩
abbrev cX1_startsAt : ByteArray := prog_3_method_3_code
def yX1_startsAt : MethodName := ⟨RX1, "startsAt", "([I)Z"⟩
abbrev cX1_carry : ByteArray := prog_3_method_4_code
def yX1_carry : MethodName := ⟨RX1, "carry", "([I)V"⟩
abbrev cX1_sets : ByteArray := prog_3_method_5_code
def yX1_sets : MethodName := ⟨RX1, "sets", "(I)Z"⟩
abbrev cX1_guardsAllow : ByteArray := prog_3_method_6_code
def yX1_guardsAllow : MethodName := ⟨RX1, "guardsAllow", "([I)Z"⟩
abbrev cX1_guardsNarrow : ByteArray := prog_3_method_7_code
def yX1_guardsNarrow : MethodName := ⟨RX1, "guardsNarrow", "(LClockZones$Zone;)Z"⟩
def RX2 : String := "ClockZones$Net"
def TX2 : u_T := fun k => match k with
  | 0 => ("ClockZones$Net", "edges", "[LClockZones$Edge;", true)
  | 1 => ("ClockZones$Net", "edgeCount", "I", false)
  | 2 => ("ClockZones$Net", "moves", "[LClockZones$Move;", true)
  | 3 => ("ClockZones$Net", "moveCount", "I", false)
  | _ => ("ClockZones$Net", "limits", "[LClockZones$TestList;", true)
def tyX2 : Nat → FieldType := fun k => match k with
  | 0 => .array (.object "ClockZones$Edge")
  | 1 => .int
  | 2 => .array (.object "ClockZones$Move")
  | 3 => .int
  | _ => .array (.object "ClockZones$TestList")
abbrev wsX20 : List Cond := u_ws RX2 TX2 5
theorem nmX2 : ∀ a, a < 5 → ∀ b, b < 5 → a ≠ b → (TX2 a).2.1 ≠ (TX2 b).2.1 := by decide +kernel
theorem tyX2_ok : ∀ k, k < 5 → parseFieldDescriptor (TX2 k).2.2.1 = some (tyX2 k) := by decide +kernel
abbrev cX2_init : ByteArray := prog_4_method_1_code
def yX2_init : MethodName := ⟨RX2, "<init>", "()V"⟩
abbrev cX2_isEdge : ByteArray := prog_4_method_2_code
def yX2_isEdge : MethodName := ⟨RX2, "isEdge", "(I)Z"⟩
abbrev cX2_limitsOf : ByteArray := prog_4_method_3_code
def yX2_limitsOf : MethodName := ⟨RX2, "limitsOf", "(II)LClockZones$TestList;"⟩
abbrev cX2_addEdge : ByteArray := prog_4_method_4_code
def yX2_addEdge : MethodName := ⟨RX2, "addEdge", "(LClockZones$Edge;)I"⟩
abbrev cX2_insert : ByteArray := prog_4_method_5_code
def yX2_insert : MethodName := ⟨RX2, "insert", "(LClockZones$Move;)V"⟩
abbrev cX2_find : ByteArray := prog_4_method_6_code
def yX2_find : MethodName := ⟨RX2, "find", "(II)LClockZones$Move;"⟩
abbrev cX2_clear : ByteArray := prog_4_method_7_code
def yX2_clear : MethodName := ⟨RX2, "clear", "()V"⟩
abbrev cX2_limitsAllow : ByteArray := prog_4_method_8_code
def yX2_limitsAllow : MethodName := ⟨RX2, "limitsAllow", "([I[I)Z"⟩
abbrev cX2_limitsNarrow : ByteArray := prog_4_method_9_code
def yX2_limitsNarrow : MethodName := ⟨RX2, "limitsNarrow", "([ILClockZones$Zone;)Z"⟩
abbrev cX2_greatestOf : ByteArray := prog_4_method_10_code
def yX2_greatestOf : MethodName := ⟨RX2, "greatestOf", "(I)I"⟩
abbrev cX2_guardCount : ByteArray := prog_4_method_11_code
def yX2_guardCount : MethodName := ⟨RX2, "guardCount", "()I"⟩
abbrev cX2_limitCount : ByteArray := prog_4_method_12_code
def yX2_limitCount : MethodName := ⟨RX2, "limitCount", "()I"⟩
def RX3 : String := "ClockZones$Search"
def TX3 : u_T := fun k => match k with
  | 0 => ("ClockZones$Search", "states", "LClockZones$States;", true)
  | 1 => ("ClockZones$Search", "isNeeded", "Z", false)
  | 2 => ("ClockZones$Search", "timesDone", "I", false)
  | 3 => ("ClockZones$Search", "facts", "[I", true)
  | 4 => ("ClockZones$Search", "zone", "LClockZones$Zone;", true)
  | _ => ("ClockZones$Search", "most", "[I", true)
def tyX3 : Nat → FieldType := fun k => match k with
  | 0 => .object "ClockZones$States"
  | 1 => .boolean
  | 2 => .int
  | 3 => .array .int
  | 4 => .object "ClockZones$Zone"
  | _ => .array .int
abbrev wsX30 : List Cond := u_ws RX3 TX3 6
theorem nmX3 : ∀ a, a < 6 → ∀ b, b < 6 → a ≠ b → (TX3 a).2.1 ≠ (TX3 b).2.1 := by decide +kernel
theorem tyX3_ok : ∀ k, k < 6 → parseFieldDescriptor (TX3 k).2.2.1 = some (tyX3 k) := by decide +kernel
abbrev cX3_init : ByteArray := prog_5_method_1_code
def yX3_init : MethodName := ⟨RX3, "<init>", "()V"⟩
abbrev cX3_meetAll : ByteArray := prog_5_method_2_code
def yX3_meetAll : MethodName := ⟨RX3, "meetAll", "(LClockZones$Net;I)I"⟩
abbrev cX3_prepare : ByteArray := prog_5_method_3_code
def yX3_prepare : MethodName := ⟨RX3, "prepare", "(LClockZones$Net;)V"⟩
abbrev cX3_standAtStart : ByteArray := prog_5_method_4_code
def yX3_standAtStart : MethodName := ⟨RX3, "standAtStart", "()V"⟩
abbrev cX3_goesBy : ByteArray := prog_5_method_5_code
def yX3_goesBy : MethodName := ⟨RX3, "goesBy", "(ILClockZones$Move;)Z"⟩
abbrev cX3_settles : ByteArray := prog_5_method_6_code
def yX3_settles : MethodName := ⟨RX3, "settles", "(LClockZones$Net;)Z"⟩
def RX4 : String := "ClockZones$States"
def TX4 : u_T := fun k => match k with
  | 0 => ("ClockZones$States", "size", "I", false)
  | 1 => ("ClockZones$States", "facts", "[I", true)
  | _ => ("ClockZones$States", "bounds", "[I", true)
def tyX4 : Nat → FieldType := fun k => match k with
  | 0 => .int
  | 1 => .array .int
  | _ => .array .int
abbrev wsX40 : List Cond := u_ws RX4 TX4 3
theorem nmX4 : ∀ a, a < 3 → ∀ b, b < 3 → a ≠ b → (TX4 a).2.1 ≠ (TX4 b).2.1 := by decide +kernel
theorem tyX4_ok : ∀ k, k < 3 → parseFieldDescriptor (TX4 k).2.2.1 = some (tyX4 k) := by decide +kernel
abbrev cX4_init : ByteArray := prog_6_method_1_code
def yX4_init : MethodName := ⟨RX4, "<init>", "()V"⟩
abbrev cX4_isMet : ByteArray := prog_6_method_2_code
def yX4_isMet : MethodName := ⟨RX4, "isMet", "(I)Z"⟩
abbrev cX4_isStep : ByteArray := prog_6_method_3_code
def yX4_isStep : MethodName := ⟨RX4, "isStep", "(II)Z"⟩
abbrev cX4_fact : ByteArray := prog_6_method_4_code
def yX4_fact : MethodName := ⟨RX4, "fact", "(II)I"⟩
abbrev cX4_boundOf : ByteArray := prog_6_method_5_code
def yX4_boundOf : MethodName := ⟨RX4, "boundOf", "(III)I"⟩
abbrev cX4_add : ByteArray := prog_6_method_6_code
def yX4_add : MethodName := ⟨RX4, "add", "([ILClockZones$Zone;)V"⟩
abbrev cX4_copyFacts : ByteArray := prog_6_method_7_code
def yX4_copyFacts : MethodName := ⟨RX4, "copyFacts", "(I[I)V"⟩
abbrev cX4_copyZone : ByteArray := prog_6_method_8_code
def yX4_copyZone : MethodName := ⟨RX4, "copyZone", "(ILClockZones$Zone;)V"⟩
abbrev cX4_onWay : ByteArray := prog_6_method_9_code
def yX4_onWay : MethodName := ⟨RX4, "onWay", "(II)I"⟩
abbrev cX4_isAt : ByteArray := prog_6_method_10_code
def yX4_isAt : MethodName := ⟨RX4, "isAt", "(I[I)Z"⟩
abbrev cX4_firstAt : ByteArray := prog_6_method_11_code
def yX4_firstAt : MethodName := ⟨RX4, "firstAt", "([I)I"⟩
abbrev cX4_firstHolding : ByteArray := prog_6_method_12_code
def yX4_firstHolding : MethodName := ⟨RX4, "firstHolding", "([I[I)I"⟩
abbrev cX4_cover : ByteArray := prog_6_method_13_code
def yX4_cover : MethodName := ⟨RX4, "cover", "([ILClockZones$Zone;)Z"⟩
abbrev cX4_takesIn : ByteArray := prog_6_method_14_code
def yX4_takesIn : MethodName := ⟨RX4, "takesIn", "(ILClockZones$Zone;)Z"⟩
abbrev cX4_holds : ByteArray := prog_6_method_15_code
def yX4_holds : MethodName := ⟨RX4, "holds", "(I[I)Z"⟩
def RX5 : String := "ClockZones$Test"
def TX5 : u_T := fun k => match k with
  | 0 => ("ClockZones$Test", "clock", "I", true)
  | 1 => ("ClockZones$Test", "sort", "I", true)
  | _ => ("ClockZones$Test", "number", "I", true)
def tyX5 : Nat → FieldType := fun k => match k with
  | 0 => .int
  | 1 => .int
  | _ => .int
abbrev wsX50 : List Cond := u_ws RX5 TX5 3
theorem nmX5 : ∀ a, a < 3 → ∀ b, b < 3 → a ≠ b → (TX5 a).2.1 ≠ (TX5 b).2.1 := by decide +kernel
theorem tyX5_ok : ∀ k, k < 3 → parseFieldDescriptor (TX5 k).2.2.1 = some (tyX5 k) := by decide +kernel
abbrev cX5_init : ByteArray := prog_7_method_1_code
def yX5_init : MethodName := ⟨RX5, "<init>", "(III)V"⟩
abbrev cX5_isCeiling : ByteArray := prog_7_method_2_code
def yX5_isCeiling : MethodName := ⟨RX5, "isCeiling", "()Z"⟩
abbrev cX5_isFloor : ByteArray := prog_7_method_3_code
def yX5_isFloor : MethodName := ⟨RX5, "isFloor", "()Z"⟩
abbrev cX5_ceiling : ByteArray := prog_7_method_4_code
def yX5_ceiling : MethodName := ⟨RX5, "ceiling", "()I"⟩
abbrev cX5_floor : ByteArray := prog_7_method_5_code
def yX5_floor : MethodName := ⟨RX5, "floor", "()I"⟩
abbrev cX5_mostParts : ByteArray := prog_7_method_6_code
def yX5_mostParts : MethodName := ⟨RX5, "mostParts", "()I"⟩
abbrev cX5_leastParts : ByteArray := prog_7_method_7_code
def yX5_leastParts : MethodName := ⟨RX5, "leastParts", "()I"⟩
abbrev cX5_allows : ByteArray := prog_7_method_8_code
def yX5_allows : MethodName := ⟨RX5, "allows", "(I)Z"⟩
def RX6 : String := "ClockZones$TestList"
def TX6 : u_T := fun k => match k with
  | 0 => ("ClockZones$TestList", "tests", "[LClockZones$Test;", true)
  | _ => ("ClockZones$TestList", "size", "I", false)
def tyX6 : Nat → FieldType := fun k => match k with
  | 0 => .array (.object "ClockZones$Test")
  | _ => .int
abbrev wsX60 : List Cond := u_ws RX6 TX6 2
theorem nmX6 : ∀ a, a < 2 → ∀ b, b < 2 → a ≠ b → (TX6 a).2.1 ≠ (TX6 b).2.1 := by decide +kernel
theorem tyX6_ok : ∀ k, k < 2 → parseFieldDescriptor (TX6 k).2.2.1 = some (tyX6 k) := by decide +kernel
abbrev cX6_init : ByteArray := prog_8_method_1_code
def yX6_init : MethodName := ⟨RX6, "<init>", "()V"⟩
abbrev cX6_add : ByteArray := prog_8_method_2_code
def yX6_add : MethodName := ⟨RX6, "add", "(LClockZones$Test;)V"⟩
abbrev cX6_allow : ByteArray := prog_8_method_3_code
def yX6_allow : MethodName := ⟨RX6, "allow", "([I)Z"⟩
abbrev cX6_narrow : ByteArray := prog_8_method_4_code
def yX6_narrow : MethodName := ⟨RX6, "narrow", "(LClockZones$Zone;)Z"⟩
abbrev cX6_greatestNumber : ByteArray := prog_8_method_5_code
def yX6_greatestNumber : MethodName := ⟨RX6, "greatestNumber", "(I)I"⟩
def RX7 : String := "ClockZones$Timetable"
def TX7 : u_T := fun k => match k with
  | 0 => ("ClockZones$Timetable", "earliest", "[I", true)
  | 1 => ("ClockZones$Timetable", "visited", "[I", true)
  | 2 => ("ClockZones$Timetable", "lastSet", "[I", true)
  | 3 => ("ClockZones$Timetable", "gapFrom", "[I", true)
  | 4 => ("ClockZones$Timetable", "gapTo", "[I", true)
  | 5 => ("ClockZones$Timetable", "gapLeast", "[I", true)
  | _ => ("ClockZones$Timetable", "gapCount", "I", false)
def tyX7 : Nat → FieldType := fun k => match k with
  | 0 => .array .int
  | 1 => .array .int
  | 2 => .array .int
  | 3 => .array .int
  | 4 => .array .int
  | 5 => .array .int
  | _ => .int
abbrev wsX70 : List Cond := u_ws RX7 TX7 7
theorem nmX7 : ∀ a, a < 7 → ∀ b, b < 7 → a ≠ b → (TX7 a).2.1 ≠ (TX7 b).2.1 := by decide +kernel
theorem tyX7_ok : ∀ k, k < 7 → parseFieldDescriptor (TX7 k).2.2.1 = some (tyX7 k) := by decide +kernel
abbrev cX7_init : ByteArray := prog_9_method_1_code
def yX7_init : MethodName := ⟨RX7, "<init>", "()V"⟩
abbrev cX7_fill : ByteArray := prog_9_method_2_code
def yX7_fill : MethodName := ⟨RX7, "fill", "(LClockZones$Net;LClockZones$States;I)V"⟩
abbrev cX7_visit : ByteArray := prog_9_method_3_code
def yX7_visit : MethodName := ⟨RX7, "visit", "(LClockZones$States;II)V"⟩
abbrev cX7_addStep : ByteArray := prog_9_method_4_code
def yX7_addStep : MethodName := ⟨RX7, "addStep", "(LClockZones$Move;I)V"⟩
abbrev cX7_addLimits : ByteArray := prog_9_method_5_code
def yX7_addLimits : MethodName := ⟨RX7, "addLimits", "(LClockZones$Net;LClockZones$States;II)V"⟩
abbrev cX7_addTests : ByteArray := prog_9_method_6_code
def yX7_addTests : MethodName := ⟨RX7, "addTests", "(LClockZones$TestList;I)V"⟩
abbrev cX7_addGap : ByteArray := prog_9_method_7_code
def yX7_addGap : MethodName := ⟨RX7, "addGap", "(III)V"⟩
abbrev cX7_settle : ByteArray := prog_9_method_8_code
def yX7_settle : MethodName := ⟨RX7, "settle", "()V"⟩
def RX8 : String := "ClockZones$Walk"
def TX8 : u_T := fun k => match k with
  | 0 => ("ClockZones$Walk", "isGoing", "Z", false)
  | 1 => ("ClockZones$Walk", "places", "[I", true)
  | 2 => ("ClockZones$Walk", "amounts", "[I", true)
  | 3 => ("ClockZones$Walk", "allTime", "I", false)
  | 4 => ("ClockZones$Walk", "stepCount", "I", false)
  | 5 => ("ClockZones$Walk", "nextPlaces", "[I", true)
  | _ => ("ClockZones$Walk", "nextAmounts", "[I", true)
def tyX8 : Nat → FieldType := fun k => match k with
  | 0 => .boolean
  | 1 => .array .int
  | 2 => .array .int
  | 3 => .int
  | 4 => .int
  | 5 => .array .int
  | _ => .array .int
abbrev wsX80 : List Cond := u_ws RX8 TX8 7
theorem nmX8 : ∀ a, a < 7 → ∀ b, b < 7 → a ≠ b → (TX8 a).2.1 ≠ (TX8 b).2.1 := by decide +kernel
theorem tyX8_ok : ∀ k, k < 7 → parseFieldDescriptor (TX8 k).2.2.1 = some (tyX8 k) := by decide +kernel
abbrev cX8_init : ByteArray := prog_10_method_1_code
def yX8_init : MethodName := ⟨RX8, "<init>", "()V"⟩
abbrev cX8_start : ByteArray := prog_10_method_2_code
def yX8_start : MethodName := ⟨RX8, "start", "(LClockZones$Net;)Z"⟩
abbrev cX8_greatestAmount : ByteArray := prog_10_method_3_code
def yX8_greatestAmount : MethodName := ⟨RX8, "greatestAmount", "()I"⟩
abbrev cX8_linger : ByteArray := prog_10_method_4_code
def yX8_linger : MethodName := ⟨RX8, "linger", "(LClockZones$Net;I)Z"⟩
abbrev cX8_take : ByteArray := prog_10_method_5_code
def yX8_take : MethodName := ⟨RX8, "take", "(LClockZones$Net;LClockZones$Move;)Z"⟩
def RX9 : String := "ClockZones$Zone"
def TX9 : u_T := fun k => match k with
  | _ => ("ClockZones$Zone", "bounds", "[I", true)
def tyX9 : Nat → FieldType := fun k => match k with
  | _ => .array .int
abbrev wsX90 : List Cond := u_ws RX9 TX9 1
theorem nmX9 : ∀ a, a < 1 → ∀ b, b < 1 → a ≠ b → (TX9 a).2.1 ≠ (TX9 b).2.1 := by decide +kernel
theorem tyX9_ok : ∀ k, k < 1 → parseFieldDescriptor (TX9 k).2.2.1 = some (tyX9 k) := by decide +kernel
abbrev cX9_init : ByteArray := prog_11_method_1_code
def yX9_init : MethodName := ⟨RX9, "<init>", "()V"⟩
abbrev cX9_sum : ByteArray := prog_11_method_2_code
def yX9_sum : MethodName := ⟨RX9, "sum", "(II)I"⟩
abbrev cX9_putAllClocksAtZero : ByteArray := prog_11_method_3_code
def yX9_putAllClocksAtZero : MethodName := ⟨RX9, "putAllClocksAtZero", "()V"⟩
abbrev cX9_narrow : ByteArray := prog_11_method_4_code
def yX9_narrow : MethodName := ⟨RX9, "narrow", "(III)Z"⟩
abbrev cX9_setToZero : ByteArray := prog_11_method_5_code
def yX9_setToZero : MethodName := ⟨RX9, "setToZero", "(I)V"⟩
abbrev cX9_letTimeGoBy : ByteArray := prog_11_method_6_code
def yX9_letTimeGoBy : MethodName := ⟨RX9, "letTimeGoBy", "()V"⟩
abbrev cX9_widen : ByteArray := prog_11_method_7_code
def yX9_widen : MethodName := ⟨RX9, "widen", "([I)V"⟩
abbrev cX9_close : ByteArray := prog_11_method_8_code
def yX9_close : MethodName := ⟨RX9, "close", "()V"⟩
def RX10 : String := "ClockZones"
def TX10 : u_T := fun k => match k with
  | 0 => ("ClockZones", "net", "LClockZones$Net;", true)
  | 1 => ("ClockZones", "search", "LClockZones$Search;", true)
  | 2 => ("ClockZones", "walk", "LClockZones$Walk;", true)
  | 3 => ("ClockZones", "timetable", "LClockZones$Timetable;", true)
  | 4 => ("ClockZones", "askedPlaces", "[I", true)
  | _ => ("ClockZones", "askedAmounts", "[I", true)
def tyX10 : Nat → FieldType := fun k => match k with
  | 0 => .object "ClockZones$Net"
  | 1 => .object "ClockZones$Search"
  | 2 => .object "ClockZones$Walk"
  | 3 => .object "ClockZones$Timetable"
  | 4 => .array .int
  | _ => .array .int
abbrev wsX100 : List Cond := u_ws RX10 TX10 6
theorem nmX10 : ∀ a, a < 6 → ∀ b, b < 6 → a ≠ b → (TX10 a).2.1 ≠ (TX10 b).2.1 := by decide +kernel
theorem tyX10_ok : ∀ k, k < 6 → parseFieldDescriptor (TX10 k).2.2.1 = some (tyX10 k) := by decide +kernel
abbrev cX10_init : ByteArray := prog_1_method_1_code
def yX10_init : MethodName := ⟨RX10, "<init>", "()V"⟩
abbrev cX10_edge : ByteArray := prog_1_method_2_code
def yX10_edge : MethodName := ⟨RX10, "edge", "(IIIII)I"⟩
abbrev cX10_guard : ByteArray := prog_1_method_3_code
def yX10_guard : MethodName := ⟨RX10, "guard", "(IIII)I"⟩
abbrev cX10_limit : ByteArray := prog_1_method_4_code
def yX10_limit : MethodName := ⟨RX10, "limit", "(IIIII)I"⟩
abbrev cX10_wipe : ByteArray := prog_1_method_5_code
def yX10_wipe : MethodName := ⟨RX10, "wipe", "()I"⟩
abbrev cX10_explore : ByteArray := prog_1_method_6_code
def yX10_explore : MethodName := ⟨RX10, "explore", "(I)I"⟩
abbrev cX10_state : ByteArray := prog_1_method_7_code
def yX10_state : MethodName := ⟨RX10, "state", "(II)I"⟩
abbrev cX10_bound : ByteArray := prog_1_method_8_code
def yX10_bound : MethodName := ⟨RX10, "bound", "(III)I"⟩
abbrev cX10_reach : ByteArray := prog_1_method_9_code
def yX10_reach : MethodName := ⟨RX10, "reach", "(III)I"⟩
abbrev cX10_has : ByteArray := prog_1_method_10_code
def yX10_has : MethodName := ⟨RX10, "has", "(IIII)I"⟩
abbrev cX10_way : ByteArray := prog_1_method_11_code
def yX10_way : MethodName := ⟨RX10, "way", "(III)I"⟩
abbrev cX10_moment : ByteArray := prog_1_method_12_code
def yX10_moment : MethodName := ⟨RX10, "moment", "(II)I"⟩
abbrev cX10_greatest : ByteArray := prog_1_method_13_code
def yX10_greatest : MethodName := ⟨RX10, "greatest", "(I)I"⟩
abbrev cX10_begin : ByteArray := prog_1_method_14_code
def yX10_begin : MethodName := ⟨RX10, "begin", "()I"⟩
abbrev cX10_pass : ByteArray := prog_1_method_15_code
def yX10_pass : MethodName := ⟨RX10, "pass", "(I)I"⟩
abbrev cX10_move : ByteArray := prog_1_method_16_code
def yX10_move : MethodName := ⟨RX10, "move", "(II)I"⟩
abbrev cX10_run : ByteArray := prog_1_method_17_code
def yX10_run : MethodName := ⟨RX10, "run", "(I)I"⟩
abbrev cX10_here : ByteArray := prog_1_method_18_code
def yX10_here : MethodName := ⟨RX10, "here", "()I"⟩
abbrev cX10_about : ByteArray := prog_1_method_19_code
def yX10_about : MethodName := ⟨RX10, "about", "(II)I"⟩
abbrev cX10_count : ByteArray := prog_1_method_20_code
def yX10_count : MethodName := ⟨RX10, "count", "(I)I"⟩
abbrev cX10_digest : ByteArray := prog_1_method_21_code
def yX10_digest : MethodName := ⟨RX10, "digest", "()J"⟩
abbrev cX10_isMachine : ByteArray := prog_1_method_22_code
def yX10_isMachine : MethodName := ⟨RX10, "isMachine", "(I)Z"⟩
abbrev cX10_isPlace : ByteArray := prog_1_method_23_code
def yX10_isPlace : MethodName := ⟨RX10, "isPlace", "(I)Z"⟩
abbrev cX10_isPlaceOrAny : ByteArray := prog_1_method_24_code
def yX10_isPlaceOrAny : MethodName := ⟨RX10, "isPlaceOrAny", "(I)Z"⟩
abbrev cX10_isClockOrZero : ByteArray := prog_1_method_25_code
def yX10_isClockOrZero : MethodName := ⟨RX10, "isClockOrZero", "(I)Z"⟩
abbrev cX10_isClock : ByteArray := prog_1_method_26_code
def yX10_isClock : MethodName := ⟨RX10, "isClock", "(I)Z"⟩
abbrev cX10_isNumber : ByteArray := prog_1_method_27_code
def yX10_isNumber : MethodName := ⟨RX10, "isNumber", "(I)Z"⟩
abbrev cX10_isAmount : ByteArray := prog_1_method_28_code
def yX10_isAmount : MethodName := ⟨RX10, "isAmount", "(I)Z"⟩
abbrev cX10_forgetFindings : ByteArray := prog_1_method_29_code
def yX10_forgetFindings : MethodName := ⟨RX10, "forgetFindings", "()V"⟩
abbrev cX10_addTest : ByteArray := prog_1_method_30_code
def yX10_addTest : MethodName := ⟨RX10, "addTest", "(LClockZones$TestList;III)I"⟩
abbrev cX10_mix : ByteArray := prog_1_method_31_code
def yX10_mix : MethodName := ⟨RX10, "mix", "(JJ)J"⟩
abbrev cX10_mixTests : ByteArray := prog_1_method_32_code
def yX10_mixTests : MethodName := ⟨RX10, "mixTests", "(JLClockZones$TestList;)J"⟩
abbrev cX10_mixEdges : ByteArray := prog_1_method_33_code
def yX10_mixEdges : MethodName := ⟨RX10, "mixEdges", "(J)J"⟩
abbrev cX10_mixLimits : ByteArray := prog_1_method_34_code
def yX10_mixLimits : MethodName := ⟨RX10, "mixLimits", "(J)J"⟩
abbrev cX10_mixStates : ByteArray := prog_1_method_35_code
def yX10_mixStates : MethodName := ⟨RX10, "mixStates", "(J)J"⟩
abbrev cX10_mixWalk : ByteArray := prog_1_method_36_code
def yX10_mixWalk : MethodName := ⟨RX10, "mixWalk", "(J)J"⟩
def RX11 : String := "ClockZonesModel"
def TX11 : u_T := fun k => match k with
  | 0 => ("ClockZonesModel", "edges", "I", false)
  | 1 => ("ClockZonesModel", "machine", "[I", true)
  | 2 => ("ClockZonesModel", "from", "[I", true)
  | 3 => ("ClockZonesModel", "to", "[I", true)
  | 4 => ("ClockZonesModel", "channel", "[I", true)
  | 5 => ("ClockZonesModel", "resets", "[I", true)
  | 6 => ("ClockZonesModel", "guards", "[I", true)
  | 7 => ("ClockZonesModel", "guardOf", "[I", true)
  | 8 => ("ClockZonesModel", "limits", "[I", true)
  | 9 => ("ClockZonesModel", "limitOf", "[I", true)
  | 10 => ("ClockZonesModel", "isNeeded", "Z", false)
  | 11 => ("ClockZonesModel", "explored", "I", false)
  | 12 => ("ClockZonesModel", "states", "I", false)
  | 13 => ("ClockZonesModel", "places", "[I", true)
  | 14 => ("ClockZonesModel", "zones", "[I", true)
  | 15 => ("ClockZonesModel", "parent", "[I", true)
  | 16 => ("ClockZonesModel", "moveE", "[I", true)
  | 17 => ("ClockZonesModel", "moveF", "[I", true)
  | 18 => ("ClockZonesModel", "moves", "[I", true)
  | 19 => ("ClockZonesModel", "z", "[I", true)
  | 20 => ("ClockZonesModel", "ahead", "[I", true)
  | 21 => ("ClockZonesModel", "at", "[I", true)
  | 22 => ("ClockZonesModel", "amounts", "[I", true)
  | 23 => ("ClockZonesModel", "way", "[I", true)
  | 24 => ("ClockZonesModel", "moments", "[I", true)
  | 25 => ("ClockZonesModel", "isMoved", "Z", false)
  | 26 => ("ClockZonesModel", "runs", "Z", false)
  | 27 => ("ClockZonesModel", "runAt", "[I", true)
  | 28 => ("ClockZonesModel", "runClock", "[I", true)
  | 29 => ("ClockZonesModel", "runTime", "I", false)
  | 30 => ("ClockZonesModel", "runMoves", "I", false)
  | _ => ("ClockZonesModel", "h", "J", false)
def tyX11 : Nat → FieldType := fun k => match k with
  | 0 => .int
  | 1 => .array .int
  | 2 => .array .int
  | 3 => .array .int
  | 4 => .array .int
  | 5 => .array .int
  | 6 => .array .int
  | 7 => .array .int
  | 8 => .array .int
  | 9 => .array .int
  | 10 => .boolean
  | 11 => .int
  | 12 => .int
  | 13 => .array .int
  | 14 => .array .int
  | 15 => .array .int
  | 16 => .array .int
  | 17 => .array .int
  | 18 => .array .int
  | 19 => .array .int
  | 20 => .array .int
  | 21 => .array .int
  | 22 => .array .int
  | 23 => .array .int
  | 24 => .array .int
  | 25 => .boolean
  | 26 => .boolean
  | 27 => .array .int
  | 28 => .array .int
  | 29 => .int
  | 30 => .int
  | _ => .long
abbrev wsX110 : List Cond := u_ws RX11 TX11 32
theorem nmX11 : ∀ a, a < 32 → ∀ b, b < 32 → a ≠ b → (TX11 a).2.1 ≠ (TX11 b).2.1 := by decide +kernel
theorem tyX11_ok : ∀ k, k < 32 → parseFieldDescriptor (TX11 k).2.2.1 = some (tyX11 k) := by decide +kernel
abbrev cX11_init : ByteArray := prog_13_method_1_code
def yX11_init : MethodName := ⟨RX11, "<init>", "()V"⟩
abbrev cX11_in : ByteArray := prog_13_method_3_code
def yX11_in : MethodName := ⟨RX11, "in", "(III)Z"⟩
abbrev cX11_isMachine : ByteArray := prog_13_method_4_code
def yX11_isMachine : MethodName := ⟨RX11, "isMachine", "(I)Z"⟩
abbrev cX11_isPlace : ByteArray := prog_13_method_5_code
def yX11_isPlace : MethodName := ⟨RX11, "isPlace", "(I)Z"⟩
abbrev cX11_isClock : ByteArray := prog_13_method_6_code
def yX11_isClock : MethodName := ⟨RX11, "isClock", "(I)Z"⟩
abbrev cX11_isEdge : ByteArray := prog_13_method_7_code
def yX11_isEdge : MethodName := ⟨RX11, "isEdge", "(I)Z"⟩
abbrev cX11_changed : ByteArray := prog_13_method_8_code
def yX11_changed : MethodName := ⟨RX11, "changed", "()V"⟩
abbrev cX11_edge : ByteArray := prog_13_method_9_code
def yX11_edge : MethodName := ⟨RX11, "edge", "(IIIII)I"⟩
abbrev cX11_guard : ByteArray := prog_13_method_10_code
def yX11_guard : MethodName := ⟨RX11, "guard", "(IIII)I"⟩
abbrev cX11_limit : ByteArray := prog_13_method_11_code
def yX11_limit : MethodName := ⟨RX11, "limit", "(IIIII)I"⟩
abbrev cX11_wipe : ByteArray := prog_13_method_12_code
def yX11_wipe : MethodName := ⟨RX11, "wipe", "()I"⟩
abbrev cX11_sum : ByteArray := prog_13_method_13_code
def yX11_sum : MethodName := ⟨RX11, "sum", "(II)I"⟩
abbrev cX11_close : ByteArray := prog_13_method_14_code
def yX11_close : MethodName := ⟨RX11, "close", "()Z"⟩
abbrev cX11_bind : ByteArray := prog_13_method_15_code
def yX11_bind : MethodName := ⟨RX11, "bind", "(III)V"⟩
abbrev cX11_test : ByteArray := prog_13_method_16_code
def yX11_test : MethodName := ⟨RX11, "test", "(III)V"⟩
abbrev cX11_keepLimits : ByteArray := prog_13_method_17_code
def yX11_keepLimits : MethodName := ⟨RX11, "keepLimits", "()Z"⟩
abbrev cX11_keepGuards : ByteArray := prog_13_method_18_code
def yX11_keepGuards : MethodName := ⟨RX11, "keepGuards", "(I)Z"⟩
abbrev cX11_set : ByteArray := prog_13_method_19_code
def yX11_set : MethodName := ⟨RX11, "set", "(I)V"⟩
abbrev cX11_greatestOf : ByteArray := prog_13_method_20_code
def yX11_greatestOf : MethodName := ⟨RX11, "greatestOf", "(I)I"⟩
abbrev cX11_widen : ByteArray := prog_13_method_21_code
def yX11_widen : MethodName := ⟨RX11, "widen", "()Z"⟩
abbrev cX11_later : ByteArray := prog_13_method_22_code
def yX11_later : MethodName := ⟨RX11, "later", "()Z"⟩
abbrev cX11_isMove : ByteArray := prog_13_method_23_code
def yX11_isMove : MethodName := ⟨RX11, "isMove", "(II)Z"⟩
abbrev cX11_isMet : ByteArray := prog_13_method_24_code
def yX11_isMet : MethodName := ⟨RX11, "isMet", "()Z"⟩
abbrev cX11_meet : ByteArray := prog_13_method_25_code
def yX11_meet : MethodName := ⟨RX11, "meet", "(III)V"⟩
abbrev cX11_follows : ByteArray := prog_13_method_26_code
def yX11_follows : MethodName := ⟨RX11, "follows", "(III)Z"⟩
abbrev cX11_explore : ByteArray := prog_13_method_27_code
def yX11_explore : MethodName := ⟨RX11, "explore", "(I)I"⟩
abbrev cX11_isState : ByteArray := prog_13_method_28_code
def yX11_isState : MethodName := ⟨RX11, "isState", "(I)Z"⟩
abbrev cX11_state : ByteArray := prog_13_method_29_code
def yX11_state : MethodName := ⟨RX11, "state", "(II)I"⟩
abbrev cX11_tells : ByteArray := prog_13_method_30_code
def yX11_tells : MethodName := ⟨RX11, "tells", "(II)I"⟩
abbrev cX11_bound : ByteArray := prog_13_method_31_code
def yX11_bound : MethodName := ⟨RX11, "bound", "(III)I"⟩
abbrev cX11_reach : ByteArray := prog_13_method_32_code
def yX11_reach : MethodName := ⟨RX11, "reach", "(III)I"⟩
abbrev cX11_holds : ByteArray := prog_13_method_33_code
def yX11_holds : MethodName := ⟨RX11, "holds", "(I)Z"⟩
abbrev cX11_has : ByteArray := prog_13_method_34_code
def yX11_has : MethodName := ⟨RX11, "has", "(IIII)I"⟩
abbrev cX11_layOut : ByteArray := prog_13_method_35_code
def yX11_layOut : MethodName := ⟨RX11, "layOut", "(I)I"⟩
abbrev cX11_way : ByteArray := prog_13_method_36_code
def yX11_way : MethodName := ⟨RX11, "way", "(III)I"⟩
abbrev cX11_behind : ByteArray := prog_13_method_37_code
def yX11_behind : MethodName := ⟨RX11, "behind", "(III)V"⟩
abbrev cX11_ask : ByteArray := prog_13_method_38_code
def yX11_ask : MethodName := ⟨RX11, "ask", "(IIII)V"⟩
abbrev cX11_setAt : ByteArray := prog_13_method_39_code
def yX11_setAt : MethodName := ⟨RX11, "setAt", "(II)I"⟩
abbrev cX11_askGuards : ByteArray := prog_13_method_40_code
def yX11_askGuards : MethodName := ⟨RX11, "askGuards", "(II)V"⟩
abbrev cX11_askLimits : ByteArray := prog_13_method_41_code
def yX11_askLimits : MethodName := ⟨RX11, "askLimits", "(III)V"⟩
abbrev cX11_timeAll : ByteArray := prog_13_method_42_code
def yX11_timeAll : MethodName := ⟨RX11, "timeAll", "(I)V"⟩
abbrev cX11_moment : ByteArray := prog_13_method_43_code
def yX11_moment : MethodName := ⟨RX11, "moment", "(II)I"⟩
abbrev cX11_greatest : ByteArray := prog_13_method_44_code
def yX11_greatest : MethodName := ⟨RX11, "greatest", "(I)I"⟩
abbrev cX11_passes : ByteArray := prog_13_method_45_code
def yX11_passes : MethodName := ⟨RX11, "passes", "(III)Z"⟩
abbrev cX11_areKept : ByteArray := prog_13_method_46_code
def yX11_areKept : MethodName := ⟨RX11, "areKept", "()Z"⟩
abbrev cX11_look : ByteArray := prog_13_method_47_code
def yX11_look : MethodName := ⟨RX11, "look", "()V"⟩
abbrev cX11_become : ByteArray := prog_13_method_48_code
def yX11_become : MethodName := ⟨RX11, "become", "()V"⟩
abbrev cX11_begin : ByteArray := prog_13_method_49_code
def yX11_begin : MethodName := ⟨RX11, "begin", "()I"⟩
abbrev cX11_pass : ByteArray := prog_13_method_50_code
def yX11_pass : MethodName := ⟨RX11, "pass", "(I)I"⟩
abbrev cX11_isOpen : ByteArray := prog_13_method_51_code
def yX11_isOpen : MethodName := ⟨RX11, "isOpen", "(I)Z"⟩
abbrev cX11_go : ByteArray := prog_13_method_52_code
def yX11_go : MethodName := ⟨RX11, "go", "(I)V"⟩
abbrev cX11_move : ByteArray := prog_13_method_53_code
def yX11_move : MethodName := ⟨RX11, "move", "(II)I"⟩
abbrev cX11_run : ByteArray := prog_13_method_54_code
def yX11_run : MethodName := ⟨RX11, "run", "(I)I"⟩
abbrev cX11_here : ByteArray := prog_13_method_55_code
def yX11_here : MethodName := ⟨RX11, "here", "()I"⟩
abbrev cX11_about : ByteArray := prog_13_method_56_code
def yX11_about : MethodName := ⟨RX11, "about", "(II)I"⟩
abbrev cX11_moveCount : ByteArray := prog_13_method_57_code
def yX11_moveCount : MethodName := ⟨RX11, "moveCount", "()I"⟩
abbrev cX11_count : ByteArray := prog_13_method_58_code
def yX11_count : MethodName := ⟨RX11, "count", "(I)I"⟩
abbrev cX11_mix : ByteArray := prog_13_method_59_code
def yX11_mix : MethodName := ⟨RX11, "mix", "(J)V"⟩
abbrev cX11_digest : ByteArray := prog_13_method_60_code
def yX11_digest : MethodName := ⟨RX11, "digest", "()J"⟩
def RJ9 : String := "java/lang/Math"
def TJ9 : u_T := fun k => match k with
  | _ => ("", "", "", false)
def tyJ9 : Nat → FieldType := fun k => match k with
  | _ => .int
abbrev wsJ90 : List Cond := u_ws RJ9 TJ9 0
theorem nmJ9 : ∀ a, a < 0 → ∀ b, b < 0 → a ≠ b → (TJ9 a).2.1 ≠ (TJ9 b).2.1 := by decide +kernel
theorem tyJ9_ok : ∀ k, k < 0 → parseFieldDescriptor (TJ9 k).2.2.1 = some (tyJ9 k) := by decide +kernel
abbrev cJ9_max_7cf53 : ByteArray := prog_14_method_65_code
def yJ9_max_7cf53 : MethodName := ⟨RJ9, "max", "(II)I"⟩
abbrev cJ9_min_7cf53 : ByteArray := prog_14_method_69_code
def yJ9_min_7cf53 : MethodName := ⟨RJ9, "min", "(II)I"⟩
def RJ10 : String := "java/lang/System"
def TJ10 : u_T := fun k => match k with
  | _ => ("", "", "", false)
def tyJ10 : Nat → FieldType := fun k => match k with
  | _ => .int
abbrev wsJ100 : List Cond := u_ws RJ10 TJ10 0
theorem nmJ10 : ∀ a, a < 0 → ∀ b, b < 0 → a ≠ b → (TJ10 a).2.1 ≠ (TJ10 b).2.1 := by decide +kernel
theorem tyJ10_ok : ∀ k, k < 0 → parseFieldDescriptor (TJ10 k).2.2.1 = some (tyJ10 k) := by decide +kernel
def RJ7 : String := "java/util/Arrays"
def TJ7 : u_T := fun k => match k with
  | _ => ("", "", "", false)
def tyJ7 : Nat → FieldType := fun k => match k with
  | _ => .int
abbrev wsJ70 : List Cond := u_ws RJ7 TJ7 0
theorem nmJ7 : ∀ a, a < 0 → ∀ b, b < 0 → a ≠ b → (TJ7 a).2.1 ≠ (TJ7 b).2.1 := by decide +kernel
theorem tyJ7_ok : ∀ k, k < 0 → parseFieldDescriptor (TJ7 k).2.2.1 = some (tyJ7 k) := by decide +kernel
abbrev cJ7_fill_53178 : ByteArray := prog_16_method_103_code
def yJ7_fill_53178 : MethodName := ⟨RJ7, "fill", "([II)V"⟩
def RL : String := "ClockZonesLaw"
abbrev cL_law : ByteArray := code
def yL_law : MethodName := ⟨RL, "law", "([I)Z"⟩
abbrev z_cl : List vw_C := [(RX0, TX0, 6), (RX1, TX1, 5), (RX2, TX2, 5), (RX3, TX3, 6), (RX4, TX4, 3), (RX5, TX5, 3), (RX6, TX6, 2), (RX7, TX7, 7), (RX8, TX8, 7), (RX9, TX9, 1), (RX10, TX10, 6), (RX11, TX11, 32)]
theorem z_in0 : ∀ w ∈ wsX00, w ∈ lw_tbl := by decide +kernel
theorem z_in1 : ∀ w ∈ wsX10, w ∈ lw_tbl := by decide +kernel
theorem z_in2 : ∀ w ∈ wsX20, w ∈ lw_tbl := by decide +kernel
theorem z_in3 : ∀ w ∈ wsX30, w ∈ lw_tbl := by decide +kernel
theorem z_in4 : ∀ w ∈ wsX40, w ∈ lw_tbl := by decide +kernel
theorem z_in5 : ∀ w ∈ wsX50, w ∈ lw_tbl := by decide +kernel
theorem z_in6 : ∀ w ∈ wsX60, w ∈ lw_tbl := by decide +kernel
theorem z_in7 : ∀ w ∈ wsX70, w ∈ lw_tbl := by decide +kernel
theorem z_in8 : ∀ w ∈ wsX80, w ∈ lw_tbl := by decide +kernel
theorem z_in9 : ∀ w ∈ wsX90, w ∈ lw_tbl := by decide +kernel
theorem z_in10 : ∀ w ∈ wsX100, w ∈ lw_tbl := by decide +kernel
theorem z_in11 : ∀ w ∈ wsX110, w ∈ lw_tbl := by decide +kernel
def z_tbl : List Cond := lw_tbl.filter goodWord
theorem z_m {w : Cond} (h : w ∈ lw_tbl) (g : goodWord w = true) : w ∈ z_tbl := List.mem_filter.mpr ⟨h, g⟩
theorem z_good : ∀ w ∈ z_tbl, goodWord w = true := fun _ h => (List.mem_filter.mp h).2
theorem z_lw : ∀ w ∈ z_tbl, w ∈ lw_tbl := fun _ h => (List.mem_filter.mp h).1
theorem z_it0 : ∀ w ∈ wsX00, w ∈ z_tbl := fun w h => z_m (z_in0 w h) (by revert w h; decide +kernel)
theorem z_it1 : ∀ w ∈ wsX10, w ∈ z_tbl := fun w h => z_m (z_in1 w h) (by revert w h; decide +kernel)
theorem z_it2 : ∀ w ∈ wsX20, w ∈ z_tbl := fun w h => z_m (z_in2 w h) (by revert w h; decide +kernel)
theorem z_it3 : ∀ w ∈ wsX30, w ∈ z_tbl := fun w h => z_m (z_in3 w h) (by revert w h; decide +kernel)
theorem z_it4 : ∀ w ∈ wsX40, w ∈ z_tbl := fun w h => z_m (z_in4 w h) (by revert w h; decide +kernel)
theorem z_it5 : ∀ w ∈ wsX50, w ∈ z_tbl := fun w h => z_m (z_in5 w h) (by revert w h; decide +kernel)
theorem z_it6 : ∀ w ∈ wsX60, w ∈ z_tbl := fun w h => z_m (z_in6 w h) (by revert w h; decide +kernel)
theorem z_it7 : ∀ w ∈ wsX70, w ∈ z_tbl := fun w h => z_m (z_in7 w h) (by revert w h; decide +kernel)
theorem z_it8 : ∀ w ∈ wsX80, w ∈ z_tbl := fun w h => z_m (z_in8 w h) (by revert w h; decide +kernel)
theorem z_it9 : ∀ w ∈ wsX90, w ∈ z_tbl := fun w h => z_m (z_in9 w h) (by revert w h; decide +kernel)
theorem z_it10 : ∀ w ∈ wsX100, w ∈ z_tbl := fun w h => z_m (z_in10 w h) (by revert w h; decide +kernel)
theorem z_it11 : ∀ w ∈ wsX110, w ∈ z_tbl := fun w h => z_m (z_in11 w h) (by revert w h; decide +kernel)
end
section
/-! a world of numbered cells (S, at the addresses ad) and of further cells by address (Y); its judgement z_V -/
abbrev z_i (z : Int) : Int32 := Int32.ofInt z
abbrev z_v (z : Int) : Value := Value.int (z_i z)
abbrev z_ar (cA : ClassId) (n : Nat) (f : Nat → Int) : va_E := .inl (cA, n, .inl (fun j => z_i (f j)))
abbrev z_rr (cA : ClassId) (n : Nat) (g : Nat → Option Nat) : va_E := .inl (cA, n, .inr (.inr (.inr (.inr g))))
abbrev z_ob (ci : Nat) (fs : List Value) : va_E := .inr (ci, fs)
/-- the array classes: of int, Edge, Move, TestList, Test -/
abbrev z_Ks : Type := ClassId × ClassId × ClassId × ClassId × ClassId
abbrev z_tys (k : z_Ks) : List (ClassId × FieldType) := [(k.1, .int), (k.2.1, .object RX0), (k.2.2.1, .object RX1), (k.2.2.2.1, .object RX6), (k.2.2.2.2, .object RX5)]
def z_R (D : va_G) (A : Nat → Prop) (N : Nat) (ad : Nat → Nat) (S : Nat → va_E) (Y : Nat → Option va_E) (H : Heap) : Prop :=
  (∀ k, k < N → A (ad k) ∧ va_at D z_cl (ad k, S k) H) ∧ (∀ i j, i < N → j < N → ad i = ad j → i = j) ∧ ∀ q e, Y q = some e → A q ∧ (∀ k, k < N → ad k ≠ q) ∧ va_at D z_cl (q, e) H
/-- words that a state keeps beside the tables -/
def z_X (U : State) : Prop := (va_AO RX0 U ∧ va_AO RX1 U ∧ va_AO RX6 U ∧ va_AO RX5 U) ∧ va_Nw (.methodLinkNest RX2 29 yX6_init "ClockZones") U ∧ va_Nw (.methodLinkNest RX10 18 yX3_init "ClockZones") U ∧ va_Nw (.methodLinkNest RX3 11 yX4_init "ClockZones") U ∧ va_Nw (.methodLinkNest RX3 28 yX9_init "ClockZones") U ∧ va_Nw (.methodLinkNest RX10 25 yX8_init "ClockZones") U ∧ va_Nw (.methodLinkNest RX10 32 yX7_init "ClockZones") U ∧ va_Nw (.methodLinkNest RX0 9 yX6_init "ClockZones") U
theorem z_X.warm {s U : State} (hW : s.WarmedH U.vm) (h : z_X s) : z_X U := by
  obtain ⟨⟨a1, a2, a3, a4⟩, b1, b2, b3, b4, b5, b6, b7⟩ := h
  exact ⟨⟨a1.moved hW.alike, a2.moved hW.alike, a3.moved hW.alike, a4.moved hW.alike⟩, b1.warmM hW, b2.warmM hW, b3.warmM hW, b4.warmM hW, b5.warmM hW, b6.warmM hW, b7.warmM hW⟩
theorem z_X.same {s U : State} (hW : s.vm = U.vm) (h : z_X s) : z_X U := by
  obtain ⟨⟨a1, a2, a3, a4⟩, b1, b2, b3, b4, b5, b6, b7⟩ := h
  have hA : s.vm.Alike U.vm := hW ▸ Vm.Alike.refl s.vm
  exact ⟨⟨a1.moved hA, a2.moved hA, a3.moved hA, a4.moved hA⟩, b1.same rfl hW, b2.same rfl hW, b3.same rfl hW, b4.same rfl hW, b5.same rfl hW, b6.same rfl hW, b7.same rfl hW⟩
/-- a contract's start: the world, the tables, the words; every new cell may be written -/
def z_P (D : va_G) (A : Nat → Prop) (N : Nat) (ad : Nat → Nat) (ks : z_Ks) (S : Nat → va_E) (Y : Nat → Option va_E) (U : State) : Prop :=
  z_R D A N ad S Y U.heap ∧ va_K D z_cl (z_tys ks) U ∧ z_X U ∧ ∀ q, U.heap.size ≤ q → A q
/-- a contract's end -/
def z_Q (D : va_G) (A : Nat → Prop) (N : Nat) (ad : Nat → Nat) (post : Option Value → (Nat → va_E) → (Nat → Option va_E) → Prop) : Array Value → State → Outcome → State → Prop := fun _ st oc t =>
  (∃ (r : Option Value) (S' : Nat → va_E) (Y' : Nat → Option va_E), oc = .returned r ∧ post r S' Y' ∧ z_R D A N ad S' Y' t.heap) ∧ va_F A st t
abbrev z_w (y : MethodName) (cc : ByteArray) (mL : Nat) (ret : Option FieldType) : List Cond := Cond.code y cc mL ret :: z_tbl
def z_Met (l : Launch) (y : MethodName) (cc : ByteArray) (mL : Nat) (ret : Option FieldType) (fr lo mc ms : Nat) (D : va_G) (A : Nat → Prop) (N : Nat) (ad : Nat → Nat) (ks : z_Ks) (av : List Value) (S : Nat → va_E) (Y : Nat → Option va_E) (post : Option Value → (Nat → va_E) → (Nat → Option va_E) → Prop) : Prop :=
  Met l y (z_w y cc mL ret) { frames := fr, cells := mc, slots := ms, locals := lo } (va_Pc av (z_P D A N ad ks S Y)) (z_Q D A N ad post) mc ms A
/-- the fixed facts of a method's body -/
def z_C (p : Program) (s : State) (m : MethodId) (args : Array Value) (meth : Method) (c : Code) (cc : ByteArray) (nL : Nat) (own : String) (D : va_G) (A : Nat → Prop) (ks : z_Ks) : Prop :=
  p.tables.exec = Jvm.exec ∧ c.code = cc ∧ c.maxLocals = nL ∧ s.vm.findClass own = some m.cls ∧ (∀ w ∈ z_tbl, w.before args s = true) ∧ va_K D z_cl (z_tys ks) s ∧ z_X s ∧ meth.locks = false ∧ ∀ q, s.heap.size ≤ q → A q
def z_V (p : Program) (l : Launch) (e : Env) (R : Room) (s : State) (m : MethodId) (args : Array Value) (below : List Frame) (meth : Method) (c : Code) (Q : State → Prop) (D : va_G) (A : Nat → Prop) (N : Nat) (ad : Nat → Nat) (nL : Nat) (S : Nat → va_E) (Y : Nat → Option va_E) (cells slots pc : Nat) (L : List (Nat × Value)) (st : List Value) : Prop :=
  ∀ (H : Heap) (locs : List Loc) (ls : Array Slot), z_R D A N ad S Y H → va_S A s.heap H locs → lv_has ls nL L → W p l e R s m args below meth c H locs cells slots Q (F0 m pc ls st)
section ZR
variable {D : va_G} {A : Nat → Prop} {N : Nat} {ad : Nat → Nat} {S S' : Nat → va_E} {Y : Nat → Option va_E} {H H1 : Heap}
theorem z_R.ext (h : z_R D A N ad S Y H) (e : ∀ k, k < N → S k = S' k) : z_R D A N ad S' Y H := ⟨fun k hk => ⟨(h.1 k hk).1, by rw [← e k hk]; exact (h.1 k hk).2⟩, h.2⟩
theorem z_R.one (h : z_R D A N ad S Y H) {k : Nat} (hk : k < N) : va_P D z_cl [(ad k, S k)] H ∧ va_D A [(ad k, S k)] := by
  refine ⟨fun i q hq => ?_, fun i j x y hi hj _ => ?_, fun i q hq => ?_⟩
  · match i, hq with
    | 0, hq => cases hq; exact (h.1 k hk).2
    | i + 1, hq => simp at hq
  · have h1 := (List.getElem?_eq_some_iff.mp hi).1
    have h2 := (List.getElem?_eq_some_iff.mp hj).1
    simp at h1 h2
    omega
  · match i, hq with
    | 0, hq => cases hq; exact (h.1 k hk).1
    | i + 1, hq => simp at hq
theorem z_R.dyn (h : z_R D A N ad S Y H) {q : Nat} {e : va_E} (hq : Y q = some e) : va_P D z_cl [(q, e)] H ∧ va_D A [(q, e)] := by
  refine ⟨fun i x hx => ?_, fun i j x y hi hj _ => ?_, fun i x hx => ?_⟩
  · match i, hx with
    | 0, hx => cases hx; exact (h.2.2 q e hq).2.2
    | i + 1, hx => simp at hx
  · have h1 := (List.getElem?_eq_some_iff.mp hi).1
    have h2 := (List.getElem?_eq_some_iff.mp hj).1
    simp at h1 h2
    omega
  · match i, hx with
    | 0, hx => cases hx; exact (h.2.2 q e hq).1
    | i + 1, hx => simp at hx
/-- one numbered cell written -/
theorem z_R.put (h : z_R D A N ad S Y H) {k : Nat} (hk : k < N) {e : va_E} (he : va_at D z_cl (ad k, e) H1) (oq : ∀ q : Nat, q ≠ ad k → H1[q]? = H[q]?) : z_R D A N ad (va_up S k e) Y H1 := by
  refine ⟨fun i hi => ⟨(h.1 i hi).1, ?_⟩, h.2.1, fun q x hq => ⟨(h.2.2 q x hq).1, (h.2.2 q x hq).2.1, (h.2.2 q x hq).2.2.kept (oq q (fun z => (h.2.2 q x hq).2.1 k hk z.symm))⟩⟩
  by_cases hik : i = k
  · subst hik
    simp only [va_up, if_true]
    exact he
  · simp only [va_up, hik, if_false]
    exact (h.1 i hi).2.kept (oq (ad i) (fun z => hik (h.2.1 i k hi hk z)))
/-- one further cell written -/
theorem z_R.putY (h : z_R D A N ad S Y H) {a : Nat} {e0 e : va_E} (ha : Y a = some e0) (he : va_at D z_cl (a, e) H1) (oq : ∀ q : Nat, q ≠ a → H1[q]? = H[q]?) : z_R D A N ad S (va_up Y a (some e)) H1 := by
  have h0 := h.2.2 a e0 ha
  refine ⟨fun i hi => ⟨(h.1 i hi).1, (h.1 i hi).2.kept (oq (ad i) (h0.2.1 i hi))⟩, h.2.1, fun q x hq => ?_⟩
  by_cases hqa : q = a
  · subst hqa
    simp only [va_up, if_true, Option.some.injEq] at hq
    subst hq
    exact ⟨h0.1, h0.2.1, he⟩
  · simp only [va_up, hqa, if_false] at hq
    exact ⟨(h.2.2 q x hq).1, (h.2.2 q x hq).2.1, (h.2.2 q x hq).2.2.kept (oq q hqa)⟩
/-- one further cell made -/
theorem z_R.new (h : z_R D A N ad S Y H) {e : va_E} (hA : A H.size) (he : va_at D z_cl (H.size, e) H1) (oq : ∀ q : Nat, q < H.size → H1[q]? = H[q]?) : z_R D A N ad S (va_up Y H.size (some e)) H1 ∧ Y H.size = none ∧ ∀ q x, Y q = some x → q ≠ H.size := by
  have hlt : ∀ q x, Y q = some x → q < H.size := fun q x hq => (h.2.2 q x hq).2.2.lt
  refine ⟨⟨fun i hi => ⟨(h.1 i hi).1, (h.1 i hi).2.kept (oq (ad i) (h.1 i hi).2.lt)⟩, h.2.1, fun q x hq => ?_⟩, ?_, fun q x hq => Nat.ne_of_lt (hlt q x hq)⟩
  · by_cases hqa : q = H.size
    · subst hqa
      simp only [va_up, if_true, Option.some.injEq] at hq
      subst hq
      exact ⟨hA, fun k hk => Nat.ne_of_lt (h.1 k hk).2.lt, he⟩
    · simp only [va_up, hqa, if_false] at hq
      exact ⟨(h.2.2 q x hq).1, (h.2.2 q x hq).2.1, (h.2.2 q x hq).2.2.kept (oq q (hlt q x hq))⟩
  · cases hz : Y H.size with
    | none => rfl
    | some x => exact absurd (hlt _ _ hz) (Nat.lt_irrefl _)
end ZR
/-! numbers -/
theorem z_add (a b : Int) : z_i a + z_i b = z_i (a + b) := (Int32.ofInt_add a b).symm
theorem z_sub (a b : Int) : z_i a - z_i b = z_i (a - b) := (Int32.ofInt_sub a b).symm
theorem z_mul (a b : Int) : z_i a * z_i b = z_i (a * b) := (Int32.ofInt_mul a b).symm
theorem z_neg (a : Int) : -z_i a = z_i (-a) := (Int32.ofInt_neg a).symm
abbrev z_rg (z : Int) : Prop := -2147483648 ≤ z ∧ z < 2147483648
theorem z_to {z : Int} (h : z_rg z) : (z_i z).toInt = z := by
  rw [Int32.toInt_ofInt]
  show Int.bmod z 4294967296 = z
  exact Int.bmod_eq_of_le (by omega) (by omega)
theorem z_of (x : Int32) : z_i x.toInt = x := Int32.ofInt_toInt x
theorem z_rgI (x : Int32) : z_rg x.toInt := by
  have h1 := Int32.le_toInt x
  have h2 := Int32.toInt_lt x
  constructor <;> omega
theorem z_eq {a b : Int} (ha : z_rg a) (hb : z_rg b) : z_i a = z_i b ↔ a = b := ⟨fun h => by rw [← z_to ha, ← z_to hb, h], fun h => by rw [h]⟩
theorem z_le {a b : Int} (ha : z_rg a) (hb : z_rg b) : z_i a ≤ z_i b ↔ a ≤ b := by rw [Int32.le_iff_toInt_le, z_to ha, z_to hb]
theorem z_lt {a b : Int} (ha : z_rg a) (hb : z_rg b) : z_i a < z_i b ↔ a < b := by rw [Int32.lt_iff_toInt_lt, z_to ha, z_to hb]
/-- an int whatever it is, by a number in range -/
theorem z_any (x : Int32) : ∃ z, z_rg z ∧ x = z_i z := ⟨x.toInt, z_rgI x, (z_of x).symm⟩
theorem z_norm (a : Int) : ∃ z, z_rg z ∧ z_i a = z_i z := z_any _
theorem z_cl0 {a : Int} (h0 : 0 ≤ a) (h : a < 2147483648) : (z_i a).toNatClampNeg = a.toNat := by
  rw [← Int32.toNat_toInt, z_to ⟨by omega, h⟩]
theorem z_ix {a : Int} {n : Nat} (h0 : 0 ≤ a) (h : a < n) (hn : n < 2147483648) : vp_in (z_i a) n := by
  have h1 : z_rg a := ⟨by omega, by omega⟩
  rw [vp_in_iff, z_to h1]
  exact ⟨h0, h⟩
end
section
theorem z_rg0 : z_rg 0 := ⟨by decide, by decide⟩
section ZROWS
variable {p : Program} {l : Launch} {e : Env} {R : Room} {s : State} {m : MethodId} {args : Array Value} {below : List Frame} {meth : Method} {c : Code} {Q : State → Prop} {D : va_G} {A : Nat → Prop} {N : Nat} {ad : Nat → Nat} {nL : Nat} {S : Nat → va_E} {Y : Nat → Option va_E} {cells slots pc : Nat} {L : List (Nat × Value)} {st : List Value} {cc : ByteArray} {own : String} {ks : z_Ks}
theorem z_iconst (C : z_C p s m args meth c cc nL own D A ks) {n : Int} (hd : decode cc pc = .ok (.iconst n, 1)) (k : z_V p l e R s m args below meth c Q D A N ad nL S Y cells slots (pc + 1) L (z_v n :: st)) : z_V p l e R s m args below meth c Q D A N ad nL S Y cells slots (pc) L (st) := by
  intro H locs ls hR hS hl
  exact lv_iconst C.1 C.2.1 hd rfl (k H locs ls hR hS hl)
theorem z_bipush (C : z_C p s m args meth c cc nL own D A ks) {n : Int} (hd : decode cc pc = .ok (.bipush n, 2)) (hv : (Int8.ofInt n).toInt32 = z_i n) (k : z_V p l e R s m args below meth c Q D A N ad nL S Y cells slots (pc + 2) L (z_v n :: st)) : z_V p l e R s m args below meth c Q D A N ad nL S Y cells slots (pc) L (st) := by
  intro H locs ls hR hS hl
  exact lv_bipush C.1 C.2.1 hd hv (k H locs ls hR hS hl)
theorem z_sipush (C : z_C p s m args meth c cc nL own D A ks) {n : Int} (hd : decode cc pc = .ok (.sipush n, 3)) (hv : (Int16.ofInt n).toInt32 = z_i n) (k : z_V p l e R s m args below meth c Q D A N ad nL S Y cells slots (pc + 3) L (z_v n :: st)) : z_V p l e R s m args below meth c Q D A N ad nL S Y cells slots (pc) L (st) := by
  intro H locs ls hR hS hl
  exact lv_sipush C.1 C.2.1 hd hv (k H locs ls hR hS hl)
theorem z_ldc (C : z_C p s m args meth c cc nL own D A ks) {i : Nat} {w : Int32} {n : Int} (hm : Cond.constant own i w ∈ z_tbl) (hw : w = z_i n) (hd : decode cc pc = .ok (.ldc i, 2)) (k : z_V p l e R s m args below meth c Q D A N ad nL S Y cells slots (pc + 2) L (z_v n :: st)) : z_V p l e R s m args below meth c Q D A N ad nL S Y cells slots (pc) L (st) := by
  intro H locs ls hR hS hl
  subst hw
  exact lv_ldc C.1 C.2.1 C.2.2.2.1 (C.2.2.2.2.1 _ hm) hd (k H locs ls hR hS hl)
theorem z_ldc2 (C : z_C p s m args meth c cc nL own D A ks) {i : Nat} {w : Int64} (hm : Cond.constantLong own i w ∈ z_tbl) (hd : decode cc pc = .ok (.ldc2_w i, 3)) (k : z_V p l e R s m args below meth c Q D A N ad nL S Y cells slots (pc + 3) L (.long w :: st)) : z_V p l e R s m args below meth c Q D A N ad nL S Y cells slots (pc) L (st) := by
  intro H locs ls hR hS hl
  exact lv_ldc2 C.1 C.2.1 C.2.2.2.1 (C.2.2.2.2.1 _ hm) hd (k H locs ls hR hS hl)
theorem z_lconst (C : z_C p s m args meth c cc nL own D A ks) {n : Fin 2} {w : Int64} (hd : decode cc pc = .ok (.lconst n, 1)) (hw : Int64.ofNat (n : Nat) = w) (k : z_V p l e R s m args below meth c Q D A N ad nL S Y cells slots (pc + 1) L (.long w :: st)) : z_V p l e R s m args below meth c Q D A N ad nL S Y cells slots (pc) L (st) := by
  intro H locs ls hR hS hl
  exact lv_lconst C.1 C.2.1 hd hw (k H locs ls hR hS hl)
theorem z_null (C : z_C p s m args meth c cc nL own D A ks) (hd : decode cc pc = .ok (.aconst_null, 1)) (k : z_V p l e R s m args below meth c Q D A N ad nL S Y cells slots (pc + 1) L (.null :: st)) : z_V p l e R s m args below meth c Q D A N ad nL S Y cells slots (pc) L (st) := by
  intro H locs ls hR hS hl
  exact lv_null C.1 C.2.1 hd (k H locs ls hR hS hl)
theorem z_iloadn (C : z_C p s m args meth c cc nL own D A ks) {n : Fin 4} {i : Nat} {x : Int32} (j : Nat) (hd : decode cc pc = .ok (.iload_n n, 1)) (hi : (n : Nat) = i) (hj : L[j]? = some (i, .int x)) (k : z_V p l e R s m args below meth c Q D A N ad nL S Y cells slots (pc + 1) L (.int x :: st)) : z_V p l e R s m args below meth c Q D A N ad nL S Y cells slots (pc) L (st) := by
  intro H locs ls hR hS hl
  exact lv_iload_n C.1 C.2.1 hd hi (lv_at hl j hj) (k H locs ls hR hS hl)
theorem z_iload (C : z_C p s m args meth c cc nL own D A ks) {i : Nat} {x : Int32} (j : Nat) (hd : decode cc pc = .ok (.iload i, 2)) (hj : L[j]? = some (i, .int x)) (k : z_V p l e R s m args below meth c Q D A N ad nL S Y cells slots (pc + 2) L (.int x :: st)) : z_V p l e R s m args below meth c Q D A N ad nL S Y cells slots (pc) L (st) := by
  intro H locs ls hR hS hl
  exact lv_iload C.1 C.2.1 hd (lv_at hl j hj) (k H locs ls hR hS hl)
theorem z_lloadn (C : z_C p s m args meth c cc nL own D A ks) {n : Fin 4} {i : Nat} {x : Int64} (j : Nat) (hd : decode cc pc = .ok (.lload_n n, 1)) (hi : (n : Nat) = i) (hj : L[j]? = some (i, .long x)) (k : z_V p l e R s m args below meth c Q D A N ad nL S Y cells slots (pc + 1) L (.long x :: st)) : z_V p l e R s m args below meth c Q D A N ad nL S Y cells slots (pc) L (st) := by
  intro H locs ls hR hS hl
  exact lv_lload_n C.1 C.2.1 hd hi (lv_at hl j hj) (k H locs ls hR hS hl)
theorem z_lload (C : z_C p s m args meth c cc nL own D A ks) {i : Nat} {x : Int64} (j : Nat) (hd : decode cc pc = .ok (.lload i, 2)) (hj : L[j]? = some (i, .long x)) (k : z_V p l e R s m args below meth c Q D A N ad nL S Y cells slots (pc + 2) L (.long x :: st)) : z_V p l e R s m args below meth c Q D A N ad nL S Y cells slots (pc) L (st) := by
  intro H locs ls hR hS hl
  exact lv_lload C.1 C.2.1 hd (lv_at hl j hj) (k H locs ls hR hS hl)
theorem z_aloadn (C : z_C p s m args meth c cc nL own D A ks) {n : Fin 4} {i : Nat} {x : Nat} (j : Nat) (hd : decode cc pc = .ok (.aload_n n, 1)) (hi : (n : Nat) = i) (hj : L[j]? = some (i, .ref x)) (k : z_V p l e R s m args below meth c Q D A N ad nL S Y cells slots (pc + 1) L (.ref x :: st)) : z_V p l e R s m args below meth c Q D A N ad nL S Y cells slots (pc) L (st) := by
  intro H locs ls hR hS hl
  exact lv_aload_n C.1 C.2.1 hd hi (lv_at hl j hj) (k H locs ls hR hS hl)
theorem z_aload (C : z_C p s m args meth c cc nL own D A ks) {i : Nat} {x : Nat} (j : Nat) (hd : decode cc pc = .ok (.aload i, 2)) (hj : L[j]? = some (i, .ref x)) (k : z_V p l e R s m args below meth c Q D A N ad nL S Y cells slots (pc + 2) L (.ref x :: st)) : z_V p l e R s m args below meth c Q D A N ad nL S Y cells slots (pc) L (st) := by
  intro H locs ls hR hS hl
  exact lv_aload C.1 C.2.1 hd (lv_at hl j hj) (k H locs ls hR hS hl)
theorem z_aloadnN (C : z_C p s m args meth c cc nL own D A ks) {n : Fin 4} {i : Nat} (j : Nat) (hd : decode cc pc = .ok (.aload_n n, 1)) (hi : (n : Nat) = i) (hj : L[j]? = some (i, .null)) (k : z_V p l e R s m args below meth c Q D A N ad nL S Y cells slots (pc + 1) L (.null :: st)) : z_V p l e R s m args below meth c Q D A N ad nL S Y cells slots (pc) L (st) := by
  intro H locs ls hR hS hl
  exact lv_aload_nN C.1 C.2.1 hd hi (lv_at hl j hj) (k H locs ls hR hS hl)
theorem z_istoren (C : z_C p s m args meth c cc nL own D A ks) {n : Fin 4} {i : Nat} {x : Int32} {L' : List (Nat × Value)} (hd : decode cc pc = .ok (.istore_n n, 1)) (hi : (n : Nat) = i) (hn : i < nL) (he : (i, Value.int x) :: L.filter (fun q => !(q.1 == i) && !(q.1 + 1 == i && q.2.category == 2)) = L') (k : z_V p l e R s m args below meth c Q D A N ad nL S Y cells slots (pc + 1) L' (st)) : z_V p l e R s m args below meth c Q D A N ad nL S Y cells slots (pc) L (.int x :: st) := by
  intro H locs ls hR hS hl
  exact lv_istore_n C.1 C.2.1 hd hi hl hn he (fun ls' hl' => k H locs ls' hR hS hl')
theorem z_istore (C : z_C p s m args meth c cc nL own D A ks) {i : Nat} {x : Int32} {L' : List (Nat × Value)} (hd : decode cc pc = .ok (.istore i, 2)) (hn : i < nL) (he : (i, Value.int x) :: L.filter (fun q => !(q.1 == i) && !(q.1 + 1 == i && q.2.category == 2)) = L') (k : z_V p l e R s m args below meth c Q D A N ad nL S Y cells slots (pc + 2) L' (st)) : z_V p l e R s m args below meth c Q D A N ad nL S Y cells slots (pc) L (.int x :: st) := by
  intro H locs ls hR hS hl
  exact lv_istore C.1 C.2.1 hd hl hn he (fun ls' hl' => k H locs ls' hR hS hl')
theorem z_lstoren (C : z_C p s m args meth c cc nL own D A ks) {n : Fin 4} {i : Nat} {x : Int64} {L' : List (Nat × Value)} (hd : decode cc pc = .ok (.lstore_n n, 1)) (hi : (n : Nat) = i) (hn : i + 1 < nL) (he : (i, Value.long x) :: L.filter (fun q => !(q.1 == i) && (!(q.1 == i + 1) && !(q.1 + 1 == i && q.2.category == 2))) = L') (k : z_V p l e R s m args below meth c Q D A N ad nL S Y cells slots (pc + 1) L' (st)) : z_V p l e R s m args below meth c Q D A N ad nL S Y cells slots (pc) L (.long x :: st) := by
  intro H locs ls hR hS hl
  exact lv_lstore_n C.1 C.2.1 hd hi hl hn he (fun ls' hl' => k H locs ls' hR hS hl')
theorem z_lstore (C : z_C p s m args meth c cc nL own D A ks) {i : Nat} {x : Int64} {L' : List (Nat × Value)} (hd : decode cc pc = .ok (.lstore i, 2)) (hn : i + 1 < nL) (he : (i, Value.long x) :: L.filter (fun q => !(q.1 == i) && (!(q.1 == i + 1) && !(q.1 + 1 == i && q.2.category == 2))) = L') (k : z_V p l e R s m args below meth c Q D A N ad nL S Y cells slots (pc + 2) L' (st)) : z_V p l e R s m args below meth c Q D A N ad nL S Y cells slots (pc) L (.long x :: st) := by
  intro H locs ls hR hS hl
  exact lv_lstore C.1 C.2.1 hd hl hn he (fun ls' hl' => k H locs ls' hR hS hl')
theorem z_astoren (C : z_C p s m args meth c cc nL own D A ks) {n : Fin 4} {i : Nat} {x : Nat} {L' : List (Nat × Value)} (hd : decode cc pc = .ok (.astore_n n, 1)) (hi : (n : Nat) = i) (hn : i < nL) (he : (i, Value.ref x) :: L.filter (fun q => !(q.1 == i) && !(q.1 + 1 == i && q.2.category == 2)) = L') (k : z_V p l e R s m args below meth c Q D A N ad nL S Y cells slots (pc + 1) L' (st)) : z_V p l e R s m args below meth c Q D A N ad nL S Y cells slots (pc) L (.ref x :: st) := by
  intro H locs ls hR hS hl
  exact lv_astore_n C.1 C.2.1 hd hi hl hn he (fun ls' hl' => k H locs ls' hR hS hl')
theorem z_astore (C : z_C p s m args meth c cc nL own D A ks) {i : Nat} {x : Nat} {L' : List (Nat × Value)} (hd : decode cc pc = .ok (.astore i, 2)) (hn : i < nL) (he : (i, Value.ref x) :: L.filter (fun q => !(q.1 == i) && !(q.1 + 1 == i && q.2.category == 2)) = L') (k : z_V p l e R s m args below meth c Q D A N ad nL S Y cells slots (pc + 2) L' (st)) : z_V p l e R s m args below meth c Q D A N ad nL S Y cells slots (pc) L (.ref x :: st) := by
  intro H locs ls hR hS hl
  exact lv_astore C.1 C.2.1 hd hl hn he (fun ls' hl' => k H locs ls' hR hS hl')
theorem z_iinc (C : z_C p s m args meth c cc nL own D A ks) {i : Nat} {n x : Int} {L' : List (Nat × Value)} (j : Nat) (hd : decode cc pc = .ok (.iinc i n, 3)) (hj : L[j]? = some (i, z_v x)) (hn : i < nL) (he : (i, z_v (x + n)) :: L.filter (fun q => !(q.1 == i) && !(q.1 + 1 == i && q.2.category == 2)) = L') (k : z_V p l e R s m args below meth c Q D A N ad nL S Y cells slots (pc + 3) L' (st)) : z_V p l e R s m args below meth c Q D A N ad nL S Y cells slots (pc) L (st) := by
  intro H locs ls hR hS hl
  exact lv_iinc C.1 C.2.1 hd hl hj (z_add x n) hn he (fun ls' hl' => k H locs ls' hR hS hl')
theorem z_iadd (C : z_C p s m args meth c cc nL own D A ks) {x y : Int} (hd : decode cc pc = .ok (.iadd, 1)) (k : z_V p l e R s m args below meth c Q D A N ad nL S Y cells slots (pc + 1) L (z_v (x + y) :: st)) : z_V p l e R s m args below meth c Q D A N ad nL S Y cells slots (pc) L (z_v y :: z_v x :: st) := by
  intro H locs ls hR hS hl
  refine lv_iadd C.1 C.2.1 hd ?_
  rw [z_add]
  exact k H locs ls hR hS hl
theorem z_isub (C : z_C p s m args meth c cc nL own D A ks) {x y : Int} (hd : decode cc pc = .ok (.isub, 1)) (k : z_V p l e R s m args below meth c Q D A N ad nL S Y cells slots (pc + 1) L (z_v (x - y) :: st)) : z_V p l e R s m args below meth c Q D A N ad nL S Y cells slots (pc) L (z_v y :: z_v x :: st) := by
  intro H locs ls hR hS hl
  refine lv_isub C.1 C.2.1 hd ?_
  rw [z_sub]
  exact k H locs ls hR hS hl
theorem z_imul (C : z_C p s m args meth c cc nL own D A ks) {x y : Int} (hd : decode cc pc = .ok (.imul, 1)) (k : z_V p l e R s m args below meth c Q D A N ad nL S Y cells slots (pc + 1) L (z_v (x * y) :: st)) : z_V p l e R s m args below meth c Q D A N ad nL S Y cells slots (pc) L (z_v y :: z_v x :: st) := by
  intro H locs ls hR hS hl
  refine lv_imul C.1 C.2.1 hd ?_
  rw [z_mul]
  exact k H locs ls hR hS hl
theorem z_ineg (C : z_C p s m args meth c cc nL own D A ks) {x : Int} (hd : decode cc pc = .ok (.ineg, 1)) (k : z_V p l e R s m args below meth c Q D A N ad nL S Y cells slots (pc + 1) L (z_v (-x) :: st)) : z_V p l e R s m args below meth c Q D A N ad nL S Y cells slots (pc) L (z_v x :: st) := by
  intro H locs ls hR hS hl
  refine lv_ineg C.1 C.2.1 hd ?_
  rw [z_neg]
  exact k H locs ls hR hS hl
theorem z_iand (C : z_C p s m args meth c cc nL own D A ks) {x y z : Int} (hz : z_i x &&& z_i y = z_i z) (hd : decode cc pc = .ok (.iand, 1)) (k : z_V p l e R s m args below meth c Q D A N ad nL S Y cells slots (pc + 1) L (z_v z :: st)) : z_V p l e R s m args below meth c Q D A N ad nL S Y cells slots (pc) L (z_v y :: z_v x :: st) := by
  intro H locs ls hR hS hl
  refine lv_iand C.1 C.2.1 hd ?_
  rw [hz]
  exact k H locs ls hR hS hl
theorem z_ior (C : z_C p s m args meth c cc nL own D A ks) {x y z : Int} (hz : z_i x ||| z_i y = z_i z) (hd : decode cc pc = .ok (.ior, 1)) (k : z_V p l e R s m args below meth c Q D A N ad nL S Y cells slots (pc + 1) L (z_v z :: st)) : z_V p l e R s m args below meth c Q D A N ad nL S Y cells slots (pc) L (z_v y :: z_v x :: st) := by
  intro H locs ls hR hS hl
  refine lv_ior C.1 C.2.1 hd ?_
  rw [hz]
  exact k H locs ls hR hS hl
theorem z_ishr (C : z_C p s m args meth c cc nL own D A ks) {x y z : Int} (hz : z_i x >>> (z_i y &&& 31) = z_i z) (hd : decode cc pc = .ok (.ishr, 1)) (k : z_V p l e R s m args below meth c Q D A N ad nL S Y cells slots (pc + 1) L (z_v z :: st)) : z_V p l e R s m args below meth c Q D A N ad nL S Y cells slots (pc) L (z_v y :: z_v x :: st) := by
  intro H locs ls hR hS hl
  refine lv_ishr C.1 C.2.1 hd ?_
  rw [hz]
  exact k H locs ls hR hS hl
theorem z_i2l (C : z_C p s m args meth c cc nL own D A ks) {x : Int} (hd : decode cc pc = .ok (.i2l, 1)) (k : z_V p l e R s m args below meth c Q D A N ad nL S Y cells slots (pc + 1) L (.long (z_i x).toInt64 :: st)) : z_V p l e R s m args below meth c Q D A N ad nL S Y cells slots (pc) L (z_v x :: st) := by
  intro H locs ls hR hS hl
  exact lv_i2l C.1 C.2.1 hd rfl (k H locs ls hR hS hl)
theorem z_ladd (C : z_C p s m args meth c cc nL own D A ks) {x y : Int64} (hd : decode cc pc = .ok (.ladd, 1)) (k : z_V p l e R s m args below meth c Q D A N ad nL S Y cells slots (pc + 1) L (.long (x + y) :: st)) : z_V p l e R s m args below meth c Q D A N ad nL S Y cells slots (pc) L (.long y :: .long x :: st) := by
  intro H locs ls hR hS hl
  exact lv_ladd C.1 C.2.1 hd (k H locs ls hR hS hl)
theorem z_lmul (C : z_C p s m args meth c cc nL own D A ks) {x y : Int64} (hd : decode cc pc = .ok (.lmul, 1)) (k : z_V p l e R s m args below meth c Q D A N ad nL S Y cells slots (pc + 1) L (.long (x * y) :: st)) : z_V p l e R s m args below meth c Q D A N ad nL S Y cells slots (pc) L (.long y :: .long x :: st) := by
  intro H locs ls hR hS hl
  exact lv_lmul C.1 C.2.1 hd (k H locs ls hR hS hl)
theorem z_dup (C : z_C p s m args meth c cc nL own D A ks) {v : Value} (hd : decode cc pc = .ok (.dup, 1)) (hv : v.category = 1) (k : z_V p l e R s m args below meth c Q D A N ad nL S Y cells slots (pc + 1) L (v :: v :: st)) : z_V p l e R s m args below meth c Q D A N ad nL S Y cells slots (pc) L (v :: st) := by
  intro H locs ls hR hS hl
  exact lv_dup C.1 C.2.1 hd hv (k H locs ls hR hS hl)
theorem z_dup2 (C : z_C p s m args meth c cc nL own D A ks) {v w : Value} (hd : decode cc pc = .ok (.dup2, 1)) (hv : v.category = 1) (hw : w.category = 1) (k : z_V p l e R s m args below meth c Q D A N ad nL S Y cells slots (pc + 1) L (v :: w :: v :: w :: st)) : z_V p l e R s m args below meth c Q D A N ad nL S Y cells slots (pc) L (v :: w :: st) := by
  intro H locs ls hR hS hl
  exact lv_dup2_11 C.1 C.2.1 hd hv hw (k H locs ls hR hS hl)
theorem z_pop (C : z_C p s m args meth c cc nL own D A ks) {v : Value} (hd : decode cc pc = .ok (.pop, 1)) (hv : v.category = 1) (k : z_V p l e R s m args below meth c Q D A N ad nL S Y cells slots (pc + 1) L (st)) : z_V p l e R s m args below meth c Q D A N ad nL S Y cells slots (pc) L (v :: st) := by
  intro H locs ls hR hS hl
  exact lv_pop C.1 C.2.1 hd hv (k H locs ls hR hS hl)
theorem z_pop2 (C : z_C p s m args meth c cc nL own D A ks) {v : Value} (hd : decode cc pc = .ok (.pop2, 1)) (hv : v.category = 2) (k : z_V p l e R s m args below meth c Q D A N ad nL S Y cells slots (pc + 1) L (st)) : z_V p l e R s m args below meth c Q D A N ad nL S Y cells slots (pc) L (v :: st) := by
  intro H locs ls hR hS hl
  exact lv_pop2_2 C.1 C.2.1 hd hv (k H locs ls hR hS hl)
theorem z_goto (C : z_C p s m args meth c cc nL own D A ks) {o : Int} {t : Nat} (hd : decode cc pc = .ok (.goto o, 3)) (ht : (pc : Int) + o = (t : Int)) (k : z_V p l e R s m args below meth c Q D A N ad nL S Y cells slots (t) L (st)) : z_V p l e R s m args below meth c Q D A N ad nL S Y cells slots (pc) L (st) := by
  intro H locs ls hR hS hl
  exact lv_goto C.1 C.2.1 hd ht (k H locs ls hR hS hl)
theorem z_icmp_eq (C : z_C p s m args meth c cc nL own D A ks) {x y o : Int} {t : Nat} (hd : decode cc pc = .ok (.if_icmp .eq o, 3)) (ht : (pc : Int) + o = (t : Int)) (hx : z_rg x) (hy : z_rg y) (kt : x = y → z_V p l e R s m args below meth c Q D A N ad nL S Y cells slots (t) L (st)) (kf : ¬ x = y → z_V p l e R s m args below meth c Q D A N ad nL S Y cells slots (pc + 3) L (st)) : z_V p l e R s m args below meth c Q D A N ad nL S Y cells slots (pc) L (z_v y :: z_v x :: st) := by
  intro H locs ls hR hS hl
  exact lv_icmp_eq C.1 C.2.1 hd ht (fun h => kt ((z_eq hx hy).mp h) H locs ls hR hS hl) (fun h => kf (fun g => h ((z_eq hx hy).mpr g)) H locs ls hR hS hl)
theorem z_if_eq (C : z_C p s m args meth c cc nL own D A ks) {x o : Int} {t : Nat} (hd : decode cc pc = .ok (.ifCond .eq o, 3)) (ht : (pc : Int) + o = (t : Int)) (hx : z_rg x) (kt : x = 0 → z_V p l e R s m args below meth c Q D A N ad nL S Y cells slots (t) L (st)) (kf : ¬ x = 0 → z_V p l e R s m args below meth c Q D A N ad nL S Y cells slots (pc + 3) L (st)) : z_V p l e R s m args below meth c Q D A N ad nL S Y cells slots (pc) L (z_v x :: st) := by
  intro H locs ls hR hS hl
  exact lv_if_eq C.1 C.2.1 hd ht (fun h => kt ((z_eq hx z_rg0).mp h) H locs ls hR hS hl) (fun h => kf (fun g => h ((z_eq hx z_rg0).mpr g)) H locs ls hR hS hl)
theorem z_icmp_ne (C : z_C p s m args meth c cc nL own D A ks) {x y o : Int} {t : Nat} (hd : decode cc pc = .ok (.if_icmp .ne o, 3)) (ht : (pc : Int) + o = (t : Int)) (hx : z_rg x) (hy : z_rg y) (kt : ¬ x = y → z_V p l e R s m args below meth c Q D A N ad nL S Y cells slots (t) L (st)) (kf : x = y → z_V p l e R s m args below meth c Q D A N ad nL S Y cells slots (pc + 3) L (st)) : z_V p l e R s m args below meth c Q D A N ad nL S Y cells slots (pc) L (z_v y :: z_v x :: st) := by
  intro H locs ls hR hS hl
  exact lv_icmp_ne C.1 C.2.1 hd ht (fun h => kt (fun g => h ((z_eq hx hy).mpr g)) H locs ls hR hS hl) (fun h => kf ((z_eq hx hy).mp h) H locs ls hR hS hl)
theorem z_if_ne (C : z_C p s m args meth c cc nL own D A ks) {x o : Int} {t : Nat} (hd : decode cc pc = .ok (.ifCond .ne o, 3)) (ht : (pc : Int) + o = (t : Int)) (hx : z_rg x) (kt : ¬ x = 0 → z_V p l e R s m args below meth c Q D A N ad nL S Y cells slots (t) L (st)) (kf : x = 0 → z_V p l e R s m args below meth c Q D A N ad nL S Y cells slots (pc + 3) L (st)) : z_V p l e R s m args below meth c Q D A N ad nL S Y cells slots (pc) L (z_v x :: st) := by
  intro H locs ls hR hS hl
  exact lv_if_ne C.1 C.2.1 hd ht (fun h => kt (fun g => h ((z_eq hx z_rg0).mpr g)) H locs ls hR hS hl) (fun h => kf ((z_eq hx z_rg0).mp h) H locs ls hR hS hl)
theorem z_icmp_lt (C : z_C p s m args meth c cc nL own D A ks) {x y o : Int} {t : Nat} (hd : decode cc pc = .ok (.if_icmp .lt o, 3)) (ht : (pc : Int) + o = (t : Int)) (hx : z_rg x) (hy : z_rg y) (kt : x < y → z_V p l e R s m args below meth c Q D A N ad nL S Y cells slots (t) L (st)) (kf : y ≤ x → z_V p l e R s m args below meth c Q D A N ad nL S Y cells slots (pc + 3) L (st)) : z_V p l e R s m args below meth c Q D A N ad nL S Y cells slots (pc) L (z_v y :: z_v x :: st) := by
  intro H locs ls hR hS hl
  exact lv_icmp_lt C.1 C.2.1 hd ht (fun h => kt ((z_lt hx hy).mp h) H locs ls hR hS hl) (fun h => kf (Int.not_lt.mp (fun g => h ((z_lt hx hy).mpr g))) H locs ls hR hS hl)
theorem z_if_lt (C : z_C p s m args meth c cc nL own D A ks) {x o : Int} {t : Nat} (hd : decode cc pc = .ok (.ifCond .lt o, 3)) (ht : (pc : Int) + o = (t : Int)) (hx : z_rg x) (kt : x < 0 → z_V p l e R s m args below meth c Q D A N ad nL S Y cells slots (t) L (st)) (kf : 0 ≤ x → z_V p l e R s m args below meth c Q D A N ad nL S Y cells slots (pc + 3) L (st)) : z_V p l e R s m args below meth c Q D A N ad nL S Y cells slots (pc) L (z_v x :: st) := by
  intro H locs ls hR hS hl
  exact lv_if_lt C.1 C.2.1 hd ht (fun h => kt ((z_lt hx z_rg0).mp h) H locs ls hR hS hl) (fun h => kf (Int.not_lt.mp (fun g => h ((z_lt hx z_rg0).mpr g))) H locs ls hR hS hl)
theorem z_icmp_ge (C : z_C p s m args meth c cc nL own D A ks) {x y o : Int} {t : Nat} (hd : decode cc pc = .ok (.if_icmp .ge o, 3)) (ht : (pc : Int) + o = (t : Int)) (hx : z_rg x) (hy : z_rg y) (kt : y ≤ x → z_V p l e R s m args below meth c Q D A N ad nL S Y cells slots (t) L (st)) (kf : x < y → z_V p l e R s m args below meth c Q D A N ad nL S Y cells slots (pc + 3) L (st)) : z_V p l e R s m args below meth c Q D A N ad nL S Y cells slots (pc) L (z_v y :: z_v x :: st) := by
  intro H locs ls hR hS hl
  exact lv_icmp_ge C.1 C.2.1 hd ht (fun h => kt ((z_le hy hx).mp h) H locs ls hR hS hl) (fun h => kf (Int.not_le.mp (fun g => h ((z_le hy hx).mpr g))) H locs ls hR hS hl)
theorem z_if_ge (C : z_C p s m args meth c cc nL own D A ks) {x o : Int} {t : Nat} (hd : decode cc pc = .ok (.ifCond .ge o, 3)) (ht : (pc : Int) + o = (t : Int)) (hx : z_rg x) (kt : 0 ≤ x → z_V p l e R s m args below meth c Q D A N ad nL S Y cells slots (t) L (st)) (kf : x < 0 → z_V p l e R s m args below meth c Q D A N ad nL S Y cells slots (pc + 3) L (st)) : z_V p l e R s m args below meth c Q D A N ad nL S Y cells slots (pc) L (z_v x :: st) := by
  intro H locs ls hR hS hl
  exact lv_if_ge C.1 C.2.1 hd ht (fun h => kt ((z_le z_rg0 hx).mp h) H locs ls hR hS hl) (fun h => kf (Int.not_le.mp (fun g => h ((z_le z_rg0 hx).mpr g))) H locs ls hR hS hl)
theorem z_icmp_gt (C : z_C p s m args meth c cc nL own D A ks) {x y o : Int} {t : Nat} (hd : decode cc pc = .ok (.if_icmp .gt o, 3)) (ht : (pc : Int) + o = (t : Int)) (hx : z_rg x) (hy : z_rg y) (kt : y < x → z_V p l e R s m args below meth c Q D A N ad nL S Y cells slots (t) L (st)) (kf : x ≤ y → z_V p l e R s m args below meth c Q D A N ad nL S Y cells slots (pc + 3) L (st)) : z_V p l e R s m args below meth c Q D A N ad nL S Y cells slots (pc) L (z_v y :: z_v x :: st) := by
  intro H locs ls hR hS hl
  exact lv_icmp_gt C.1 C.2.1 hd ht (fun h => kt ((z_lt hy hx).mp h) H locs ls hR hS hl) (fun h => kf (Int.not_lt.mp (fun g => h ((z_lt hy hx).mpr g))) H locs ls hR hS hl)
theorem z_if_gt (C : z_C p s m args meth c cc nL own D A ks) {x o : Int} {t : Nat} (hd : decode cc pc = .ok (.ifCond .gt o, 3)) (ht : (pc : Int) + o = (t : Int)) (hx : z_rg x) (kt : 0 < x → z_V p l e R s m args below meth c Q D A N ad nL S Y cells slots (t) L (st)) (kf : x ≤ 0 → z_V p l e R s m args below meth c Q D A N ad nL S Y cells slots (pc + 3) L (st)) : z_V p l e R s m args below meth c Q D A N ad nL S Y cells slots (pc) L (z_v x :: st) := by
  intro H locs ls hR hS hl
  exact lv_if_gt C.1 C.2.1 hd ht (fun h => kt ((z_lt z_rg0 hx).mp h) H locs ls hR hS hl) (fun h => kf (Int.not_lt.mp (fun g => h ((z_lt z_rg0 hx).mpr g))) H locs ls hR hS hl)
theorem z_icmp_le (C : z_C p s m args meth c cc nL own D A ks) {x y o : Int} {t : Nat} (hd : decode cc pc = .ok (.if_icmp .le o, 3)) (ht : (pc : Int) + o = (t : Int)) (hx : z_rg x) (hy : z_rg y) (kt : x ≤ y → z_V p l e R s m args below meth c Q D A N ad nL S Y cells slots (t) L (st)) (kf : y < x → z_V p l e R s m args below meth c Q D A N ad nL S Y cells slots (pc + 3) L (st)) : z_V p l e R s m args below meth c Q D A N ad nL S Y cells slots (pc) L (z_v y :: z_v x :: st) := by
  intro H locs ls hR hS hl
  exact lv_icmp_le C.1 C.2.1 hd ht (fun h => kt ((z_le hx hy).mp h) H locs ls hR hS hl) (fun h => kf (Int.not_le.mp (fun g => h ((z_le hx hy).mpr g))) H locs ls hR hS hl)
theorem z_if_le (C : z_C p s m args meth c cc nL own D A ks) {x o : Int} {t : Nat} (hd : decode cc pc = .ok (.ifCond .le o, 3)) (ht : (pc : Int) + o = (t : Int)) (hx : z_rg x) (kt : x ≤ 0 → z_V p l e R s m args below meth c Q D A N ad nL S Y cells slots (t) L (st)) (kf : 0 < x → z_V p l e R s m args below meth c Q D A N ad nL S Y cells slots (pc + 3) L (st)) : z_V p l e R s m args below meth c Q D A N ad nL S Y cells slots (pc) L (z_v x :: st) := by
  intro H locs ls hR hS hl
  exact lv_if_le C.1 C.2.1 hd ht (fun h => kt ((z_le hx z_rg0).mp h) H locs ls hR hS hl) (fun h => kf (Int.not_le.mp (fun g => h ((z_le hx z_rg0).mpr g))) H locs ls hR hS hl)
theorem z_ifnull (C : z_C p s m args meth c cc nL own D A ks) {q : Nat} {o : Int} (hd : decode cc pc = .ok (.ifnull o, 3)) (k : z_V p l e R s m args below meth c Q D A N ad nL S Y cells slots (pc + 3) L (st)) : z_V p l e R s m args below meth c Q D A N ad nL S Y cells slots (pc) L (.ref q :: st) := by
  intro H locs ls hR hS hl
  exact lv_ifnull C.1 C.2.1 hd (k H locs ls hR hS hl)
theorem z_ifnullN (C : z_C p s m args meth c cc nL own D A ks) {o : Int} {t : Nat} (hd : decode cc pc = .ok (.ifnull o, 3)) (ht : (pc : Int) + o = (t : Int)) (k : z_V p l e R s m args below meth c Q D A N ad nL S Y cells slots (t) L (st)) : z_V p l e R s m args below meth c Q D A N ad nL S Y cells slots (pc) L (.null :: st) := by
  intro H locs ls hR hS hl
  exact lv_ifnullN C.1 C.2.1 hd ht (k H locs ls hR hS hl)
theorem z_ifnonnull (C : z_C p s m args meth c cc nL own D A ks) {q : Nat} {o : Int} {t : Nat} (hd : decode cc pc = .ok (.ifnonnull o, 3)) (ht : (pc : Int) + o = (t : Int)) (k : z_V p l e R s m args below meth c Q D A N ad nL S Y cells slots (t) L (st)) : z_V p l e R s m args below meth c Q D A N ad nL S Y cells slots (pc) L (.ref q :: st) := by
  intro H locs ls hR hS hl
  exact lv_ifnonnull C.1 C.2.1 hd ht (k H locs ls hR hS hl)
theorem z_ifnonnullN (C : z_C p s m args meth c cc nL own D A ks) {o : Int} (hd : decode cc pc = .ok (.ifnonnull o, 3)) (k : z_V p l e R s m args below meth c Q D A N ad nL S Y cells slots (pc + 3) L (st)) : z_V p l e R s m args below meth c Q D A N ad nL S Y cells slots (pc) L (.null :: st) := by
  intro H locs ls hR hS hl
  exact lv_ifnonnullN C.1 C.2.1 hd (k H locs ls hR hS hl)
theorem z_tabOut (C : z_C p s m args meth c cc nL own D A ks) {d lo hi x : Int} {os : Array Int} {n t : Nat} (hd : decode cc pc = .ok (.tableswitch d lo hi os, n)) (hx : z_rg x) (h : x < lo ∨ hi < x) (ht : (pc : Int) + d = (t : Int)) (k : z_V p l e R s m args below meth c Q D A N ad nL S Y cells slots (t) L (st)) : z_V p l e R s m args below meth c Q D A N ad nL S Y cells slots (pc) L (z_v x :: st) := by
  intro H locs ls hR hS hl
  exact lv_tableOut C.1 C.2.1 hd (by rw [z_to hx]; exact h) ht (k H locs ls hR hS hl)
theorem z_tabIn (C : z_C p s m args meth c cc nL own D A ks) {d lo hi o : Int} (x : Int) {os : Array Int} {n t : Nat} (hd : decode cc pc = .ok (.tableswitch d lo hi os, n)) (hx : z_rg x) (h1 : ¬ x < lo) (h2 : ¬ hi < x) (ho : os[(x - lo).toNat]? = some o) (ht : (pc : Int) + o = (t : Int)) (k : z_V p l e R s m args below meth c Q D A N ad nL S Y cells slots (t) L (st)) : z_V p l e R s m args below meth c Q D A N ad nL S Y cells slots (pc) L (z_v x :: st) := by
  intro H locs ls hR hS hl
  exact lv_tableIn C.1 C.2.1 hd (by rw [z_to hx]; exact h1) (by rw [z_to hx]; exact h2) (by rw [z_to hx]; exact ho) ht (k H locs ls hR hS hl)
theorem z_look (C : z_C p s m args meth c cc nL own D A ks) {d o x : Int} {ps : Array (Int × Int)} {n t : Nat} (hd : decode cc pc = .ok (.lookupswitch d ps, n)) (hp : (ps.toList.zip (ps.toList.drop 1)).all (fun (a, next) => a.1 < next.1) = true) (hx : z_rg x) (ho : Op.lookupswitch.offset ps.toList d x = o) (ht : (pc : Int) + o = (t : Int)) (k : z_V p l e R s m args below meth c Q D A N ad nL S Y cells slots (t) L (st)) : z_V p l e R s m args below meth c Q D A N ad nL S Y cells slots (pc) L (z_v x :: st) := by
  intro H locs ls hR hS hl
  exact lv_lookup C.1 C.2.1 hd hp (by rw [z_to hx]; exact ho) ht (k H locs ls hR hS hl)
end ZROWS
end
section
section ZW
variable {p : Program} {l : Launch} {e : Env} {R : Room} {s : State} {m : MethodId} {args : Array Value} {below : List Frame} {meth : Method} {c : Code} {Q : State → Prop} {H : Heap} {locs : List Loc} {cells slots pc a : Nat} {ls : Array Slot} {rest : List Value} {cc : ByteArray} {D : va_G} {cl : List vw_C} {tys : List (ClassId × FieldType)}
/-- putfield, with what it leaves alone -/
theorem z_Wput (hexec : p.tables.exec = Jvm.exec) (hb : c.code = cc) {own C : String} {T : u_T} {N ci index : Nat} {Ts : List Cond} (hts : ∀ w ∈ Ts, w.before args s = true) (hin : ∀ w ∈ u_ws C T N, w ∈ Ts) (ty0 : Nat → FieldType) (hty : ∀ k, k < N → parseFieldDescriptor (T k).2.2.1 = some (ty0 k)) (hnm : ∀ a, a < N → ∀ b, b < N → a ≠ b → (T a).2.1 ≠ (T b).2.1) (hown : s.vm.findClass own = some m.cls) (hK : va_K D cl tys s) {fs : List Value} (hP : va_at D cl (a, .inr (ci, fs)) H) (hc : cl[ci]? = some (C, T, N)) (k : Nat) (hk : k < N) (hlink : (Cond.fieldLink own index (T k).1 (T k).2.1 (T k).2.2.1).before args s = true) (hfin : (T k).2.2.2 = false ∨ ((T k).2.2.2 = true ∧ meth.name = "<init>" ∧ (T k).1 = own)) {ty : FieldType} {v : Value} (hd : parseFieldDescriptor (T k).2.2.1 = some ty) (hn : narrow ty v = v) (hfit : fits ty v = true) (hl : k < fs.length)
    (hdg : decode cc pc = .ok (.putfield index, 3)) (kk : ∀ (H1 : Heap) (j : Nat), va_at D cl (a, .inr (ci, fs.set k v)) H1 → H1.size = H.size → (∀ q : Nat, q ≠ a → H1[q]? = H[q]?) → W p l e R s m args below meth c H1 (locs ++ [⟨a, j⟩]) cells slots Q (F0 m (pc + 3) ls rest)) : W p l e R s m args below meth c H locs cells slots Q (F0 m pc ls (v :: .ref a :: rest)) := by
  have hap := va_apart (own := own) hts hin ty0 hty hnm hK hc
  obtain ⟨r, h1, cell, q1, q2, q3, q4⟩ := hP
  have hr : r = (C, T, N) := Option.some.inj (h1.symm.trans hc)
  subst hr
  obtain ⟨hS, hfc, kC, hkC, hkind⟩ := hK.1 ci _ hc
  obtain ⟨cf, kf, fi, f, hi, hsl⟩ := hS k hk
  have hlay := hts _ (hin _ (u_in_lay hk))
  have hst := (u_facts hfc hkC (u_lays hts hin hk) hi).1
  unfold u_lay at hlay
  rcases hfin with hfin | ⟨hfin, hin2, hdecl⟩
  · rw [if_neg (by rw [hfin]; decide)] at hlay
    have h6 := u_store hfc hkC hkind hlay hi hd hn hfit
    refine W.putK hexec hb (f := f) ⟨hown, hlink, ⟨_, _, _, hi⟩, hst⟩ (by rw [q2]; exact h6) q1 q3 (by rw [hsl]; exact k2_hasslot (q4 k hk)) rfl rfl hdg fun H' e1 e2 e3 => ?_
    rw [hsl] at e1 ⊢
    exact kk H' _ ⟨_, hc, t_OB.to (V := updV (vp_V fs) k v) ⟨_, e1, q2, q3, t_set q4 hap hk v⟩ (fun j _ => vp_updV_set hl v j)⟩ e2 e3
  · rw [if_pos hfin] at hlay
    have hcf : m.cls = cf := by
      obtain ⟨_, _, c', _, _, _, -, -, hf', -, -, -, hown2, -⟩ := Cond.laysFinal_spec hlay
      have e1 : c' = cf := by have := hi.symm.trans hf'; simp at this; exact this.1.symm
      rw [hdecl] at hown2
      rw [← e1]; exact Option.some.inj (hown.symm.trans hown2)
    have h6 := u_fits hfc hkC hkind (Or.inr hlay) hi hd hn hfit
    refine W.putFinK hexec hb hown hlink hi hst hcf hin2 (by rw [q2]; exact h6) q1 q3 (by rw [hsl]; exact k2_hasslot (q4 k hk)) rfl rfl hdg fun H' e1 e2 e3 => ?_
    rw [hsl] at e1 ⊢
    exact kk H' _ ⟨_, hc, t_OB.to (V := updV (vp_V fs) k v) ⟨_, e1, q2, q3, t_set q4 hap hk v⟩ (fun j _ => vp_updV_set hl v j)⟩ e2 e3
theorem z_Wiast (hexec : p.tables.exec = Jvm.exec) (hb : c.code = cc) (hK : va_K D cl tys s) (t0 : Nat) {cA : ClassId} {n : Nat} {f : Nat → Int32} (hP : va_at D cl (a, .inl (cA, n, .inl f)) H) (ht : tys[t0]? = some (cA, .int)) {i : Int32} {x : Int32} (hin : vp_in i n) (hdg : decode cc pc = .ok (.iastore, 1))
    (kk : ∀ (H1 : Heap) (j : Nat), va_at D cl (a, .inl (cA, n, .inl (upd f i.toNatClampNeg x))) H1 → H1.size = H.size → (∀ q : Nat, q ≠ a → H1[q]? = H[q]?) → W p l e R s m args below meth c H1 (locs ++ [⟨a, j⟩]) cells slots Q (F0 m (pc + 1) ls rest)) : W p l e R s m args below meth c H locs cells slots Q (F0 m pc ls (.int x :: .int i :: .ref a :: rest)) := by
  refine W.iast hexec hb hP ((hK.2 t0 _ ht).1 n (fun j => .int (f j))) (fun q => by cases q) (by show ¬ (i < 0 ∨ (arrV _ _ _).slots.size ≤ _); rw [arrV_size]; exact hin) rfl rfl hdg fun H1 e z oq => ?_
  refine kk H1 _ ?_ z oq
  show H1[a]? = some (vp_cell _ _)
  rw [e]
  rw [vp_cell_i, vp_cell_i, arrV_store]
  congr 2
  funext q
  by_cases hq : q = i.toNatClampNeg
  · subst hq
    simp [updV, upd]
  · simp [updV, upd, hq]
theorem z_Waast (hexec : p.tables.exec = Jvm.exec) (hb : c.code = cc) (hK : va_K D cl tys s) (t0 ci : Nat) {cA : ClassId} {r : vw_C} {n v : Nat} {vs : List Value} {f : Nat → Option Nat} (hP : va_at D cl (a, .inl (cA, n, .inr (.inr (.inr (.inr f))))) H) (ht : tys[t0]? = some (cA, .object r.1)) (hv : va_at D cl (v, .inr (ci, vs)) H) (hc : cl[ci]? = some r) {i : Int32} (hin : vp_in i n) (hdg : decode cc pc = .ok (.aastore, 1))
    (kk : ∀ (H1 : Heap) (j : Nat), va_at D cl (a, .inl (cA, n, .inr (.inr (.inr (.inr (va_up f i.toNatClampNeg (some v))))))) H1 → H1.size = H.size → (∀ q : Nat, q ≠ a → H1[q]? = H[q]?) → W p l e R s m args below meth c H1 (locs ++ [⟨a, j⟩]) cells slots Q (F0 m (pc + 1) ls rest)) : W p l e R s m args below meth c H locs cells slots Q (F0 m pc ls (.ref v :: .int i :: .ref a :: rest)) := by
  have hlt : i.toNatClampNeg < n := Nat.not_le.mp fun q => hin (Or.inr q)
  have h0 : ¬ i < 0 := fun q => hin (Or.inl q)
  obtain ⟨r', hr', cellV, g1, g2, g3, -⟩ := hv
  have hcls := (hK.1 ci r hc).2
  obtain ⟨kA, comp, k1, k2, k3, -⟩ := (hK.2 t0 _ ht).2
  have hcomp : comp = D.1 ci := Option.some.inj (k3.symm.trans hcls.1)
  subst hcomp
  obtain ⟨kC, hkC, -⟩ := hcls.2
  refine W.aast hexec hb hP (fun q h => by cases h) (fun h => by cases h) k1 k2 rfl hkC ⟨h0, by show _ < (arrV _ _ _).slots.size; rw [arrV_size]; exact hlt⟩ g1 (fun q h => by rw [g3] at h; cases h) (by rw [g2]; exact hkC) (by rw [g2]; exact va_assign hcls) rfl rfl hdg fun H1 e z oq => ?_
  refine kk H1 _ ?_ z oq
  show H1[a]? = some (vp_cell _ _)
  rw [e]
  rw [vp_cell_q, vp_cell_q, arrV_store]
  congr 2
  funext q
  by_cases hq : q = i.toNatClampNeg
  · subst hq
    simp [updV, va_up, va_rf]
  · simp [updV, va_up, hq]
theorem z_Wcopy (hexec : p.tables.exec = Jvm.exec) (hb : c.code = cc) (hml : c.maxLocals = ls.size) {own : String} {index : Nat} (hown : s.vm.findClass own = some m.cls) (hlink : (Cond.methodLink own index arraycopyName).before args s = true) (hnat : (Cond.native arraycopyName).before args s = true) (hstat : (Cond.static arraycopyName).before args s = true) (hini : (Cond.initialized "java/lang/System").before args s = true)
    (hK : va_K D cl tys s) (t0 : Nat) {a0 : Nat} {c0 : ClassId} {n0 n1 : Nat} {f g : Nat → Int32} (hc0 : va_at D cl (a0, .inl (c0, n0, .inl f)) H) (hc1 : va_at D cl (a, .inl (c0, n1, .inl g)) H) (ht0 : tys[t0]? = some (c0, .int))
    {sp dp n : Int32} (h1 : ¬ sp < 0) (h2 : ¬ dp < 0) (h3 : ¬ n < 0) (h4 : sp.toNatClampNeg + n.toNatClampNeg ≤ n0) (h5 : dp.toNatClampNeg + n.toNatClampNeg ≤ n1)
    (hframes : 1 ≤ R.frames) (hlocals : (rest.map fun v => v.category).sum + (nativeFrameWords "java/lang/System" "arraycopy" 5 + 11) ≤ R.locals) (hdg : decode cc pc = .ok (.invokestatic index, 3))
    (kk : ∀ (H1 : Heap) (lo : List Loc), (∀ q ∈ lo, q.base = a) → va_at D cl (a, .inl (c0, n1, .inl (va_cpy f g sp.toNatClampNeg dp.toNatClampNeg n.toNatClampNeg))) H1 → H1.size = H.size → (∀ q : Nat, q ≠ a → H1[q]? = H[q]?) → W p l e R s m args below meth c H1 (locs ++ lo) cells slots Q (F0 m (pc + 3) ls rest)) : W p l e R s m args below meth c H locs cells slots Q (F0 m pc ls (.int n :: .int dp :: .ref a :: .int sp :: .ref a0 :: rest)) := by
  have nn : ∀ z : Int32, ¬ z < 0 → z.toInt = (z.toNatClampNeg : Int) := by
    intro z hz
    have hz0 : (0 : Int) ≤ z.toInt := by
      have := Int32.not_lt.mp hz
      simpa using Int32.le_iff_toInt_le.mp this
    show z.toInt = ((z.toInt.toNat : Nat) : Int)
    omega
  intro T hT X
  have hc0 : H[a0]? = some (vp_cell c0 (n0, .inl f)) := hc0
  have hc1 : H[a]? = some (vp_cell c0 (n1, .inl g)) := hc1
  obtain ⟨-, k0, hk0, cm0, hkk0⟩ := (hK.2 t0 _ ht0).1 n0 (fun j => .int (f j))
  obtain ⟨-, k1, hk1, cm1, hkk1⟩ := (hK.2 t0 _ ht0).1 n1 (fun j => .int (g j))
  obtain ⟨vm', X', step⟩ := X.arraycopy hexec hown hlink hnat hstat hini (src := a0) (dst := a) (cs := vp_cell c0 (n0, .inl f)) (cd := vp_cell c0 (n1, .inl g)) (srcPos := sp) (destPos := dp) (n := n) (by rw [hT]; exact hc0) (by rw [hT]; exact hc1)
    (fun _ h => by cases h) (fun _ h => by cases h) (fun h => by cases h) (fun h => by cases h) hk0 hk1 hkk0 hkk1 (by simp [refKind]) h1 h2 h3
    (by rw [nn sp h1, nn n h3]; show ¬ _ > ((arrV c0 n0 (fun j => .int (f j))).slots.size : Int); rw [arrV_size]; omega)
    (by rw [nn dp h2, nn n h3]; show ¬ _ > ((arrV c0 n1 (fun j => .int (g j))).slots.size : Int); rw [arrV_size]; omega)
    (fun vm₁ _ i hi => by
      have e : (vp_cell c0 (n0, .inl f)).slots.getD (sp.toNatClampNeg + i) .null = .int (f (sp.toNatClampNeg + i)) := by
        show (arrV c0 n0 (fun j => .int (f j))).slots.getD _ _ = _
        rw [Array.getD_eq_getD_getElem?, arrV_read _ _ (by omega)]
        rfl
      refine ⟨?_, ?_⟩
      · rw [e]
        rfl
      · rw [e]
        exact trivial)
    (g := F0 m pc ls (.int n :: .int dp :: .ref a :: .int sp :: .ref a0 :: rest)) rfl (by rw [hml]) (rest := rest) rfl (by rw [hb]; exact hdg) hframes (by show 2 * 0 + _ + _ ≤ _; omega)
  have e1 : copied (vp_cell c0 (n0, .inl f)) (vp_cell c0 (n1, .inl g)) sp dp n = vp_cell c0 (n1, .inl (va_cpy f g sp.toNatClampNeg dp.toNatClampNeg n.toNatClampNeg)) := va_copied (fun z => .int z) c0 c0 f g h4
  rw [e1] at X' step
  have hl : a < H.size := (Array.getElem?_eq_some_iff.mp hc1).1
  have hheap : ((T.setVm vm').setCell a (vp_cell c0 (n1, .inl (va_cpy f g sp.toNatClampNeg dp.toNatClampNeg n.toNatClampNeg)))).heap = H.setIfInBounds a (vp_cell c0 (n1, .inl (va_cpy f g sp.toNatClampNeg dp.toNatClampNeg n.toNatClampNeg))) := by rw [← hT]; rfl
  have oq : ∀ q : Nat, q ≠ a → (H.setIfInBounds a (vp_cell c0 (n1, .inl (va_cpy f g sp.toNatClampNeg dp.toNatClampNeg n.toNatClampNeg))))[q]? = H[q]? := fun q hq => by simp [Array.getElem?_setIfInBounds, Ne.symm hq]
  obtain ⟨t, a1, b1⟩ := kk _ _ (fun q hq => by
      obtain ⟨z, -, hz⟩ := List.mem_map.mp hq
      rw [← hz]) (show (H.setIfInBounds a _)[a]? = some _ by simp [Array.getElem?_setIfInBounds, hl]) (by simp) oq _ hheap X'
  exact ⟨t, step t a1, b1⟩
end ZW
theorem z_S.put {A : Nat → Prop} {H0 H H1 : Heap} {locs lo : List Loc} {a : Nat} (h : va_S A H0 H locs) (z : H1.size = H.size) (oq : ∀ q : Nat, q ≠ a → H1[q]? = H[q]?) (ha : A a) (hlo : ∀ q ∈ lo, q.base = a) : va_S A H0 H1 (locs ++ lo) := by
  refine ⟨by rw [z]; exact h.1, fun q h1 h2 => ?_, fun q hq => ?_⟩
  · rw [oq q (fun e => h2 (by rw [e]; exact ha))]
    exact h.2.1 q h1 h2
  · rcases List.mem_append.mp hq with h1 | h1
    · exact h.2.2 q h1
    · rw [hlo q h1]
      exact ha
theorem z_S.new {A : Nat → Prop} {H0 H H1 : Heap} {locs : List Loc} (h : va_S A H0 H locs) (z : H1.size = H.size + 1) (oq : ∀ q : Nat, q < H.size → H1[q]? = H[q]?) : va_S A H0 H1 locs :=
  ⟨Nat.le_trans h.1 (by omega), fun x h1 h2 => (oq x (Nat.lt_of_lt_of_le h1 h.1)).trans (h.2.1 x h1 h2), h.2.2⟩
theorem z_updI (f : Nat → Int) (i x : Int) (h0 : 0 ≤ i) (h : i < 2147483648) : upd (fun j => z_i (f j)) (z_i i).toNatClampNeg (z_i x) = fun j => z_i (va_up f i.toNat x j) := by
  funext j
  rw [z_cl0 h0 h]
  by_cases hj : j = i.toNat <;> simp [upd, va_up, hj]
theorem z_one {α : Type} {a : α} : ∀ q ∈ [a], q = a := fun q h => List.mem_singleton.mp h
end
section
section ZHEAP
variable {p : Program} {l : Launch} {e : Env} {R : Room} {s : State} {m : MethodId} {args : Array Value} {below : List Frame} {meth : Method} {c : Code} {Q : State → Prop} {D : va_G} {A : Nat → Prop} {N : Nat} {ad : Nat → Nat} {nL : Nat} {S S' : Nat → va_E} {Y Y' : Nat → Option va_E} {cells slots pc : Nat} {L : List (Nat × Value)} {st : List Value} {cc : ByteArray} {own : String} {ks : z_Ks}
theorem z_ext (h : ∀ k, k < N → S k = S' k) (k : z_V p l e R s m args below meth c Q D A N ad nL S' Y cells slots pc L st) : z_V p l e R s m args below meth c Q D A N ad nL S Y cells slots pc L st := fun H locs ls hR hS hl => k H locs ls (hR.ext h) hS hl
theorem z_wide {k n : Nat} (h1 : cells ≤ k) (h2 : slots ≤ n) (kk : z_V p l e R s m args below meth c Q D A N ad nL S Y k n pc L st) : z_V p l e R s m args below meth c Q D A N ad nL S Y cells slots pc L st := fun H locs ls hR hS hl => W.widen h1 h2 (kk H locs ls hR hS hl)
/-- fewer locals, in another order -/
theorem z_loc {L' : List (Nat × Value)} (is : List Nat) (h : lv_pick L is = L') (k : z_V p l e R s m args below meth c Q D A N ad nL S Y cells slots pc L' st) : z_V p l e R s m args below meth c Q D A N ad nL S Y cells slots pc L st := fun H locs ls hR hS hl => k H locs ls hR hS (lv_sub hl is h)
/-- a field of a numbered cell -/
theorem z_get (C : z_C p s m args meth c cc nL own D A ks) {r : vw_C} {ci idx : Nat} {fs : List Value} {v : Value} {nm ds rf : String} (k : Nat) (hk : k < N) (he : S k = .inr (ci, fs)) (hc : z_cl[ci]? = some r) (hin : ∀ w ∈ u_ws r.1 r.2.1 r.2.2, w ∈ z_tbl) (j : Nat) (hj : j < r.2.2) (hT : ((r.2.1 j).1, (r.2.1 j).2.1, (r.2.1 j).2.2.1) = (rf, nm, ds)) (hlink : Cond.fieldLink own idx rf nm ds ∈ z_tbl) (hv : fs[j]? = some v) (hd : decode cc pc = .ok (.getfield idx, 3))
    (kk : z_V p l e R s m args below meth c Q D A N ad nL S Y cells slots (pc + 3) L (v :: st)) : z_V p l e R s m args below meth c Q D A N ad nL S Y cells slots pc L (.ref (ad k) :: st) := by
  intro H locs ls hR hS hl
  obtain ⟨hP, hD⟩ := hR.one hk
  rw [he] at hP
  obtain ⟨C0, T, n⟩ := r
  simp only [Prod.mk.injEq] at hT
  obtain ⟨rfl, rfl, rfl⟩ := hT
  exact va_get (Ts := z_tbl) C.1 C.2.1 C.2.2.2.2.1 hin C.2.2.2.1 C.2.2.2.2.2.1 hP 0 rfl hc j hj (C.2.2.2.2.1 _ hlink) (fun x h => h) hv hd (kk H locs ls hR hS hl)
/-- a field of a further cell -/
theorem z_getY (C : z_C p s m args meth c cc nL own D A ks) {r : vw_C} {ci idx q : Nat} {fs : List Value} {v : Value} {nm ds rf : String} (he : Y q = some (.inr (ci, fs))) (hc : z_cl[ci]? = some r) (hin : ∀ w ∈ u_ws r.1 r.2.1 r.2.2, w ∈ z_tbl) (j : Nat) (hj : j < r.2.2) (hT : ((r.2.1 j).1, (r.2.1 j).2.1, (r.2.1 j).2.2.1) = (rf, nm, ds)) (hlink : Cond.fieldLink own idx rf nm ds ∈ z_tbl) (hv : fs[j]? = some v) (hd : decode cc pc = .ok (.getfield idx, 3))
    (kk : z_V p l e R s m args below meth c Q D A N ad nL S Y cells slots (pc + 3) L (v :: st)) : z_V p l e R s m args below meth c Q D A N ad nL S Y cells slots pc L (.ref q :: st) := by
  intro H locs ls hR hS hl
  obtain ⟨hP, hD⟩ := hR.dyn he
  obtain ⟨C0, T, n⟩ := r
  simp only [Prod.mk.injEq] at hT
  obtain ⟨rfl, rfl, rfl⟩ := hT
  exact va_get (Ts := z_tbl) C.1 C.2.1 C.2.2.2.2.1 hin C.2.2.2.1 C.2.2.2.2.2.1 hP 0 rfl hc j hj (C.2.2.2.2.1 _ hlink) (fun x h => h) hv hd (kk H locs ls hR hS hl)
theorem z_put (C : z_C p s m args meth c cc nL own D A ks) {r : vw_C} {ci idx : Nat} {fs : List Value} {v : Value} {nm ds rf : String} {ty : FieldType} {fin : Bool} (k : Nat) (hk : k < N) (he : S k = .inr (ci, fs)) (hc : z_cl[ci]? = some r) (hin : ∀ w ∈ u_ws r.1 r.2.1 r.2.2, w ∈ z_tbl) (ty0 : Nat → FieldType) (hty : ∀ k, k < r.2.2 → parseFieldDescriptor (r.2.1 k).2.2.1 = some (ty0 k)) (hnm : ∀ a, a < r.2.2 → ∀ b, b < r.2.2 → a ≠ b → (r.2.1 a).2.1 ≠ (r.2.1 b).2.1) (j : Nat) (hj : j < r.2.2) (hT : r.2.1 j = (rf, nm, ds, fin)) (hf : fin = false ∨ (fin = true ∧ meth.name = "<init>" ∧ rf = own)) (hlink : Cond.fieldLink own idx rf nm ds ∈ z_tbl) (hdt : parseFieldDescriptor ds = some ty) (hn : narrow ty v = v) (hfit : fits ty v = true) (hl0 : j < fs.length) (hd : decode cc pc = .ok (.putfield idx, 3))
    (kk : z_V p l e R s m args below meth c Q D A N ad nL (va_up S k (.inr (ci, fs.set j v))) Y cells slots (pc + 3) L st) : z_V p l e R s m args below meth c Q D A N ad nL S Y cells slots pc L (v :: .ref (ad k) :: st) := by
  intro H locs ls hR hS hl
  obtain ⟨C0, T, n⟩ := r
  have hT : T j = (rf, nm, ds, fin) := hT
  have hcell := (hR.1 k hk).2
  rw [he] at hcell
  refine z_Wput (Ts := z_tbl) (T := T) (C := C0) (N := n) (ty := ty) C.1 C.2.1 C.2.2.2.2.1 hin ty0 hty hnm C.2.2.2.1 C.2.2.2.2.2.1 hcell hc j hj (by rw [hT]; exact C.2.2.2.2.1 _ hlink) (by rw [hT]; exact hf) (by rw [hT]; exact hdt) hn hfit hl0 hd ?_
  intro H1 i he1 z oq
  exact kk H1 _ ls (hR.put hk he1 oq) (z_S.put hS z oq (hR.1 k hk).1 (fun q h => by rw [z_one q h])) hl
theorem z_putY (C : z_C p s m args meth c cc nL own D A ks) {r : vw_C} {ci idx q : Nat} {fs : List Value} {v : Value} {nm ds rf : String} {ty : FieldType} {fin : Bool} (he : Y q = some (.inr (ci, fs))) (hc : z_cl[ci]? = some r) (hin : ∀ w ∈ u_ws r.1 r.2.1 r.2.2, w ∈ z_tbl) (ty0 : Nat → FieldType) (hty : ∀ k, k < r.2.2 → parseFieldDescriptor (r.2.1 k).2.2.1 = some (ty0 k)) (hnm : ∀ a, a < r.2.2 → ∀ b, b < r.2.2 → a ≠ b → (r.2.1 a).2.1 ≠ (r.2.1 b).2.1) (j : Nat) (hj : j < r.2.2) (hT : r.2.1 j = (rf, nm, ds, fin)) (hf : fin = false ∨ (fin = true ∧ meth.name = "<init>" ∧ rf = own)) (hlink : Cond.fieldLink own idx rf nm ds ∈ z_tbl) (hdt : parseFieldDescriptor ds = some ty) (hn : narrow ty v = v) (hfit : fits ty v = true) (hl0 : j < fs.length) (hd : decode cc pc = .ok (.putfield idx, 3))
    (kk : z_V p l e R s m args below meth c Q D A N ad nL S (va_up Y q (some (.inr (ci, fs.set j v)))) cells slots (pc + 3) L st) : z_V p l e R s m args below meth c Q D A N ad nL S Y cells slots pc L (v :: .ref q :: st) := by
  intro H locs ls hR hS hl
  obtain ⟨C0, T, n⟩ := r
  have hT : T j = (rf, nm, ds, fin) := hT
  have hcell := hR.2.2 q _ he
  refine z_Wput (Ts := z_tbl) (T := T) (C := C0) (N := n) (ty := ty) C.1 C.2.1 C.2.2.2.2.1 hin ty0 hty hnm C.2.2.2.1 C.2.2.2.2.2.1 hcell.2.2 hc j hj (by rw [hT]; exact C.2.2.2.2.1 _ hlink) (by rw [hT]; exact hf) (by rw [hT]; exact hdt) hn hfit hl0 hd ?_
  intro H1 i he1 z oq
  exact kk H1 _ ls (hR.putY he he1 oq) (z_S.put hS z oq hcell.1 (fun q h => by rw [z_one q h])) hl
/-- int arrays -/
theorem z_iald (C : z_C p s m args meth c cc nL own D A ks) {n : Nat} {f : Nat → Int} {i : Int} (k : Nat) (hk : k < N) (he : S k = z_ar ks.1 n f) (hn : n < 2147483648) (h0 : 0 ≤ i) (h1 : i < n) (hd : decode cc pc = .ok (.iaload, 1))
    (kk : z_V p l e R s m args below meth c Q D A N ad nL S Y cells slots (pc + 1) L (z_v (f i.toNat) :: st)) : z_V p l e R s m args below meth c Q D A N ad nL S Y cells slots pc L (z_v i :: .ref (ad k) :: st) := by
  intro H locs ls hR hS hl
  obtain ⟨hP, hD⟩ := hR.one hk
  rw [he] at hP
  refine va_iald C.1 C.2.1 C.2.2.2.2.2.1 hP 0 0 rfl rfl (z_ix h0 h1 hn) hd ?_
  rw [z_cl0 h0 (by omega)]
  exact kk H locs ls hR hS hl
theorem z_iast (C : z_C p s m args meth c cc nL own D A ks) {n : Nat} {f : Nat → Int} {i x : Int} (k : Nat) (hk : k < N) (he : S k = z_ar ks.1 n f) (hn : n < 2147483648) (h0 : 0 ≤ i) (h1 : i < n) (hd : decode cc pc = .ok (.iastore, 1))
    (kk : z_V p l e R s m args below meth c Q D A N ad nL (va_up S k (z_ar ks.1 n (va_up f i.toNat x))) Y cells slots (pc + 1) L st) : z_V p l e R s m args below meth c Q D A N ad nL S Y cells slots pc L (z_v x :: z_v i :: .ref (ad k) :: st) := by
  intro H locs ls hR hS hl
  have hcell := (hR.1 k hk).2
  rw [he] at hcell
  refine z_Wiast C.1 C.2.1 C.2.2.2.2.2.1 0 hcell rfl (z_ix h0 h1 hn) hd ?_
  intro H1 j he1 z oq
  rw [z_updI f i x h0 (by omega)] at he1
  exact kk H1 _ ls (hR.put hk he1 oq) (z_S.put hS z oq (hR.1 k hk).1 (fun q h => by rw [z_one q h])) hl
/-- arrays of references: numbered, and further ones -/
theorem z_aald (C : z_C p s m args meth c cc nL own D A ks) {cA : ClassId} {n : Nat} {g : Nat → Option Nat} {i : Int} {E : String} (k t0 : Nat) (hk : k < N) (he : S k = z_rr cA n g) (ht : (z_tys ks)[t0]? = some (cA, .object E)) (hn : n < 2147483648) (h0 : 0 ≤ i) (h1 : i < n) (hd : decode cc pc = .ok (.aaload, 1))
    (kk : z_V p l e R s m args below meth c Q D A N ad nL S Y cells slots (pc + 1) L (va_rf (g i.toNat) :: st)) : z_V p l e R s m args below meth c Q D A N ad nL S Y cells slots pc L (z_v i :: .ref (ad k) :: st) := by
  intro H locs ls hR hS hl
  obtain ⟨hP, hD⟩ := hR.one hk
  rw [he] at hP
  refine va_aldq C.1 C.2.1 C.2.2.2.2.2.1 hP 0 t0 rfl ht (z_ix h0 h1 hn) hd ?_
  rw [z_cl0 h0 (by omega)]
  exact kk H locs ls hR hS hl
theorem z_aaldY (C : z_C p s m args meth c cc nL own D A ks) {cA : ClassId} {n q : Nat} {g : Nat → Option Nat} {i : Int} {E : String} (t0 : Nat) (he : Y q = some (z_rr cA n g)) (ht : (z_tys ks)[t0]? = some (cA, .object E)) (hn : n < 2147483648) (h0 : 0 ≤ i) (h1 : i < n) (hd : decode cc pc = .ok (.aaload, 1))
    (kk : z_V p l e R s m args below meth c Q D A N ad nL S Y cells slots (pc + 1) L (va_rf (g i.toNat) :: st)) : z_V p l e R s m args below meth c Q D A N ad nL S Y cells slots pc L (z_v i :: .ref q :: st) := by
  intro H locs ls hR hS hl
  obtain ⟨hP, hD⟩ := hR.dyn he
  refine va_aldq C.1 C.2.1 C.2.2.2.2.2.1 hP 0 t0 rfl ht (z_ix h0 h1 hn) hd ?_
  rw [z_cl0 h0 (by omega)]
  exact kk H locs ls hR hS hl
theorem z_aast (C : z_C p s m args meth c cc nL own D A ks) {cA : ClassId} {n v ci : Nat} {g : Nat → Option Nat} {i : Int} {r : vw_C} {vs : List Value} (k t0 : Nat) (hk : k < N) (he : S k = z_rr cA n g) (ht : (z_tys ks)[t0]? = some (cA, .object r.1)) (hv : Y v = some (.inr (ci, vs))) (hc : z_cl[ci]? = some r) (hn : n < 2147483648) (h0 : 0 ≤ i) (h1 : i < n) (hd : decode cc pc = .ok (.aastore, 1))
    (kk : z_V p l e R s m args below meth c Q D A N ad nL (va_up S k (z_rr cA n (va_up g i.toNat (some v)))) Y cells slots (pc + 1) L st) : z_V p l e R s m args below meth c Q D A N ad nL S Y cells slots pc L (.ref v :: z_v i :: .ref (ad k) :: st) := by
  intro H locs ls hR hS hl
  have hcell := (hR.1 k hk).2
  rw [he] at hcell
  refine z_Waast C.1 C.2.1 C.2.2.2.2.2.1 t0 ci hcell ht (hR.2.2 v _ hv).2.2 hc (z_ix h0 h1 hn) hd ?_
  intro H1 j he1 z oq
  rw [z_cl0 h0 (by omega)] at he1
  exact kk H1 _ ls (hR.put hk he1 oq) (z_S.put hS z oq (hR.1 k hk).1 (fun q h => by rw [z_one q h])) hl
theorem z_aastY (C : z_C p s m args meth c cc nL own D A ks) {cA : ClassId} {n v ci q : Nat} {g : Nat → Option Nat} {i : Int} {r : vw_C} {vs : List Value} (t0 : Nat) (he : Y q = some (z_rr cA n g)) (ht : (z_tys ks)[t0]? = some (cA, .object r.1)) (hv : Y v = some (.inr (ci, vs))) (hc : z_cl[ci]? = some r) (hn : n < 2147483648) (h0 : 0 ≤ i) (h1 : i < n) (hd : decode cc pc = .ok (.aastore, 1))
    (kk : z_V p l e R s m args below meth c Q D A N ad nL S (va_up Y q (some (z_rr cA n (va_up g i.toNat (some v))))) cells slots (pc + 1) L st) : z_V p l e R s m args below meth c Q D A N ad nL S Y cells slots pc L (.ref v :: z_v i :: .ref q :: st) := by
  intro H locs ls hR hS hl
  have hcell := hR.2.2 q _ he
  refine z_Waast C.1 C.2.1 C.2.2.2.2.2.1 t0 ci hcell.2.2 ht (hR.2.2 v _ hv).2.2 hc (z_ix h0 h1 hn) hd ?_
  intro H1 j he1 z oq
  rw [z_cl0 h0 (by omega)] at he1
  exact kk H1 _ ls (hR.putY he he1 oq) (z_S.put hS z oq hcell.1 (fun q h => by rw [z_one q h])) hl
theorem z_alen (C : z_C p s m args meth c cc nL own D A ks) {cA : ClassId} {n : Nat} {a0 : vp_A} {ty : FieldType} (k t0 : Nat) (hk : k < N) (he : S k = .inl (cA, a0)) (hn0 : a0.1 = n) (ht : (z_tys ks)[t0]? = some (cA, ty)) (hd : decode cc pc = .ok (.arraylength, 1))
    (kk : z_V p l e R s m args below meth c Q D A N ad nL S Y cells slots (pc + 1) L (z_v n :: st)) : z_V p l e R s m args below meth c Q D A N ad nL S Y cells slots pc L (.ref (ad k) :: st) := by
  intro H locs ls hR hS hl
  obtain ⟨hP, hD⟩ := hR.one hk
  rw [he] at hP
  refine va_alen C.1 C.2.1 C.2.2.2.2.2.1 hP 0 t0 rfl ht (v := z_i n) (by rw [hn0]; exact (Int32.ofInt_eq_ofNat ..).symm) hd (kk H locs ls hR hS hl)
/-- System.arraycopy between numbered int arrays -/
theorem z_copy (C : z_C p s m args meth c cc nL own D A ks) {idx n0 n1 : Nat} {f g : Nat → Int} {sp dp n : Int} (k0 k1 : Nat) (hk0 : k0 < N) (hk1 : k1 < N) (he0 : S k0 = z_ar ks.1 n0 f) (he1 : S k1 = z_ar ks.1 n1 g) (hm : ∀ w ∈ [Cond.methodLink own idx arraycopyName, Cond.native arraycopyName, Cond.static arraycopyName, Cond.initialized "java/lang/System"], w ∈ z_tbl) (h1 : 0 ≤ sp) (h2 : 0 ≤ dp) (h3 : 0 ≤ n) (h4 : sp + n ≤ n0) (h5 : dp + n ≤ n1) (h6 : n0 < 2147483648) (h7 : n1 < 2147483648) (hfr : 1 ≤ R.frames) (hlo : (st.map fun v => v.category).sum + (nativeFrameWords "java/lang/System" "arraycopy" 5 + 11) ≤ R.locals) (hd : decode cc pc = .ok (.invokestatic idx, 3))
    (kk : z_V p l e R s m args below meth c Q D A N ad nL (va_up S k1 (z_ar ks.1 n1 (va_cpy f g sp.toNat dp.toNat n.toNat))) Y cells slots (pc + 3) L st) : z_V p l e R s m args below meth c Q D A N ad nL S Y cells slots pc L (z_v n :: z_v dp :: .ref (ad k1) :: z_v sp :: .ref (ad k0) :: st) := by
  intro H locs ls hR hS hl
  have hc0 := (hR.1 k0 hk0).2
  have hc1 := (hR.1 k1 hk1).2
  rw [he0] at hc0
  rw [he1] at hc1
  have nn : ∀ z : Int, 0 ≤ z → z < 2147483648 → ¬ z_i z < 0 := fun z h0 h1 q => by
    have := (z_lt (a := z) (b := 0) ⟨by omega, h1⟩ z_rg0).mp q
    omega
  refine z_Wcopy C.1 C.2.1 (C.2.2.1.trans hl.1.symm) C.2.2.2.1 (C.2.2.2.2.1 _ (hm _ (by simp))) (C.2.2.2.2.1 _ (hm _ (by simp))) (C.2.2.2.2.1 _ (hm _ (by simp))) (C.2.2.2.2.1 _ (hm _ (by simp))) C.2.2.2.2.2.1 0 hc0 hc1 rfl (nn _ h1 (by omega)) (nn _ h2 (by omega)) (nn _ h3 (by omega)) (by rw [z_cl0 h1 (by omega), z_cl0 h3 (by omega)]; omega) (by rw [z_cl0 h2 (by omega), z_cl0 h3 (by omega)]; omega) hfr hlo hd ?_
  intro H1 lo hlo he z oq
  rw [z_cl0 h1 (by omega), z_cl0 h2 (by omega), z_cl0 h3 (by omega)] at he
  have hf : va_cpy (fun j => z_i (f j)) (fun j => z_i (g j)) sp.toNat dp.toNat n.toNat = fun j => z_i (va_cpy f g sp.toNat dp.toNat n.toNat j) := by
    funext j
    unfold va_cpy
    split <;> rfl
  rw [hf] at he
  exact kk H1 _ ls (hR.put hk1 he oq) (z_S.put hS z oq (hR.1 k1 hk1).1 hlo) hl
/-- Math.max, Math.min -/
theorem z_max (C : z_C p s m args meth c cc nL own D A ks) {idx : Nat} {x y : Int} (hm : ∀ w ∈ [Cond.methodLink own idx Lib.Math.max.name, Cond.static Lib.Math.max.name, Cond.initialized "java/lang/Math", Cond.code Lib.Math.max.name Lib.Math.max.code 2 (some .int)], w ∈ z_tbl) (hx : z_rg x) (hy : z_rg y) (hfr : 1 ≤ R.frames) (hlo : (st.map fun v => v.category).sum + 13 ≤ R.locals) (hc : cells ≤ R.cells) (hs : slots ≤ R.slots) (hd : decode cc pc = .ok (.invokestatic idx, 3))
    (kk : z_V p l e R s m args below meth c Q D A N ad nL S Y cells slots (pc + 3) L (z_v (if x < y then y else x) :: st)) : z_V p l e R s m args below meth c Q D A N ad nL S Y cells slots pc L (z_v y :: z_v x :: st) := by
  intro H locs ls hR hS hl
  refine va_mmax C.1 C.2.1 (C.2.2.1.trans hl.1.symm) C.2.2.2.1 (C.2.2.2.2.1 _ (hm _ (by simp))) (C.2.2.2.2.1 _ (hm _ (by simp))) (C.2.2.2.2.1 _ (hm _ (by simp))) (C.2.2.2.2.1 _ (hm _ (by simp))) hfr hlo hc hs hd ?_
  have e1 : (if z_i x < z_i y then z_i y else z_i x) = z_i (if x < y then y else x) := by
    by_cases h : x < y
    · rw [if_pos h, if_pos ((z_lt hx hy).mpr h)]
    · rw [if_neg h, if_neg (fun q => h ((z_lt hx hy).mp q))]
  rw [e1]
  exact kk H locs ls hR hS hl
theorem z_min (C : z_C p s m args meth c cc nL own D A ks) {idx : Nat} {x y : Int} (hm : ∀ w ∈ [Cond.methodLink own idx Lib.Math.min.name, Cond.static Lib.Math.min.name, Cond.initialized "java/lang/Math", Cond.code Lib.Math.min.name Lib.Math.min.code 2 (some .int)], w ∈ z_tbl) (hx : z_rg x) (hy : z_rg y) (hfr : 1 ≤ R.frames) (hlo : (st.map fun v => v.category).sum + 13 ≤ R.locals) (hc : cells ≤ R.cells) (hs : slots ≤ R.slots) (hd : decode cc pc = .ok (.invokestatic idx, 3))
    (kk : z_V p l e R s m args below meth c Q D A N ad nL S Y cells slots (pc + 3) L (z_v (if y < x then y else x) :: st)) : z_V p l e R s m args below meth c Q D A N ad nL S Y cells slots pc L (z_v y :: z_v x :: st) := by
  intro H locs ls hR hS hl
  refine va_mmin C.1 C.2.1 (C.2.2.1.trans hl.1.symm) C.2.2.2.1 (C.2.2.2.2.1 _ (hm _ (by simp))) (C.2.2.2.2.1 _ (hm _ (by simp))) (C.2.2.2.2.1 _ (hm _ (by simp))) (C.2.2.2.2.1 _ (hm _ (by simp))) hfr hlo hc hs hd ?_
  have e1 : (if z_i y < z_i x then z_i y else z_i x) = z_i (if y < x then y else x) := by
    by_cases h : y < x
    · rw [if_pos h, if_pos ((z_lt hy hx).mpr h)]
    · rw [if_neg h, if_neg (fun q => h ((z_lt hy hx).mp q))]
  rw [e1]
  exact kk H locs ls hR hS hl
/-- new: an object, an array of ints, an array of references -/
theorem z_new (C : z_C p s m args meth c cc nL own D A ks) {r : vw_C} {ci idx : Nat} {fs : List Value} (hc : z_cl[ci]? = some r) (hin : ∀ w ∈ u_ws r.1 r.2.1 r.2.2, w ∈ z_tbl) (ty0 : Nat → FieldType) (hty : ∀ k, k < r.2.2 → parseFieldDescriptor (r.2.1 k).2.2.1 = some (ty0 k)) (hm : ∀ w ∈ [Cond.classLink own idx r.1, Cond.instantiable r.1 r.2.2, Cond.initialized r.1], w ∈ z_tbl) (hfs : ∀ j, j < r.2.2 → defaultValue (ty0 j) = vp_V fs j) (h1 : cells + 1 ≤ R.cells) (h2 : slots + r.2.2 ≤ R.slots) (hd : decode cc pc = .ok (.new idx, 3))
    (kk : ∀ q, Y q = none → (∀ x y, Y x = some y → x ≠ q) → z_V p l e R s m args below meth c Q D A N ad nL S (va_up Y q (some (.inr (ci, fs)))) (cells + 1) (slots + r.2.2) (pc + 3) L (.ref q :: st)) : z_V p l e R s m args below meth c Q D A N ad nL S Y cells slots pc L st := by
  intro H locs ls hR hS hl
  obtain ⟨C0, T, n⟩ := r
  have hKn := C.2.2.2.2.2.1.1 ci _ hc
  refine W.newcK C.1 C.2.1 C.2.2.2.1 (C.2.2.2.2.1 _ (hm _ (by simp))) (C.2.2.2.2.1 _ (hm _ (by simp))) (C.2.2.2.2.1 _ (hm _ (by simp))) rfl hd h1 h2 hKn.2.1 rfl fun H1 kC hkC e1 z1 o1 => ?_
  have hat : va_at D z_cl (H.size, .inr (ci, fs)) H1 := ⟨_, hc, (u_born ty0 C.2.2.2.2.1 hin hKn hkC e1 hty).to hfs⟩
  obtain ⟨g1, g2, g3⟩ := hR.new (C.2.2.2.2.2.2.2.2 _ hS.1) hat o1
  exact kk H.size g2 g3 H1 locs ls g1 (z_S.new hS z1 o1) hl
theorem z_newI (C : z_C p s m args meth c cc nL own D A ks) {n : Int} (hm : Cond.arrayClass .int ∈ z_tbl) (h0 : 0 ≤ n) (h3 : n < 100000) (h1 : cells + 1 ≤ R.cells) (h2 : slots + n.toNat ≤ R.slots) (hd : decode cc pc = .ok (.newarray .int, 2))
    (kk : ∀ q, Y q = none → (∀ x y, Y x = some y → x ≠ q) → z_V p l e R s m args below meth c Q D A N ad nL S (va_up Y q (some (z_ar ks.1 n.toNat (fun _ => 0)))) (cells + 1) (slots + n.toNat) (pc + 2) L (.ref q :: st)) : z_V p l e R s m args below meth c Q D A N ad nL S Y cells slots pc L (z_v n :: st) := by
  intro H locs ls hR hS hl
  have nn : ¬ z_i n < 0 := fun q => by
    have := (z_lt (a := n) (b := 0) ⟨by omega, by omega⟩ z_rg0).mp q
    omega
  refine va_newaK (atype := .int) (N := n.toNat) C.1 C.2.1 (C.2.2.2.2.1 _ hm) rfl hd rfl nn (z_cl0 h0 (by omega)) (by show _ * 4 ≤ _; omega) h1 h2 rfl fun H1 cA e1 z1 o1 hAr hNm => ?_
  have hcA : cA = ks.1 := by
    have h := (C.2.2.2.2.2.1.2 0 _ rfl).2
    exact Option.some.inj (hNm.symm.trans h)
  subst hcA
  have hat : va_at D z_cl (H.size, z_ar ks.1 n.toNat (fun _ => 0)) H1 := by
    show H1[H.size]? = some (vp_cell _ _)
    rw [e1, vp_cell_i]
    rfl
  obtain ⟨g1, g2, g3⟩ := hR.new (C.2.2.2.2.2.2.2.2 _ hS.1) hat o1
  exact kk H.size g2 g3 H1 locs ls g1 (z_S.new hS z1 o1) hl
theorem z_newA (C : z_C p s m args meth c cc nL own D A ks) {n : Int} {E : String} {cA : ClassId} {idx : Nat} (t0 : Nat) (ht : (z_tys ks)[t0]? = some (cA, .object E)) (hov : va_AO E s) (hm : Cond.classLink own idx E ∈ z_tbl) (h0 : 0 ≤ n) (h3 : n < 100000) (h1 : cells + 1 ≤ R.cells) (h2 : slots + n.toNat ≤ R.slots) (hd : decode cc pc = .ok (.anewarray idx, 3))
    (kk : ∀ q, Y q = none → (∀ x y, Y x = some y → x ≠ q) → z_V p l e R s m args below meth c Q D A N ad nL S (va_up Y q (some (z_rr cA n.toNat (fun _ => none)))) (cells + 1) (slots + n.toNat) (pc + 3) L (.ref q :: st)) : z_V p l e R s m args below meth c Q D A N ad nL S Y cells slots pc L (z_v n :: st) := by
  intro H locs ls hR hS hl
  have nn : ¬ z_i n < 0 := fun q => by
    have := (z_lt (a := n) (b := 0) ⟨by omega, by omega⟩ z_rg0).mp q
    omega
  have hN : (z_i n).toNatClampNeg = n.toNat := z_cl0 h0 (by omega)
  refine W.anew C.1 C.2.1 C.2.2.2.1 (C.2.2.2.2.1 _ hm) (va_AO.use hov) rfl hd rfl nn (by rw [hN]; omega) h1 (by rw [hN]; exact h2) fun cB kA comp f1 f2 f3 f4 => ?_
  rw [hN]
  have hcA : cB = cA := by
    obtain ⟨_, _, _, _, _, h⟩ := (C.2.2.2.2.2.1.2 t0 _ ht).2
    exact Option.some.inj (f1.symm.trans h)
  subst hcA
  generalize hH1 : H.push ({ cls := cB, slots := Array.replicate n.toNat .null, vm := .none } : Cell) = H1
  have z1 : H1.size = H.size + 1 := by rw [← hH1, Array.size_push]
  have e1 : H1[H.size]? = some (arrV cB n.toNat (fun _ => .null)) := by rw [← hH1, Array.getElem?_push_size, ← arrV_new]
  have o1 : ∀ q : Nat, q < H.size → H1[q]? = H[q]? := fun q hq => by rw [← hH1, Array.getElem?_push, if_neg (Nat.ne_of_lt hq)]
  have hat : va_at D z_cl (H.size, z_rr cB n.toNat (fun _ => none)) H1 := by
    show H1[H.size]? = some (vp_cell _ _)
    rw [e1, vp_cell_q]
    rfl
  obtain ⟨g1, g2, g3⟩ := hR.new (C.2.2.2.2.2.2.2.2 _ hS.1) hat o1
  exact kk H.size g2 g3 H1 locs ls g1 (z_S.new hS z1 o1) hl
/-- Object.<init> -/
theorem z_obj (C : z_C p s m args meth c cc nL own D A ks) {idx q : Nat} (hm : ∀ w ∈ [Cond.methodLink own idx Lib.objectInit, Cond.instanceMethod Lib.objectInit, Cond.code Lib.objectInit ⟨#[0xb1]⟩ 1 none], w ∈ z_tbl) (hfr : 1 ≤ R.frames) (hlo : (st.map fun v => v.category).sum + 12 ≤ R.locals) (hd : decode cc pc = .ok (.invokespecial idx, 3))
    (kk : z_V p l e R s m args below meth c Q D A N ad nL S Y cells slots (pc + 3) L st) : z_V p l e R s m args below meth c Q D A N ad nL S Y cells slots pc L (.ref q :: st) := by
  intro H locs ls hR hS hl
  exact W.objInit C.1 C.2.1 C.2.2.2.1 (C.2.2.2.2.1 _ (hm _ (by simp))) (C.2.2.2.2.1 _ (hm _ (by simp))) (C.2.2.2.2.1 _ (hm _ (by simp))) rfl (hl.1.trans C.2.2.1.symm) rfl hd hfr (by show 2 * 0 + _ + _ ≤ _; omega) (kk H locs ls hR hS hl)
end ZHEAP
end
section
section ZCALL
variable {p : Program} {l : Launch} {e : Env} {R : Room} {s : State} {m : MethodId} {args : Array Value} {below : List Frame} {meth : Method} {c : Code} {Q : State → Prop} {D : va_G} {A : Nat → Prop} {N : Nat} {ad : Nat → Nat} {nL : Nat} {S S' : Nat → va_E} {Y Y' : Nat → Option va_E} {cells slots pc : Nat} {L : List (Nat × Value)} {st st0 : List Value} {cc : ByteArray} {own : String} {ks : z_Ks} {post : Option Value → (Nat → va_E) → (Nat → Option va_E) → Prop} {mc ms fr lo mL idx : Nat} {y : MethodName} {b : ByteArray} {ret : Option FieldType} {As : List Value}
theorem z_go {a : Array Value} (hr : ∀ H locs ls, z_R D A N ad S Y H → va_S A s.heap H locs → lv_has ls nL L → va_Run p l e R s m args below meth c H locs cells slots mc ms (F0 m pc ls st0) st (z_Q D A N ad post a) A)
    (kk : ∀ r S' Y', post r S' Y' → z_V p l e R s m args below meth c Q D A N ad nL S' Y' (cells + mc) (slots + ms) (pc + 3) L (r.toList ++ st)) : z_V p l e R s m args below meth c Q D A N ad nL S Y cells slots pc L st0 := by
  intro H locs ls hR hS hl T hT X
  obtain ⟨v, st₀, t, T', Lo, h0, X', hL, e1, e2, ⟨⟨r, S', Y', hv, hp, hR'⟩, hz, hk⟩, stp⟩ := hr H locs ls hR hS hl T hT X
  cases hv
  rw [h0] at hz hk
  obtain ⟨t2, a1, b1⟩ := kk v S' Y' hp T'.heap (locs ++ Lo) ls (by rw [e1]; exact hR') ⟨Nat.le_trans hS.1 (by rw [e1]; exact hz), fun q h1 h2 => by rw [e1, hk q (Nat.lt_of_lt_of_le h1 hS.1) h2]; exact hS.2.1 q h1 h2, fun q hq => by
      rcases List.mem_append.mp hq with h | h
      · exact hS.2.2 q h
      · exact hL q h⟩ hl T' rfl X'
  exact ⟨t2, stp t2 a1, b1⟩
theorem z_blind {av : List Value} : FrameBlind (va_Pc av (z_P D A N ad ks S Y)) := by
  intro a U g mk q
  obtain ⟨q0, q1, q2, q3, q4⟩ := q
  exact ⟨q0, q1, va_K.moved (u := U) (U := U.calling g mk a) (Vm.Alike.refl U.vm) q2, z_X.same (s := U) (U := U.calling g mk a) rfl q3, q4⟩
theorem z_goodIn (h : Cond.code y b mL ret ∈ z_tbl) : GoodIn z_tbl (z_w y b mL ret) := by
  intro w hw
  have hm : w ∈ z_tbl := by
    rcases List.mem_cons.mp hw with rfl | hw
    · exact h
    · exact hw
  exact ⟨hm, good_of_word (z_good w hm)⟩
theorem z_callB (C : z_C p s m args meth c cc nL own D A ks) (n : Nat) (hc : Cond.code y b mL ret ∈ z_tbl) (hi : Cond.initialized y.cls ∈ z_tbl) (hk : Cond.methodLink own idx y ∈ z_tbl) (hd : y.cls ≠ "java/lang/invoke/MethodHandle" ∧ y.cls ≠ "java/lang/invoke/VarHandle" ∧ (parseMethodDescriptor y.desc).map (fun d => d.parameters.length) = some n) (hr : fr + 1 ≤ R.frames ∧ 8 + (mL + 11) + lo ≤ R.locals) : CallB R s args own idx y b mL ret (z_w y b mL ret) { frames := fr, cells := mc, slots := ms, locals := lo } mc ms n :=
  callB_of n C.2.2.2.2.1 (z_goodIn hc) rfl rfl rfl (C.2.2.2.2.1 _ hi) (C.2.2.2.2.1 _ hk) hd hr
theorem z_pre (C : z_C p s m args meth c cc nL own D A ks) {H : Heap} {locs : List Loc} (hR : z_R D A N ad S Y H) (hS : va_S A s.heap H locs) {av : List Value} : ∀ U : State, U.heap = H → s.WarmedH U.vm → va_Pc av (z_P D A N ad ks S Y) av.toArray U := by
  intro U hU hW
  exact ⟨rfl, by rw [hU]; exact hR, va_K.moved hW.alike C.2.2.2.2.2.1, C.2.2.2.2.2.2.1.warm hW, fun q h => C.2.2.2.2.2.2.2.2 q (by rw [hU] at h; exact Nat.le_trans hS.1 h)⟩
/-- what is called is an object of the world, of class y.cls -/
def z_at (N : Nat) (ad : Nat → Nat) (S : Nat → va_E) (Y : Nat → Option va_E) (q : Nat) (nm : String) : Prop := ∃ (ci : Nat) (r : vw_C) (fs : List Value), z_cl[ci]? = some r ∧ r.1 = nm ∧ ((∃ k, k < N ∧ q = ad k ∧ S k = .inr (ci, fs)) ∨ Y q = some (.inr (ci, fs)))
theorem z_atS (k ci : Nat) {nm : String} {r : vw_C} {fs : List Value} (hk : k < N) (he : S k = .inr (ci, fs)) (hc : z_cl[ci]? = some r) (hr : r.1 = nm) : z_at N ad S Y (ad k) nm := ⟨ci, r, fs, hc, hr, Or.inl ⟨k, hk, rfl, he⟩⟩
theorem z_atY (ci : Nat) {q : Nat} {nm : String} {r : vw_C} {fs : List Value} (he : Y q = some (.inr (ci, fs))) (hc : z_cl[ci]? = some r) (hr : r.1 = nm) : z_at N ad S Y q nm := ⟨ci, r, fs, hc, hr, Or.inr he⟩
theorem z_recv (C : z_C p s m args meth c cc nL own D A ks) {H : Heap} {q : Nat} {nm : String} (hR : z_R D A N ad S Y H) (h : z_at N ad S Y q nm) : ∃ cell : Cell, H[q]? = some cell ∧ cell.vm.isStatics = false ∧ s.vm.findClass nm = some cell.cls := by
  obtain ⟨ci, r, fs, hc, rfl, ⟨k, hk, rfl, he⟩ | he⟩ := h
  · obtain ⟨hP, -⟩ := hR.one hk
    rw [he] at hP
    exact va_recv C.2.2.2.2.2.1 hP hc (q0 := 0) rfl
  · obtain ⟨hP, -⟩ := hR.dyn he
    exact va_recv C.2.2.2.2.2.1 hP hc (q0 := 0) rfl
theorem z_callV (C : z_C p s m args meth c cc nL own D A ks) {q : Nat} (hM : z_Met l y b mL ret fr lo mc ms D A N ad ks (.ref q :: As) S Y post) (hm : ∀ w ∈ [Cond.methodLink own idx y, Cond.instanceMethod y, Cond.selects y.cls y y, Cond.initialized y.cls, Cond.code y b mL ret], w ∈ z_tbl) (ht : z_at N ad S Y q y.cls) (hdy : y.cls ≠ "java/lang/invoke/MethodHandle" ∧ y.cls ≠ "java/lang/invoke/VarHandle" ∧ (parseMethodDescriptor y.desc).map (fun d => d.parameters.length) = some As.length) (hr : fr + 1 ≤ R.frames ∧ 8 + (mL + 11) + lo ≤ R.locals) (hf : cells + mc ≤ R.cells ∧ slots + ms ≤ R.slots) (hst : st0 = As.reverse ++ .ref q :: st) (hW : (st.map fun v => v.category).sum ≤ 8) (hd : decode cc pc = .ok (.invokevirtual idx, 3))
    (kk : ∀ r S' Y', post r S' Y' → z_V p l e R s m args below meth c Q D A N ad nL S' Y' (cells + mc) (slots + ms) (pc + 3) L (r.toList ++ st)) : z_V p l e R s m args below meth c Q D A N ad nL S Y cells slots pc L st0 := by
  subst hst
  refine z_go (a := (Value.ref q :: As).toArray) ?_ kk
  intro H locs ls hR hS hl
  exact va_runV (Ts := z_tbl) ⟨C.1, C.2.1, C.2.2.1, C.2.2.2.1, C.2.2.2.2.1⟩ hM ⟨z_callB C As.length (hm _ (by simp)) (hm _ (by simp)) (hm _ (by simp)) hdy hr, C.2.2.2.2.1 _ (hm _ (by simp)), C.2.2.2.2.1 _ (hm _ (by simp))⟩ ⟨z_blind, z_recv C hR ht, z_pre C hR hS⟩ rfl rfl hl.1 rfl (lv_room hW) hd hf
theorem z_callS (C : z_C p s m args meth c cc nL own D A ks) (hM : z_Met l y b mL ret fr lo mc ms D A N ad ks As S Y post) (hm : ∀ w ∈ [Cond.methodLink own idx y, Cond.static y, Cond.initialized y.cls, Cond.code y b mL ret], w ∈ z_tbl) (hdy : y.cls ≠ "java/lang/invoke/MethodHandle" ∧ y.cls ≠ "java/lang/invoke/VarHandle" ∧ (parseMethodDescriptor y.desc).map (fun d => d.parameters.length) = some As.length) (hr : fr + 1 ≤ R.frames ∧ 8 + (mL + 11) + lo ≤ R.locals) (hf : cells + mc ≤ R.cells ∧ slots + ms ≤ R.slots) (hst : st0 = As.reverse ++ st) (hW : (st.map fun v => v.category).sum ≤ 8) (hd : decode cc pc = .ok (.invokestatic idx, 3))
    (kk : ∀ r S' Y', post r S' Y' → z_V p l e R s m args below meth c Q D A N ad nL S' Y' (cells + mc) (slots + ms) (pc + 3) L (r.toList ++ st)) : z_V p l e R s m args below meth c Q D A N ad nL S Y cells slots pc L st0 := by
  subst hst
  refine z_go (a := As.toArray) ?_ kk
  intro H locs ls hR hS hl
  exact va_runS (Ts := z_tbl) ⟨C.1, C.2.1, C.2.2.1, C.2.2.2.1, C.2.2.2.2.1⟩ hM ⟨z_callB C As.length (hm _ (by simp)) (hm _ (by simp)) (hm _ (by simp)) hdy hr, C.2.2.2.2.1 _ (hm _ (by simp))⟩ ⟨z_blind, z_pre C hR hS⟩ rfl rfl hl.1 rfl (lv_room hW) hd hf
theorem z_callI (C : z_C p s m args meth c cc nL own D A ks) {q : Nat} (hM : z_Met l y b mL none fr lo mc ms D A N ad ks (.ref q :: As) S Y post) (hm : ∀ w ∈ [Cond.methodLink own idx y, Cond.instanceMethod y, Cond.initialized y.cls, Cond.code y b mL none], w ∈ z_tbl) (hy1 : y.name = "<init>") (hdy : y.cls ≠ "java/lang/invoke/MethodHandle" ∧ y.cls ≠ "java/lang/invoke/VarHandle" ∧ (parseMethodDescriptor y.desc).map (fun d => d.parameters.length) = some As.length) (hr : fr + 1 ≤ R.frames ∧ 8 + (mL + 11) + lo ≤ R.locals) (hf : cells + mc ≤ R.cells ∧ slots + ms ≤ R.slots) (hst : st0 = As.reverse ++ .ref q :: st) (hW : (st.map fun v => v.category).sum ≤ 8) (hd : decode cc pc = .ok (.invokespecial idx, 3))
    (kk : ∀ r S' Y', post r S' Y' → z_V p l e R s m args below meth c Q D A N ad nL S' Y' (cells + mc) (slots + ms) (pc + 3) L (r.toList ++ st)) : z_V p l e R s m args below meth c Q D A N ad nL S Y cells slots pc L st0 := by
  subst hst
  refine z_go (a := (Value.ref q :: As).toArray) ?_ kk
  intro H locs ls hR hS hl
  exact va_runI (Ts := z_tbl) ⟨C.1, C.2.1, C.2.2.1, C.2.2.2.1, C.2.2.2.2.1⟩ hM ⟨z_callB C As.length (hm _ (by simp)) (hm _ (by simp)) (hm _ (by simp)) hdy hr, hy1, C.2.2.2.2.1 _ (hm _ (by simp))⟩ ⟨z_blind, z_pre C hR hS⟩ rfl rfl hl.1 rfl (lv_room hW) hd hf
theorem z_callN (C : z_C p s m args meth c cc nL own D A ks) {q : Nat} {host : String} (hM : z_Met l y b mL none fr lo mc ms D A N ad ks (.ref q :: As) S Y post) (hl0 : va_Nw (.methodLinkNest own idx y host) s) (hm : ∀ w ∈ [Cond.instanceMethod y, Cond.initialized y.cls, Cond.code y b mL none], w ∈ z_tbl) (hy1 : y.name = "<init>") (hdy : y.cls ≠ "java/lang/invoke/MethodHandle" ∧ y.cls ≠ "java/lang/invoke/VarHandle" ∧ (parseMethodDescriptor y.desc).map (fun d => d.parameters.length) = some As.length) (hr : fr + 1 ≤ R.frames ∧ 8 + (mL + 11) + lo ≤ R.locals) (hf : cells + mc ≤ R.cells ∧ slots + ms ≤ R.slots) (hst : st0 = As.reverse ++ .ref q :: st) (hW : (st.map fun v => v.category).sum ≤ 8) (hd : decode cc pc = .ok (.invokespecial idx, 3))
    (kk : ∀ r S' Y', post r S' Y' → z_V p l e R s m args below meth c Q D A N ad nL S' Y' (cells + mc) (slots + ms) (pc + 3) L (r.toList ++ st)) : z_V p l e R s m args below meth c Q D A N ad nL S Y cells slots pc L st0 := by
  subst hst
  refine z_go (a := (Value.ref q :: As).toArray) ?_ kk
  intro H locs ls hR hS hl
  exact va_runIN (Ts := z_tbl) ⟨C.1, C.2.1, C.2.2.1, C.2.2.2.1, C.2.2.2.2.1⟩ hM ⟨va_cnB As.length C.2.2.2.2.1 (z_goodIn (hm _ (by simp))) rfl rfl rfl hl0 (C.2.2.2.2.1 _ (hm _ (by simp))) hdy hr, hy1, C.2.2.2.2.1 _ (hm _ (by simp))⟩ ⟨z_blind, z_pre C hR hS⟩ rfl rfl hl.1 rfl (lv_room hW) hd hf
/-- returns -/
theorem z_ret {v : Option Value} (hW : ∀ (H : Heap) (locs : List Loc) (ls : Array Slot) (Qc : Array Value → State → Outcome → State → Prop) (k n : Nat), (∀ t : State, t.heap = H → s.WarmedH t.vm → Qc args s (.returned v) t) → (∀ q ∈ locs, A q.base) → W p l e R s m args below meth c H locs k n (MQ below Qc args s k n A) (F0 m pc ls st)) (hp : post v S Y) (h1 : cells ≤ mc) (h2 : slots ≤ ms) : z_V p l e R s m args below meth c (MQ below (z_Q D A N ad post) args s mc ms A) D A N ad nL S Y cells slots pc L st := by
  intro H locs ls hR hS hl
  refine W.widen h1 h2 (hW H locs ls _ mc ms ?_ hS.2.2)
  intro t ht _
  exact ⟨⟨v, S, Y, rfl, hp, by rw [ht]; exact hR⟩, hS.F ht⟩
theorem z_iret (C : z_C p s m args meth c cc nL own D A ks) {z : Int} (hr : meth.sig.returnType = some .int) (hd : decode cc pc = .ok (.ireturn, 1)) (hp : post (some (z_v z)) S Y) (h1 : cells ≤ mc) (h2 : slots ≤ ms) : z_V p l e R s m args below meth c (MQ below (z_Q D A N ad post) args s mc ms A) D A N ad nL S Y cells slots pc L [z_v z] :=
  z_ret (v := some (z_v z)) (fun H locs ls Qc k n hq hf => W.iret C.1 C.2.1 hr hq hf hd C.2.2.2.2.2.2.2.1) hp h1 h2
theorem z_zret (C : z_C p s m args meth c cc nL own D A ks) {z : Int} (hr : meth.sig.returnType = some .boolean) (hz : z = 0 ∨ z = 1) (hd : decode cc pc = .ok (.ireturn, 1)) (hp : post (some (z_v z)) S Y) (h1 : cells ≤ mc) (h2 : slots ≤ ms) : z_V p l e R s m args below meth c (MQ below (z_Q D A N ad post) args s mc ms A) D A N ad nL S Y cells slots pc L [z_v z] :=
  z_ret (v := some (z_v z)) (fun H locs ls Qc k n hq hf => W.zret C.1 C.2.1 hr (by rcases hz with rfl | rfl <;> rfl) hq hf hd C.2.2.2.2.2.2.2.1) hp h1 h2
theorem z_lret (C : z_C p s m args meth c cc nL own D A ks) {w : Int64} (hr : meth.sig.returnType = some .long) (hd : decode cc pc = .ok (.lreturn, 1)) (hp : post (some (.long w)) S Y) (h1 : cells ≤ mc) (h2 : slots ≤ ms) : z_V p l e R s m args below meth c (MQ below (z_Q D A N ad post) args s mc ms A) D A N ad nL S Y cells slots pc L [.long w] :=
  z_ret (v := some (.long w)) (fun H locs ls Qc k n hq hf => W.lret C.1 C.2.1 hr hq hf hd C.2.2.2.2.2.2.2.1) hp h1 h2
theorem z_aret (C : z_C p s m args meth c cc nL own D A ks) {v : Value} {E : String} (hr : meth.sig.returnType = some (.object E)) (hv : v = .null ∨ ∃ a, v = .ref a) (hd : decode cc pc = .ok (.areturn, 1)) (hp : post (some v) S Y) (h1 : cells ≤ mc) (h2 : slots ≤ ms) : z_V p l e R s m args below meth c (MQ below (z_Q D A N ad post) args s mc ms A) D A N ad nL S Y cells slots pc L [v] :=
  z_ret (v := some v) (fun H locs ls Qc k n hq hf => W.aret C.1 C.2.1 hr (Or.inl ⟨_, rfl⟩) hv hq hf hd C.2.2.2.2.2.2.2.1) hp h1 h2
theorem z_vret (C : z_C p s m args meth c cc nL own D A ks) (hr : meth.sig.returnType = none) (hd : decode cc pc = .ok (.return_, 1)) (hp : post none S Y) (h1 : cells ≤ mc) (h2 : slots ≤ ms) : z_V p l e R s m args below meth c (MQ below (z_Q D A N ad post) args s mc ms A) D A N ad nL S Y cells slots pc L [] :=
  z_ret (v := none) (fun H locs ls Qc k n hq hf => W.vret C.1 C.2.1 hr hq hf hd C.2.2.2.2.2.2.2.1) hp h1 h2
/-- a contract out of the walk from the entry -/
theorem z_start {av : List Value} (hy : plainName y.cls = true) (hlen : (lg_sl av).length ≤ mL)
    (body : ∀ p e s m below meth c, z_C p s m av.toArray meth c b mL y.cls D A ks → meth.sig.returnType = ret → meth.name = y.name → z_V p l e { frames := fr, cells := mc, slots := ms, locals := lo } s m av.toArray below meth c (MQ below (z_Q D A N ad post) av.toArray s mc ms A) D A N ad mL S Y 0 0 0 (lv_args 0 av) []) : z_Met l y b mL ret fr lo mc ms D A N ad ks av S Y post := by
  refine Met.ofW (cc := b) (maxL := mL) (ret := ret) hy rfl ?_
  intro p e s m args below meth c s₁ B hml hv
  obtain ⟨rfl, hR, hK, hX, hA⟩ := hv
  have hts := atoms_spec (ws := z_w y b mL ret) B.pre
  have hown : s.vm.findClass y.cls = some m.cls := findClass_of_methodNamed B.named
  have hname : meth.name = y.name := (name_of_methodNamed B.named B.method).1
  have hl := lv_entry av (n := mL) hlen
  rw [lg_entry_eq]
  exact body p e s m below meth c ⟨B.exec, B.bytes, hml, hown, fun w hw => hts w (List.mem_cons_of_mem _ hw), hK, hX, B.notSynchronized, hA⟩ B.returns hname s.heap [] _ hR va_S.rf hl
end ZCALL
end
