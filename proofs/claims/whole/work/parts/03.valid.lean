/-! links by their places among the words; each instruction held against the bytes -/
def RN (c : Nat) : String := match c with
  | 0 => RX0
  | 1 => RX1
  | 2 => RX2
  | 3 => RX3
  | 4 => RX4
  | 5 => RX5
  | 6 => RX6
  | 7 => RX7
  | 8 => RX8
  | 9 => RX9
  | _ => RL
def TN (c : Nat) : u_T := match c with
  | 0 => TX0
  | 1 => TX1
  | 2 => TX2
  | 3 => TX3
  | 4 => TX4
  | 5 => TX5
  | 6 => TX6
  | 7 => TX7
  | 8 => TX8
  | _ => TX9
def tyN (c : Nat) : Nat → FieldType := match c with
  | 0 => tyX0
  | 1 => tyX1
  | 2 => tyX2
  | 3 => tyX3
  | 4 => tyX4
  | 5 => tyX5
  | 6 => tyX6
  | 7 => tyX7
  | 8 => tyX8
  | _ => tyX9
def NN (c : Nat) : Nat := match c with
  | 0 => 3
  | 1 => 2
  | 2 => 1
  | 3 => 4
  | 4 => 8
  | 5 => 1
  | 6 => 13
  | 7 => 3
  | 8 => 5
  | _ => 14
def yNs : List MethodName := [yX0_init, yX0_makeDense, yX0_makeAlternate, yX0_dispatch, yX0_chooseJob, yX0_waiting, yX0_beginOn, yX0_nextEnd, yX0_beginOf, yX0_lastEnd,
  yX1_init, yX1_get, yX1_put, yX1_add, yX1_fill, yX2_init, yX2_least, yX2_carriesAll, yX3_init, yX3_clear,
  yX3_widen, yX3_roomBetween, yX3_shut, yX3_push, yX3_search, yX3_sendAlong, yX4_init, yX4_make, yX4_roundDown, yX4_layOut,
  yX4_openEntries, yX4_boundSums, yX4_boundEdge, yX4_settle, yX4_quotient, yX4_entry, yX4_sumOfEntries, yX4_countUp, yX5_init, yX5_get,
  yX5_put, yX5_fill, yX6_init, yX6_forget, yX6_prepare, yX6_copyFilled, yX6_pickColumns, yX6_seat, yX6_moveChain, yX6_moveForward,
  yX6_takeOff, yX6_record, yX6_sliceCount, yX6_startOf, yX6_lengthOf, yX6_machineOf, yX6_jobOn, yX6_jobInSlice, yX6_workedUpTo, yX6_lastEnd,
  yX6_countBreaks, yX6_isBroken, yX7_init, yX7_resize, yX7_jobCount, yX7_machineCount, yX7_timeOf, yX7_putTime, yX7_swapTimes, yX7_turnOver,
  yX7_sumOfJob, yX7_sumOfMachine, yX7_sumOfAll, yX7_greatestSum, yX7_filledEntry, yX8_init, yX8_setSize, yX8_set, yX8_setJob, yX8_swapJobs,
  yX8_transpose, yX8_jobs, yX8_machines, yX8_time, yX8_jobTotal, yX8_machineTotal, yX8_total, yX8_bound, yX8_boundByFlow, yX8_filled,
  yX8_slices, yX8_sliceStart, yX8_sliceLength, yX8_machineIn, yX8_jobAt, yX8_done, yX8_finishOf, yX8_interruptions, yX8_denseLength, yX8_denseStart,
  yX8_alternateLength, yX8_alternateStart, yX8_rounded, yX8_roundedTotal, yX8_roundedUp, yX8_meanFinish, yX8_needJob, yX8_needMachine, yX8_needTwoMachines, yX8_needIndex,
  yX8_needRange, yX9_init, yX9_thrown, yX9_holds, yX9_isJob, yX9_isMachine, yX9_at, yX9_ofJob, yX9_ofMachine, yX9_all,
  yX9_most, yX9_setSize, yX9_isTime, yX9_set, yX9_setJob, yX9_swapJobs, yX9_transpose, yX9_jobs, yX9_machines, yX9_isPlace,
  yX9_time, yX9_jobTotal, yX9_machineTotal, yX9_total, yX9_bound, yX9_boundByFlow, yX9_entry, yX9_filled, yX9_bits, yX9_matches,
  yX9_takesApart, yX9_startOf, yX9_on, yX9_slices, yX9_isSlice, yX9_sliceStart, yX9_sliceLength, yX9_machineIn, yX9_jobAt, yX9_done,
  yX9_finish, yX9_finishOf, yX9_interruptions, yX9_waits, yX9_chosen, yX9_dispatches, yX9_denseLength, yX9_denseStart, yX9_alternateLength, yX9_alternateStart,
  yX9_mayBe, yX9_downsOfJob, yX9_downsOfMachine, yX9_digit, yX9_becomes, yX9_areRight, yX9_countings, yX9_areCounts, yX9_rounds, yX9_isDivisor,
  yX9_rounded, yX9_upNow, yX9_roundedTotal, yX9_roundedUp, yX9_meanFinish, yL_setSize, yL_set, yL_setJob, yL_swapJobs, yL_time,
  yL_jobTotal, yL_machineTotal, yL_filled, yL_sliceStart, yL_sliceLength, yL_machineIn, yL_jobAt, yL_done, yL_finishOf, yL_denseStart,
  yL_alternateLength, yL_alternateStart, yL_rounded, yL_roundedTotal, yL_roundedUp, yL_law]
def bNs : List ByteArray := [cX0_init, cX0_makeDense, cX0_makeAlternate, cX0_dispatch, cX0_chooseJob, cX0_waiting, cX0_beginOn, cX0_nextEnd, cX0_beginOf, cX0_lastEnd,
  cX1_init, cX1_get, cX1_put, cX1_add, cX1_fill, cX2_init, cX2_least, cX2_carriesAll, cX3_init, cX3_clear,
  cX3_widen, cX3_roomBetween, cX3_shut, cX3_push, cX3_search, cX3_sendAlong, cX4_init, cX4_make, cX4_roundDown, cX4_layOut,
  cX4_openEntries, cX4_boundSums, cX4_boundEdge, cX4_settle, cX4_quotient, cX4_entry, cX4_sumOfEntries, cX4_countUp, cX5_init, cX5_get,
  cX5_put, cX5_fill, cX6_init, cX6_forget, cX6_prepare, cX6_copyFilled, cX6_pickColumns, cX6_seat, cX6_moveChain, cX6_moveForward,
  cX6_takeOff, cX6_record, cX6_sliceCount, cX6_startOf, cX6_lengthOf, cX6_machineOf, cX6_jobOn, cX6_jobInSlice, cX6_workedUpTo, cX6_lastEnd,
  cX6_countBreaks, cX6_isBroken, cX7_init, cX7_resize, cX7_jobCount, cX7_machineCount, cX7_timeOf, cX7_putTime, cX7_swapTimes, cX7_turnOver,
  cX7_sumOfJob, cX7_sumOfMachine, cX7_sumOfAll, cX7_greatestSum, cX7_filledEntry, cX8_init, cX8_setSize, cX8_set, cX8_setJob, cX8_swapJobs,
  cX8_transpose, cX8_jobs, cX8_machines, cX8_time, cX8_jobTotal, cX8_machineTotal, cX8_total, cX8_bound, cX8_boundByFlow, cX8_filled,
  cX8_slices, cX8_sliceStart, cX8_sliceLength, cX8_machineIn, cX8_jobAt, cX8_done, cX8_finishOf, cX8_interruptions, cX8_denseLength, cX8_denseStart,
  cX8_alternateLength, cX8_alternateStart, cX8_rounded, cX8_roundedTotal, cX8_roundedUp, cX8_meanFinish, cX8_needJob, cX8_needMachine, cX8_needTwoMachines, cX8_needIndex,
  cX8_needRange, cX9_init, cX9_thrown, cX9_holds, cX9_isJob, cX9_isMachine, cX9_at, cX9_ofJob, cX9_ofMachine, cX9_all,
  cX9_most, cX9_setSize, cX9_isTime, cX9_set, cX9_setJob, cX9_swapJobs, cX9_transpose, cX9_jobs, cX9_machines, cX9_isPlace,
  cX9_time, cX9_jobTotal, cX9_machineTotal, cX9_total, cX9_bound, cX9_boundByFlow, cX9_entry, cX9_filled, cX9_bits, cX9_matches,
  cX9_takesApart, cX9_startOf, cX9_on, cX9_slices, cX9_isSlice, cX9_sliceStart, cX9_sliceLength, cX9_machineIn, cX9_jobAt, cX9_done,
  cX9_finish, cX9_finishOf, cX9_interruptions, cX9_waits, cX9_chosen, cX9_dispatches, cX9_denseLength, cX9_denseStart, cX9_alternateLength, cX9_alternateStart,
  cX9_mayBe, cX9_downsOfJob, cX9_downsOfMachine, cX9_digit, cX9_becomes, cX9_areRight, cX9_countings, cX9_areCounts, cX9_rounds, cX9_isDivisor,
  cX9_rounded, cX9_upNow, cX9_roundedTotal, cX9_roundedUp, cX9_meanFinish, cL_setSize, cL_set, cL_setJob, cL_swapJobs, cL_time,
  cL_jobTotal, cL_machineTotal, cL_filled, cL_sliceStart, cL_sliceLength, cL_machineIn, cL_jobAt, cL_done, cL_finishOf, cL_denseStart,
  cL_alternateLength, cL_alternateStart, cL_rounded, cL_roundedTotal, cL_roundedUp, cL_law]
def yN (k : Nat) : MethodName := yNs.getD k yL_law
def bN (k : Nat) : ByteArray := bNs.getD k code
def retT (r : Nat) : Option FieldType := match r with
  | 0 => none
  | 1 => some .int
  | 2 => some .boolean
  | _ => some .double
def hhs : List (Nat × List (Nat × Nat × Nat × Nat)) := [(175, [(0, 10, 13, 13)]), (176, [(0, 12, 15, 19), (0, 12, 19, 13)]), (177, [(0, 12, 15, 19), (0, 12, 19, 13)]),
  (178, [(0, 10, 13, 19)]), (179, [(0, 10, 13, 19)]), (180, [(0, 9, 12, 19)]),
  (181, [(0, 9, 12, 19)]), (182, [(0, 10, 13, 19)]), (183, [(0, 9, 12, 19)]),
  (184, [(0, 9, 12, 19)]), (185, [(0, 10, 13, 19)]), (186, [(0, 10, 13, 19)]),
  (187, [(0, 12, 15, 19)]), (188, [(0, 9, 12, 19)]), (189, [(0, 10, 13, 19)]),
  (190, [(0, 8, 11, 65)]), (191, [(0, 10, 13, 19), (0, 10, 17, 65)]), (192, [(0, 12, 15, 19), (0, 12, 19, 13)]),
  (193, [(0, 9, 12, 13)]), (194, [(0, 9, 12, 13)])]
def hhT (k : Nat) : List (Nat × Nat × Nat × Nat) := (hhs.lookup k).getD []
def mD : Nat × Nat × Nat × Nat × Nat × Nat := (10, 9, 0, 2, 0, 0)
def mt (k : Nat) : Nat × Nat × Nat × Nat × Nat × Nat := mts.getD k mD
def codeW (k : Nat) : Cond := match hhT k with
  | [] => .code (yN k) (bN k) (mt k).2.1 (retT (mt k).2.2.2.1)
  | q :: r => .codeWith (yN k) (bN k) (mt k).2.1 (retT (mt k).2.2.2.1) (q :: r)
def GW : List Cond := lw_tbl.filter goodWord
theorem GW_at {i : Nat} {w : Cond} (h : lw_tbl[i]? = some w) (g : goodWord w = true) : w ∈ GW := List.mem_filter.mpr ⟨List.mem_of_getElem? h, g⟩
def FLp : List ((Nat × Nat) × Nat × Nat × Nat) := [((0, 14), 0, 0, 183), ((0, 25), 0, 1, 184), ((0, 29), 0, 2, 185), ((1, 7), 1, 0, 96), ((1, 19), 1, 1, 97), ((2, 10), 2, 0, 222),
  ((3, 16), 3, 0, 209), ((3, 25), 3, 1, 210), ((3, 29), 3, 2, 211), ((3, 38), 3, 3, 212), ((4, 12), 4, 0, 236), ((4, 23), 4, 1, 237),
  ((4, 27), 4, 2, 238), ((4, 44), 4, 5, 241), ((4, 48), 4, 6, 242), ((4, 51), 4, 7, 243), ((4, 67), 4, 3, 239), ((4, 88), 4, 4, 240),
  ((5, 13), 5, 0, 129), ((6, 16), 6, 0, 133), ((6, 25), 6, 1, 134), ((6, 29), 6, 2, 135), ((6, 32), 6, 3, 136), ((6, 35), 6, 4, 137),
  ((6, 38), 6, 5, 138), ((6, 41), 6, 6, 139), ((6, 44), 6, 7, 140), ((6, 47), 6, 8, 141), ((6, 55), 6, 12, 145), ((6, 78), 6, 9, 142),
  ((6, 83), 6, 10, 143), ((6, 85), 6, 11, 144), ((7, 16), 7, 0, 104), ((7, 20), 7, 1, 105), ((7, 24), 7, 2, 106), ((8, 10), 8, 0, 261),
  ((8, 19), 8, 1, 262), ((8, 26), 8, 2, 263), ((8, 33), 8, 3, 264), ((8, 40), 8, 4, 265), ((9, 7), 9, 1, 903), ((9, 13), 9, 2, 904),
  ((9, 16), 9, 3, 905), ((9, 20), 9, 4, 906), ((9, 23), 9, 5, 907), ((9, 26), 9, 6, 908), ((9, 29), 9, 8, 910), ((9, 33), 9, 9, 911),
  ((9, 36), 9, 10, 912), ((9, 39), 9, 11, 913), ((9, 43), 9, 12, 914), ((9, 46), 9, 13, 915), ((9, 49), 9, 0, 902), ((9, 93), 9, 7, 909)]
def MLp : List ((Nat × Nat) × Nat × Nat) := [((0, 11), 10, 180), ((0, 22), 38, 182), ((0, 32), 3, 478), ((0, 36), 14, 482), ((0, 39), 41, 483), ((0, 40), 65, 484), ((0, 46), 39, 485), ((0, 50), 4, 486),
  ((0, 54), 6, 497), ((0, 58), 7, 503), ((0, 61), 64, 490), ((0, 64), 5, 491), ((0, 68), 11, 495), ((0, 71), 66, 496), ((0, 74), 12, 501), ((0, 78), 40, 502),
  ((1, 23), 11, 372), ((1, 26), 12, 373), ((2, 16), 72, 346), ((2, 22), 17, 347), ((2, 26), 64, 351), ((2, 29), 65, 352), ((2, 32), 19, 353), ((2, 36), 20, 364),
  ((2, 40), 66, 374), ((2, 44), 23, 378), ((3, 13), 10, 206), ((3, 22), 38, 208), ((3, 42), 14, 360), ((3, 45), 13, 368), ((3, 49), 11, 398), ((3, 52), 12, 867),
  ((3, 55), 24, 382), ((3, 59), 25, 399), ((3, 63), 41, 386), ((3, 64), 40, 390), ((3, 66), 39, 394), ((4, 20), 10, 235), ((4, 30), 28, 820), ((4, 34), 29, 832),
  ((4, 38), 30, 837), ((4, 41), 31, 843), ((4, 54), 23, 854), ((4, 58), 64, 825), ((4, 64), 65, 826), ((4, 70), 33, 855), ((4, 74), 12, 831), ((4, 78), 14, 824),
  ((4, 82), 66, 827), ((4, 85), 34, 828), ((4, 91), 19, 836), ((4, 94), 11, 841), ((4, 97), 20, 842), ((4, 100), 70, 847), ((4, 104), 32, 848), ((4, 108), 71, 852),
  ((4, 111), 72, 853), ((4, 114), 21, 859), ((4, 117), 22, 863), ((4, 120), 35, 883), ((6, 13), 10, 121), ((6, 22), 38, 124), ((6, 51), 45, 411), ((6, 59), 73, 423),
  ((6, 65), 46, 424), ((6, 68), 50, 444), ((6, 71), 51, 450), ((6, 75), 64, 415), ((6, 80), 65, 416), ((6, 88), 74, 417), ((6, 92), 12, 422), ((6, 95), 41, 428),
  ((6, 98), 47, 429), ((6, 102), 49, 440), ((6, 105), 40, 433), ((6, 107), 39, 434), ((6, 111), 11, 435), ((6, 113), 48, 436), ((6, 121), 13, 449), ((6, 124), 57, 737),
  ((6, 127), 61, 466), ((7, 13), 10, 89), ((7, 27), 14, 603), ((7, 31), 11, 285), ((7, 35), 12, 289), ((7, 39), 70, 301), ((7, 48), 71, 306), ((7, 51), 73, 421),
  ((8, 44), 110, 528), ((8, 48), 72, 330), ((8, 52), 63, 599), ((8, 56), 43, 293), ((8, 59), 106, 612), ((8, 63), 107, 635), ((8, 66), 66, 639), ((8, 70), 67, 640),
  ((8, 73), 65, 322), ((8, 76), 70, 651), ((8, 80), 68, 659), ((8, 83), 69, 281), ((8, 86), 73, 297), ((8, 89), 64, 314), ((8, 92), 71, 684), ((8, 95), 16, 342),
  ((8, 99), 109, 616), ((8, 102), 74, 692), ((8, 105), 44, 407), ((8, 109), 52, 454), ((8, 112), 53, 700), ((8, 115), 54, 711), ((8, 118), 55, 722), ((8, 121), 56, 733),
  ((8, 124), 58, 748), ((8, 128), 59, 516), ((8, 131), 60, 462), ((8, 134), 1, 474), ((8, 137), 9, 507), ((8, 139), 8, 766), ((8, 142), 108, 778), ((8, 145), 2, 798),
  ((8, 148), 27, 816), ((8, 152), 35, 868), ((8, 155), 36, 879), ((8, 158), 37, 891), ((9, 52), 116, 966), ((9, 56), 117, 962), ((9, 60), 118, 1001), ((9, 63), 113, 954),
  ((9, 67), 119, 958), ((9, 71), 114, 974), ((9, 74), 115, 978), ((9, 77), 122, 982), ((9, 80), 120, 997), ((9, 83), 129, 1017), ((9, 87), 136, 1045), ((9, 90), 138, 1061),
  ((9, 96), 139, 1057), ((9, 100), 140, 1053), ((9, 103), 144, 1068), ((9, 106), 141, 1072), ((9, 109), 142, 1084), ((9, 112), 150, 1100), ((9, 115), 153, 1120), ((9, 118), 154, 1116),
  ((9, 122), 155, 1112), ((9, 126), 163, 1155), ((9, 129), 161, 1174), ((9, 132), 160, 1163), ((9, 136), 162, 1159), ((9, 139), 166, 1147), ((9, 142), 165, 1151), ((9, 145), 167, 1166),
  ((9, 148), 164, 1170), ((9, 152), 169, 1140), ((9, 155), 168, 1143), ((9, 158), 171, 1182), ((10, 7), 76, 524), ((10, 15), 77, 608), ((10, 21), 78, 647), ((10, 24), 79, 655),
  ((10, 27), 83, 666), ((10, 30), 84, 673), ((10, 34), 85, 680), ((10, 37), 89, 688), ((10, 40), 91, 696), ((10, 43), 92, 707), ((10, 46), 93, 718), ((10, 49), 94, 729),
  ((10, 52), 95, 744), ((10, 55), 96, 755), ((10, 58), 99, 762), ((10, 61), 100, 774), ((10, 67), 101, 805), ((10, 70), 102, 812), ((10, 73), 103, 875), ((10, 76), 104, 887),
  ((10, 79), 75, 75), ((10, 82), 111, 897), ((10, 83), 175, 520), ((10, 88), 121, 950), ((10, 89), 112, 946), ((10, 92), 176, 604), ((10, 95), 123, 970), ((10, 96), 177, 644),
  ((10, 98), 124, 985), ((10, 99), 178, 652), ((10, 101), 125, 989), ((10, 102), 80, 277), ((10, 105), 126, 993), ((10, 106), 81, 310), ((10, 109), 127, 1005), ((10, 110), 82, 318),
  ((10, 113), 128, 1009), ((10, 114), 179, 663), ((10, 116), 130, 1013), ((10, 117), 180, 670), ((10, 120), 131, 1021), ((10, 121), 181, 677), ((10, 123), 132, 1025), ((10, 124), 86, 326),
  ((10, 127), 133, 1029), ((10, 128), 87, 334), ((10, 131), 134, 1033), ((10, 132), 88, 338), ((10, 135), 135, 1037), ((10, 136), 182, 685), ((10, 138), 137, 1041), ((10, 139), 90, 403),
  ((10, 142), 143, 1049), ((10, 143), 183, 693), ((10, 145), 145, 1064), ((10, 146), 184, 704), ((10, 148), 146, 1076), ((10, 149), 185, 715), ((10, 151), 147, 1080), ((10, 152), 186, 726),
  ((10, 154), 148, 1088), ((10, 155), 187, 741), ((10, 157), 149, 1092), ((10, 158), 188, 752), ((10, 160), 151, 1096), ((10, 161), 97, 458), ((10, 164), 152, 1104), ((10, 165), 98, 470),
  ((10, 168), 156, 1108), ((10, 169), 189, 759), ((10, 171), 157, 1124), ((10, 172), 190, 770), ((10, 175), 158, 1128), ((10, 176), 191, 802), ((10, 178), 159, 1132), ((10, 179), 192, 809),
  ((10, 181), 170, 1136), ((10, 182), 193, 872), ((10, 184), 172, 1178), ((10, 185), 194, 884), ((10, 187), 173, 1186), ((10, 188), 105, 512), ((10, 192), 174, 1190)]
def NLp : List ((Nat × Nat) × Nat × Nat) := [((2, 9), 18, 201), ((4, 11), 18, 233), ((8, 9), 62, 83), ((8, 18), 42, 116), ((8, 25), 0, 175), ((8, 32), 15, 195), ((8, 39), 26, 228)]
def CLp : List ((Nat × Nat) × Nat × Nat) := [((0, 9), 1, 179), ((0, 20), 5, 181), ((2, 7), 3, 199), ((3, 9), 1, 205), ((3, 20), 5, 207), ((4, 9), 3, 232), ((4, 18), 1, 234), ((6, 11), 1, 120),
  ((6, 20), 5, 122), ((7, 9), 1, 87), ((8, 7), 7, 81), ((8, 16), 6, 114), ((8, 23), 0, 173), ((8, 30), 2, 193), ((8, 37), 4, 226), ((10, 8), 8, 73),
  ((10, 80), 9, 895)]
/-- per class: where it says that it can be made, and is ready -/
def cps : List (Nat × Nat) := [(174, 62), (88, 58), (194, 63), (200, 64), (227, 65), (123, 61), (115, 60), (82, 57), (74, 56), (896, 66), (0, 55)]
theorem lay_0 : (u_ws RX0 TX0 3).map some = [186, 188, 190].map (fun i => lw_tbl[i]?) := by decide +kernel
theorem lay_1 : (u_ws RX1 TX1 2).map some = [98, 100].map (fun i => lw_tbl[i]?) := by decide +kernel
theorem lay_2 : (u_ws RX2 TX2 1).map some = [223].map (fun i => lw_tbl[i]?) := by decide +kernel
theorem lay_3 : (u_ws RX3 TX3 4).map some = [213, 215, 217, 219].map (fun i => lw_tbl[i]?) := by decide +kernel
theorem lay_4 : (u_ws RX4 TX4 8).map some = [244, 246, 248, 250, 252, 254, 256, 258].map (fun i => lw_tbl[i]?) := by decide +kernel
theorem lay_5 : (u_ws RX5 TX5 1).map some = [130].map (fun i => lw_tbl[i]?) := by decide +kernel
theorem lay_6 : (u_ws RX6 TX6 13).map some = [146, 148, 150, 152, 154, 156, 158, 160, 162, 164, 166, 168, 170].map (fun i => lw_tbl[i]?) := by decide +kernel
theorem lay_7 : (u_ws RX7 TX7 3).map some = [107, 109, 111].map (fun i => lw_tbl[i]?) := by decide +kernel
theorem lay_8 : (u_ws RX8 TX8 5).map some = [266, 268, 270, 272, 274].map (fun i => lw_tbl[i]?) := by decide +kernel
theorem lay_9 : (u_ws RX9 TX9 14).map some = [916, 918, 920, 922, 924, 926, 928, 930, 932, 934, 936, 938, 940, 942].map (fun i => lw_tbl[i]?) := by decide +kernel
/-- per method: where its code, static or instance, selects stand; how many parameters -/
def mps : List (Nat × Nat × Nat × Nat) := [(177, 176, 0, 0), (477, 475, 476, 1), (801, 799, 800, 1), (481, 480, 11, 2), (489, 488, 12, 4), (494, 493, 13, 3), (500, 499, 14, 4), (506, 505, 15, 1), (769, 767, 768, 2), (510, 508, 509, 0),
  (91, 90, 0, 2), (288, 286, 287, 2), (292, 290, 291, 3), (371, 369, 370, 3), (363, 361, 362, 1), (197, 196, 0, 0), (345, 343, 344, 1), (350, 349, 0, 3), (203, 202, 0, 0), (356, 354, 355, 1),
  (367, 365, 366, 3), (862, 860, 861, 2), (866, 864, 865, 2), (381, 379, 380, 3), (385, 384, 1, 2), (402, 401, 2, 3), (230, 229, 0, 0), (819, 817, 818, 2), (823, 822, 21, 2), (835, 834, 22, 1),
  (840, 839, 23, 2), (846, 845, 24, 2), (851, 850, 25, 5), (858, 857, 26, 2), (830, 829, 0, 2), (871, 869, 870, 2), (882, 880, 881, 0), (894, 892, 893, 0), (126, 125, 0, 1), (397, 395, 396, 1),
  (393, 391, 392, 2), (389, 387, 388, 1), (118, 117, 0, 0), (296, 294, 295, 0), (410, 408, 409, 1), (414, 413, 3, 1), (427, 426, 4, 0), (432, 431, 5, 2), (439, 438, 6, 2), (443, 442, 7, 1),
  (447, 446, 8, 0), (453, 452, 9, 3), (457, 455, 456, 0), (703, 701, 702, 1), (714, 712, 713, 1), (725, 723, 724, 2), (736, 734, 735, 2), (740, 739, 19, 2), (751, 749, 750, 3), (519, 517, 518, 1),
  (465, 463, 464, 0), (469, 468, 10, 2), (85, 84, 0, 0), (602, 600, 601, 2), (317, 315, 316, 0), (325, 323, 324, 0), (377, 375, 376, 2), (643, 641, 642, 3), (662, 660, 661, 2), (284, 282, 283, 0),
  (304, 302, 303, 1), (309, 307, 308, 1), (333, 331, 332, 0), (300, 298, 299, 0), (420, 418, 419, 2), (77, 76, 0, 0), (527, 525, 526, 2), (611, 609, 610, 3), (650, 648, 649, 3), (658, 656, 657, 2),
  (280, 278, 279, 0), (313, 311, 312, 0), (321, 319, 320, 0), (669, 667, 668, 2), (676, 674, 675, 1), (683, 681, 682, 1), (329, 327, 328, 0), (337, 335, 336, 0), (341, 339, 340, 0), (691, 689, 690, 2),
  (406, 404, 405, 0), (699, 697, 698, 1), (710, 708, 709, 1), (721, 719, 720, 2), (732, 730, 731, 2), (747, 745, 746, 3), (758, 756, 757, 1), (461, 459, 460, 0), (473, 471, 472, 0), (765, 763, 764, 2),
  (777, 775, 776, 0), (808, 806, 807, 2), (815, 813, 814, 3), (878, 876, 877, 1), (890, 888, 889, 1), (515, 513, 514, 0), (615, 614, 17, 1), (638, 637, 18, 1), (781, 780, 20, 0), (618, 617, 0, 2),
  (530, 529, 0, 3), (899, 898, 0, 0), (949, 947, 948, 0), (957, 956, 27, 1), (977, 976, 31, 1), (981, 980, 32, 1), (969, 968, 30, 2), (965, 964, 29, 1), (1004, 1003, 34, 1), (961, 960, 28, 0),
  (1000, 999, 33, 0), (953, 951, 952, 2), (984, 983, 0, 1), (973, 971, 972, 3), (988, 986, 987, 3), (992, 990, 991, 2), (996, 994, 995, 0), (1008, 1006, 1007, 0), (1012, 1010, 1011, 0), (1020, 1019, 35, 2),
  (1016, 1014, 1015, 2), (1024, 1022, 1023, 1), (1028, 1026, 1027, 1), (1032, 1030, 1031, 0), (1036, 1034, 1035, 0), (1040, 1038, 1039, 0), (1048, 1047, 36, 2), (1044, 1042, 1043, 2), (1063, 1062, 0, 1), (1060, 1059, 38, 1),
  (1056, 1055, 37, 0), (1075, 1074, 40, 1), (1087, 1086, 41, 2), (1052, 1050, 1051, 0), (1071, 1070, 39, 1), (1067, 1065, 1066, 1), (1079, 1077, 1078, 1), (1083, 1081, 1082, 2), (1091, 1089, 1090, 2), (1095, 1093, 1094, 3),
  (1103, 1102, 42, 1), (1099, 1097, 1098, 1), (1107, 1105, 1106, 0), (1123, 1122, 45, 2), (1119, 1118, 44, 3), (1115, 1114, 43, 1), (1111, 1109, 1110, 0), (1127, 1125, 1126, 2), (1131, 1129, 1130, 0), (1135, 1133, 1134, 2),
  (1165, 1164, 0, 4), (1177, 1176, 53, 2), (1162, 1161, 50, 2), (1158, 1157, 49, 2), (1173, 1172, 52, 4), (1154, 1153, 48, 2), (1150, 1149, 47, 0), (1169, 1168, 51, 2), (1146, 1145, 46, 1), (1142, 1141, 0, 1),
  (1139, 1137, 1138, 3), (1185, 1184, 54, 0), (1181, 1179, 1180, 1), (1189, 1187, 1188, 1), (1193, 1191, 1192, 0), (522, 521, 0, 4), (606, 605, 0, 5), (646, 645, 0, 5), (654, 653, 0, 4), (665, 664, 0, 4),
  (672, 671, 0, 3), (679, 678, 0, 3), (687, 686, 0, 4), (695, 694, 0, 3), (706, 705, 0, 3), (717, 716, 0, 4), (728, 727, 0, 4), (743, 742, 0, 5), (754, 753, 0, 3), (761, 760, 0, 4),
  (772, 771, 0, 2), (804, 803, 0, 4), (811, 810, 0, 5), (874, 873, 0, 3), (886, 885, 0, 3)]
/-- Object.<init>, Math.max, Math.min -/
def OLp : List ((Nat × Nat) × Nat × Nat) := [((0, 3), 45, 178), ((0, 80), 46, 511), ((1, 1), 45, 92), ((1, 13), 46, 93), ((2, 1), 45, 198), ((3, 3), 45, 204), ((3, 32), 47, 357), ((4, 3), 45, 231),
  ((5, 1), 45, 127), ((5, 7), 46, 128), ((6, 5), 45, 119), ((6, 116), 47, 448), ((7, 3), 45, 86), ((7, 43), 46, 305), ((8, 1), 45, 78), ((9, 1), 45, 900)]
/-- the real instruction of a row -/
def iof (pc : Nat) (i : AI) : Instr := match i with
  | (op, nx, a, b, ix) => match op with
    | 0 => if nx - pc = 1 then .iload_n (Fin.ofNat 4 a) else .iload a
    | 1 => if nx - pc = 1 then .aload_n (Fin.ofNat 4 a) else .aload a
    | 2 => if nx - pc = 1 then .dload_n (Fin.ofNat 4 a) else .dload a
    | 3 => if nx - pc = 1 then .istore_n (Fin.ofNat 4 a) else .istore a
    | 4 => if nx - pc = 1 then .astore_n (Fin.ofNat 4 a) else .astore a
    | 5 => if nx - pc = 1 then .dstore_n (Fin.ofNat 4 a) else .dstore a
    | 6 => if nx - pc = 1 then .iconst b else if nx - pc = 2 then .bipush b else .sipush b
    | 7 => .ldc ix
    | 8 => .dconst 0
    | 9 => .iadd
    | 10 => .isub
    | 11 => .imul
    | 12 => .idiv
    | 13 => .irem
    | 14 => .ineg
    | 15 => .iand
    | 16 => .ior
    | 17 => .ishl
    | 18 => .ishr
    | 19 => .iinc a b
    | 20 => .i2l
    | 21 => .i2d
    | 22 => .lcmp
    | 23 => .dcmp .l
    | 24 => .ddiv
    | 25 => .dup
    | 26 => .dup2
    | 27 => .pop
    | 28 => .goto ((a : Int) - pc)
    | 29 => .ifCond (match b with | 0 => .eq | 1 => .ne | 2 => .lt | 3 => .ge | 4 => .gt | _ => .le) ((a : Int) - pc)
    | 30 => .if_icmp (match b with | 0 => .eq | 1 => .ne | 2 => .lt | 3 => .ge | 4 => .gt | _ => .le) ((a : Int) - pc)
    | 31 => .getfield ix
    | 32 => .putfield ix
    | 33 => .putfield ix
    | 34 => .putfield ix
    | 35 => .putfield ix
    | 36 => .arraylength
    | 37 => .iaload
    | 38 => .baload
    | 39 => .laload
    | 40 => .iastore
    | 41 => .bastore
    | 42 => .lastore
    | 43 => .newarray (match a with | 0 => .int | 1 => .boolean | _ => .long)
    | 44 => .new ix
    | 45 => .invokespecial ix
    | 46 => .invokestatic ix
    | 47 => .invokestatic ix
    | 48 => .tableswitch ((a : Int) - pc) 0 ((swt.length : Int) - 1) ((swt.map (fun (t : Nat) => (t : Int) - pc)).toArray)
    | 60 => match (mt a).2.2.1 with | 0 => .invokestatic ix | 1 => .invokespecial ix | _ => .invokevirtual ix
    | 61 => .ireturn
    | 62 => .ireturn
    | 63 => .return_
    | _ => .dreturn
/-- the throw's rows: class link, text, constructor, names above it -/
def thr : List (Nat × Nat × Nat × Nat × Nat) := [(108, 161, 163, 165, 2), (109, 168, 170, 172, 0), (110, 173, 175, 177, 1)]
def xN (E : Nat) : String := match E with | 0 => "java/lang/IndexOutOfBoundsException" | 1 => "java/lang/IllegalArgumentException" | _ => "java/lang/IllegalStateException"
def vok (k : Nat) (e : Nat × AI) : Bool := match e with
  | (pc, (op, nx, a, b, ix)) => Nat.blt pc nx && (match op with
    | 65 => decide (nx = pc + 10 ∧ (thr.find? (fun q => q.1 == k)).isSome ∧ hhT k = [] ∧ 6 ≤ (mt k).2.2.2.2.1 ∧ 90 ≤ (mt k).2.2.2.2.2)
    | _ => decide (decode (bN k) pc = .ok (iof pc (op, nx, a, b, ix), nx - pc))) && (match op with
    | 0 => decide (nx - pc = 1 ∧ a < 4 ∨ nx - pc = 2)
    | 1 => decide (nx - pc = 1 ∧ a < 4 ∨ nx - pc = 2)
    | 2 => decide (nx - pc = 1 ∧ a < 4 ∨ nx - pc = 2)
    | 3 => decide (nx - pc = 1 ∧ a < 4 ∨ nx - pc = 2)
    | 4 => decide (nx - pc = 1 ∧ a < 4 ∨ nx - pc = 2)
    | 5 => decide (nx - pc = 1 ∧ a < 4 ∨ nx - pc = 2)
    | 6 => decide (nx - pc = 1 ∨ nx - pc = 2 ∧ (Int8.ofInt b).toInt32 = Int32.ofInt b ∨ nx - pc = 3 ∧ (Int16.ofInt b).toInt32 = Int32.ofInt b)
    | 7 => decide (nx - pc = 2 ∧ (mt k).1 = 9 ∧ ix = 42 ∧ b = 46656)
    | 19 => decide (nx - pc = 3)
    | 28 => decide (nx - pc = 3)
    | 29 => decide (nx - pc = 3)
    | 30 => decide (nx - pc = 3)
    | 31 => decide (nx - pc = 3 ∧ (FLp.lookup ((mt k).1, ix)).map (fun q => (q.1, q.2.1)) = some (b.toNat, a))
    | 32 => decide (nx - pc = 3 ∧ (FLp.lookup ((mt k).1, ix)).map (fun q => (q.1, q.2.1)) = some (b.toNat, a) ∧ (TN b.toNat a).2.2 = ("I", false))
    | 33 => decide (nx - pc = 3 ∧ (FLp.lookup ((mt k).1, ix)).map (fun q => (q.1, q.2.1)) = some (b.toNat, a) ∧ (TN b.toNat a).2.2 = ("Z", false))
    | 34 => decide (nx - pc = 3 ∧ (FLp.lookup ((mt k).1, ix)).map (fun q => (q.1, q.2.1)) = some (b.toNat, a) ∧ (TN b.toNat a).2.2 = ("I", true) ∧ (mt k).2.2.1 = 1 ∧ (TN b.toNat a).1 = RN (mt k).1)
    | 35 => decide (nx - pc = 3 ∧ (FLp.lookup ((mt k).1, ix)).map (fun q => (q.1, q.2.1)) = some (b.toNat, a) ∧ (TN b.toNat a).2.2.2 = true ∧ (mt k).2.2.1 = 1 ∧ (TN b.toNat a).1 = RN (mt k).1 ∧ (match tyN b.toNat a with | .object _ => true | .array _ => true | _ => false) = true)
    | 43 => decide (nx - pc = 2 ∧ a < 3)
    | 44 => decide (nx - pc = 3 ∧ (CLp.lookup ((mt k).1, ix)).map (fun q => q.1) = some a)
    | 45 => decide (nx - pc = 3 ∧ (OLp.lookup ((mt k).1, ix)).map (fun q => q.1) = some 45 ∧ 1 ≤ (mt k).2.2.2.2.1 ∧ 20 ≤ (mt k).2.2.2.2.2)
    | 46 => decide (nx - pc = 3 ∧ (OLp.lookup ((mt k).1, ix)).map (fun q => q.1) = some 46 ∧ 1 ≤ (mt k).2.2.2.2.1 ∧ 21 ≤ (mt k).2.2.2.2.2)
    | 47 => decide (nx - pc = 3 ∧ (OLp.lookup ((mt k).1, ix)).map (fun q => q.1) = some 47 ∧ 1 ≤ (mt k).2.2.2.2.1 ∧ 21 ≤ (mt k).2.2.2.2.2)
    | 60 => decide (nx - pc = 3 ∧ a < 195 ∧ ((MLp.lookup ((mt k).1, ix)).map (fun q => q.1) = some a ∨ (NLp.lookup ((mt k).1, ix)).map (fun q => q.1) = some a ∧ (mt a).2.2.1 = 1) ∧
        (mt a).2.2.2.2.1 + 1 ≤ (mt k).2.2.2.2.1 ∧ 8 + ((mt a).2.1 + 11) + (mt a).2.2.2.2.2 ≤ (mt k).2.2.2.2.2 ∧
        b.toNat = (mps.getD a (0, 0, 0, 0)).2.2.2 + (if (mt a).2.2.1 = 0 then 0 else 1) ∧ b.toNat ≤ (mt a).2.1)
    | 61 => decide (nx - pc = 1 ∧ (mt k).2.2.2.1 = 1)
    | 62 => decide (nx - pc = 1 ∧ (mt k).2.2.2.1 = 2)
    | 63 => decide (nx - pc = 1 ∧ (mt k).2.2.2.1 = 0)
    | 64 => decide (nx - pc = 1 ∧ (mt k).2.2.2.1 = 3)
    | 65 => true
    | 48 => true
    | _ => decide (nx - pc = 1))

