/-! links by their places among the words; each instruction held against the bytes -/
def RN (c : Nat) : String := match c with
  | 0 => RX0
  | 1 => RX1
  | 2 => RX2
  | 3 => RX3
  | 4 => RX4
  | 5 => RX5
  | 6 => RX6
  | 7 => RX7
  | 8 => RX8
  | _ => RL
def TN (c : Nat) : u_T := match c with
  | 0 => TX0
  | 1 => TX1
  | 2 => TX2
  | 3 => TX3
  | 4 => TX4
  | 5 => TX5
  | 6 => TX6
  | 7 => TX7
  | _ => TX8
def tyN (c : Nat) : Nat → FieldType := match c with
  | 0 => tyX0
  | 1 => tyX1
  | 2 => tyX2
  | 3 => tyX3
  | 4 => tyX4
  | 5 => tyX5
  | 6 => tyX6
  | 7 => tyX7
  | _ => tyX8
def NN (c : Nat) : Nat := match c with
  | 0 => 3
  | 1 => 2
  | 2 => 1
  | 3 => 4
  | 4 => 8
  | 5 => 1
  | 6 => 13
  | 7 => 3
  | _ => 5
def yNs : List MethodName := [yX0_init, yX0_makeDense, yX0_makeAlternate, yX0_dispatch, yX0_chooseJob, yX0_waiting, yX0_beginOn, yX0_nextEnd, yX0_beginOf, yX0_lastEnd,
  yX1_init, yX1_get, yX1_put, yX1_add, yX1_fill, yX2_init, yX2_least, yX2_carriesAll, yX3_init, yX3_clear,
  yX3_widen, yX3_roomBetween, yX3_shut, yX3_push, yX3_search, yX3_sendAlong, yX4_init, yX4_make, yX4_roundDown, yX4_layOut,
  yX4_openEntries, yX4_boundSums, yX4_boundEdge, yX4_settle, yX4_quotient, yX4_entry, yX4_sumOfEntries, yX4_countUp, yX5_init, yX5_get,
  yX5_put, yX5_fill, yX6_init, yX6_forget, yX6_prepare, yX6_copyFilled, yX6_pickColumns, yX6_seat, yX6_moveChain, yX6_moveForward,
  yX6_takeOff, yX6_record, yX6_sliceCount, yX6_startOf, yX6_lengthOf, yX6_machineOf, yX6_jobOn, yX6_jobInSlice, yX6_workedUpTo, yX6_lastEnd,
  yX6_countBreaks, yX6_isBroken, yX7_init, yX7_resize, yX7_jobCount, yX7_machineCount, yX7_timeOf, yX7_putTime, yX7_swapTimes, yX7_turnOver,
  yX7_sumOfJob, yX7_sumOfMachine, yX7_sumOfAll, yX7_greatestSum, yX7_filledEntry, yX8_init, yX8_setSize, yX8_set, yX8_setJob, yX8_swapJobs,
  yX8_transpose, yX8_jobs, yX8_machines, yX8_time, yX8_jobTotal, yX8_machineTotal, yX8_total, yX8_bound, yX8_boundByFlow, yX8_filled,
  yX8_slices, yX8_sliceStart, yX8_sliceLength, yX8_machineIn, yX8_jobAt, yX8_done, yX8_finishOf, yX8_interruptions, yX8_denseLength, yX8_denseStart,
  yX8_alternateLength, yX8_alternateStart, yX8_rounded, yX8_roundedTotal, yX8_roundedUp, yX8_meanFinish, yX8_needJob, yX8_needMachine, yX8_needTwoMachines, yX8_needIndex,
  yX8_needRange, yL_draw, yL_step, yL_areTotals, yL_areSlices, yL_begins, yL_isPlan, yL_isRounded, yL_areRounded, yL_law]
def bNs : List ByteArray := [cX0_init, cX0_makeDense, cX0_makeAlternate, cX0_dispatch, cX0_chooseJob, cX0_waiting, cX0_beginOn, cX0_nextEnd, cX0_beginOf, cX0_lastEnd,
  cX1_init, cX1_get, cX1_put, cX1_add, cX1_fill, cX2_init, cX2_least, cX2_carriesAll, cX3_init, cX3_clear,
  cX3_widen, cX3_roomBetween, cX3_shut, cX3_push, cX3_search, cX3_sendAlong, cX4_init, cX4_make, cX4_roundDown, cX4_layOut,
  cX4_openEntries, cX4_boundSums, cX4_boundEdge, cX4_settle, cX4_quotient, cX4_entry, cX4_sumOfEntries, cX4_countUp, cX5_init, cX5_get,
  cX5_put, cX5_fill, cX6_init, cX6_forget, cX6_prepare, cX6_copyFilled, cX6_pickColumns, cX6_seat, cX6_moveChain, cX6_moveForward,
  cX6_takeOff, cX6_record, cX6_sliceCount, cX6_startOf, cX6_lengthOf, cX6_machineOf, cX6_jobOn, cX6_jobInSlice, cX6_workedUpTo, cX6_lastEnd,
  cX6_countBreaks, cX6_isBroken, cX7_init, cX7_resize, cX7_jobCount, cX7_machineCount, cX7_timeOf, cX7_putTime, cX7_swapTimes, cX7_turnOver,
  cX7_sumOfJob, cX7_sumOfMachine, cX7_sumOfAll, cX7_greatestSum, cX7_filledEntry, cX8_init, cX8_setSize, cX8_set, cX8_setJob, cX8_swapJobs,
  cX8_transpose, cX8_jobs, cX8_machines, cX8_time, cX8_jobTotal, cX8_machineTotal, cX8_total, cX8_bound, cX8_boundByFlow, cX8_filled,
  cX8_slices, cX8_sliceStart, cX8_sliceLength, cX8_machineIn, cX8_jobAt, cX8_done, cX8_finishOf, cX8_interruptions, cX8_denseLength, cX8_denseStart,
  cX8_alternateLength, cX8_alternateStart, cX8_rounded, cX8_roundedTotal, cX8_roundedUp, cX8_meanFinish, cX8_needJob, cX8_needMachine, cX8_needTwoMachines, cX8_needIndex,
  cX8_needRange, cL_draw, cL_step, cL_areTotals, cL_areSlices, cL_begins, cL_isPlan, cL_isRounded, cL_areRounded, cL_law]
def yN (k : Nat) : MethodName := yNs.getD k yL_law
def bN (k : Nat) : ByteArray := bNs.getD k code
def retT (r : Nat) : Option FieldType := match r with
  | 0 => none
  | 1 => some .int
  | 2 => some .boolean
  | _ => some .double
def hhs : List (Nat × List (Nat × Nat × Nat × Nat)) := []
def hhT (k : Nat) : List (Nat × Nat × Nat × Nat) := (hhs.lookup k).getD []
def mD : Nat × Nat × Nat × Nat × Nat × Nat := (9, 6, 0, 2, 0, 0)
def mt (k : Nat) : Nat × Nat × Nat × Nat × Nat × Nat := mts.getD k mD
def codeW (k : Nat) : Cond := match hhT k with
  | [] => .code (yN k) (bN k) (mt k).2.1 (retT (mt k).2.2.2.1)
  | q :: r => .codeWith (yN k) (bN k) (mt k).2.1 (retT (mt k).2.2.2.1) (q :: r)
def GW : List Cond := lw_tbl.filter goodWord
theorem GW_at {i : Nat} {w : Cond} (h : lw_tbl[i]? = some w) (g : goodWord w = true) : w ∈ GW := List.mem_filter.mpr ⟨List.mem_of_getElem? h, g⟩
def FLp : List ((Nat × Nat) × Nat × Nat × Nat) := [((0, 14), 0, 0, 154), ((0, 25), 0, 1, 155), ((0, 29), 0, 2, 156), ((1, 7), 1, 0, 67), ((1, 19), 1, 1, 68), ((2, 10), 2, 0, 193),
  ((3, 16), 3, 0, 180), ((3, 25), 3, 1, 181), ((3, 29), 3, 2, 182), ((3, 38), 3, 3, 183), ((4, 12), 4, 0, 207), ((4, 23), 4, 1, 208),
  ((4, 27), 4, 2, 209), ((4, 44), 4, 5, 212), ((4, 48), 4, 6, 213), ((4, 51), 4, 7, 214), ((4, 67), 4, 3, 210), ((4, 88), 4, 4, 211),
  ((5, 13), 5, 0, 100), ((6, 16), 6, 0, 104), ((6, 25), 6, 1, 105), ((6, 29), 6, 2, 106), ((6, 32), 6, 3, 107), ((6, 35), 6, 4, 108),
  ((6, 38), 6, 5, 109), ((6, 41), 6, 6, 110), ((6, 44), 6, 7, 111), ((6, 47), 6, 8, 112), ((6, 55), 6, 12, 116), ((6, 78), 6, 9, 113),
  ((6, 83), 6, 10, 114), ((6, 85), 6, 11, 115), ((7, 16), 7, 0, 75), ((7, 20), 7, 1, 76), ((7, 24), 7, 2, 77), ((8, 10), 8, 0, 232),
  ((8, 19), 8, 1, 233), ((8, 26), 8, 2, 234), ((8, 33), 8, 3, 235), ((8, 40), 8, 4, 236)]
def MLp : List ((Nat × Nat) × Nat × Nat) := [((0, 11), 10, 151), ((0, 22), 38, 153), ((0, 32), 3, 673), ((0, 36), 14, 677), ((0, 39), 41, 678), ((0, 40), 65, 679), ((0, 46), 39, 680), ((0, 50), 4, 681),
  ((0, 54), 6, 692), ((0, 58), 7, 698), ((0, 61), 64, 685), ((0, 64), 5, 686), ((0, 68), 11, 690), ((0, 71), 66, 691), ((0, 74), 12, 696), ((0, 78), 40, 697),
  ((1, 23), 11, 509), ((1, 26), 12, 510), ((2, 16), 72, 486), ((2, 22), 17, 487), ((2, 26), 64, 491), ((2, 29), 65, 492), ((2, 32), 19, 493), ((2, 36), 20, 501),
  ((2, 40), 66, 511), ((2, 44), 23, 512), ((3, 13), 10, 177), ((3, 22), 38, 179), ((3, 42), 14, 500), ((3, 45), 13, 505), ((3, 49), 11, 532), ((3, 52), 12, 805),
  ((3, 55), 24, 516), ((3, 59), 25, 533), ((3, 63), 41, 520), ((3, 64), 40, 524), ((3, 66), 39, 528), ((4, 20), 10, 206), ((4, 30), 28, 758), ((4, 34), 29, 770),
  ((4, 38), 30, 775), ((4, 41), 31, 781), ((4, 54), 23, 792), ((4, 58), 64, 763), ((4, 64), 65, 764), ((4, 70), 33, 793), ((4, 74), 12, 769), ((4, 78), 14, 762),
  ((4, 82), 66, 765), ((4, 85), 34, 766), ((4, 91), 19, 774), ((4, 94), 11, 779), ((4, 97), 20, 780), ((4, 100), 70, 785), ((4, 104), 32, 786), ((4, 108), 71, 790),
  ((4, 111), 72, 791), ((4, 114), 21, 797), ((4, 117), 22, 801), ((4, 120), 35, 821), ((6, 13), 10, 92), ((6, 22), 38, 95), ((6, 51), 45, 548), ((6, 59), 73, 556),
  ((6, 65), 46, 557), ((6, 68), 50, 577), ((6, 71), 51, 583), ((6, 75), 64, 552), ((6, 80), 65, 553), ((6, 88), 74, 554), ((6, 92), 12, 555), ((6, 95), 41, 561),
  ((6, 98), 47, 562), ((6, 102), 49, 573), ((6, 105), 40, 566), ((6, 107), 39, 567), ((6, 111), 11, 568), ((6, 113), 48, 569), ((6, 121), 13, 582), ((6, 124), 57, 623),
  ((6, 127), 61, 655), ((7, 13), 10, 60), ((7, 27), 14, 368), ((7, 31), 11, 276), ((7, 35), 12, 432), ((7, 39), 70, 272), ((7, 48), 71, 385), ((7, 51), 73, 472),
  ((8, 44), 110, 293), ((8, 48), 72, 268), ((8, 52), 63, 364), ((8, 56), 43, 372), ((8, 59), 106, 393), ((8, 63), 107, 416), ((8, 66), 66, 420), ((8, 70), 67, 453),
  ((8, 73), 65, 260), ((8, 76), 70, 440), ((8, 80), 68, 445), ((8, 83), 69, 428), ((8, 86), 73, 380), ((8, 89), 64, 252), ((8, 92), 71, 477), ((8, 95), 16, 482),
  ((8, 99), 109, 397), ((8, 102), 74, 468), ((8, 105), 44, 544), ((8, 109), 52, 587), ((8, 112), 53, 595), ((8, 115), 54, 603), ((8, 118), 55, 611), ((8, 121), 56, 619),
  ((8, 124), 58, 631), ((8, 128), 59, 639), ((8, 131), 60, 651), ((8, 134), 1, 669), ((8, 137), 9, 738), ((8, 139), 8, 702), ((8, 142), 108, 710), ((8, 145), 2, 730),
  ((8, 148), 27, 754), ((8, 152), 35, 806), ((8, 155), 36, 817), ((8, 158), 37, 826), ((9, 10), 81, 248), ((9, 16), 82, 256), ((9, 19), 86, 264), ((9, 22), 76, 289),
  ((9, 26), 87, 376), ((9, 29), 83, 389), ((9, 32), 80, 424), ((9, 35), 84, 436), ((9, 39), 79, 441), ((9, 42), 78, 449), ((9, 46), 77, 457), ((9, 49), 89, 464),
  ((9, 52), 85, 473), ((9, 55), 88, 478), ((9, 58), 90, 540), ((9, 61), 91, 591), ((9, 64), 92, 599), ((9, 67), 93, 607), ((9, 72), 94, 615), ((9, 75), 95, 627),
  ((9, 78), 96, 635), ((9, 81), 105, 643), ((9, 85), 97, 647), ((9, 88), 99, 665), ((9, 91), 101, 706), ((9, 94), 115, 662), ((9, 98), 98, 734), ((9, 101), 100, 743),
  ((9, 104), 102, 750), ((9, 107), 117, 810), ((9, 111), 103, 813), ((9, 114), 104, 822), ((9, 117), 75, 46), ((9, 118), 113, 461), ((9, 122), 114, 537), ((9, 125), 111, 280),
  ((9, 129), 112, 286), ((9, 133), 116, 659), ((9, 137), 118, 747)]
def NLp : List ((Nat × Nat) × Nat × Nat) := [((2, 9), 18, 172), ((4, 11), 18, 204), ((8, 9), 62, 54), ((8, 18), 42, 87), ((8, 25), 0, 146), ((8, 32), 15, 166), ((8, 39), 26, 199)]
def CLp : List ((Nat × Nat) × Nat × Nat) := [((0, 9), 1, 150), ((0, 20), 5, 152), ((2, 7), 3, 170), ((3, 9), 1, 176), ((3, 20), 5, 178), ((4, 9), 3, 203), ((4, 18), 1, 205), ((6, 11), 1, 91),
  ((6, 20), 5, 93), ((7, 9), 1, 58), ((8, 7), 7, 52), ((8, 16), 6, 85), ((8, 23), 0, 144), ((8, 30), 2, 164), ((8, 37), 4, 197), ((9, 11), 8, 44)]
/-- per class: where it says that it can be made, and is ready -/
def cps : List (Nat × Nat) := [(145, 34), (59, 30), (165, 35), (171, 36), (198, 37), (94, 33), (86, 32), (53, 29), (45, 28), (0, 27)]
theorem lay_0 : (u_ws RX0 TX0 3).map some = [157, 159, 161].map (fun i => lw_tbl[i]?) := by decide +kernel
theorem lay_1 : (u_ws RX1 TX1 2).map some = [69, 71].map (fun i => lw_tbl[i]?) := by decide +kernel
theorem lay_2 : (u_ws RX2 TX2 1).map some = [194].map (fun i => lw_tbl[i]?) := by decide +kernel
theorem lay_3 : (u_ws RX3 TX3 4).map some = [184, 186, 188, 190].map (fun i => lw_tbl[i]?) := by decide +kernel
theorem lay_4 : (u_ws RX4 TX4 8).map some = [215, 217, 219, 221, 223, 225, 227, 229].map (fun i => lw_tbl[i]?) := by decide +kernel
theorem lay_5 : (u_ws RX5 TX5 1).map some = [101].map (fun i => lw_tbl[i]?) := by decide +kernel
theorem lay_6 : (u_ws RX6 TX6 13).map some = [117, 119, 121, 123, 125, 127, 129, 131, 133, 135, 137, 139, 141].map (fun i => lw_tbl[i]?) := by decide +kernel
theorem lay_7 : (u_ws RX7 TX7 3).map some = [78, 80, 82].map (fun i => lw_tbl[i]?) := by decide +kernel
theorem lay_8 : (u_ws RX8 TX8 5).map some = [237, 239, 241, 243, 245].map (fun i => lw_tbl[i]?) := by decide +kernel
/-- per method: where its code, static or instance, selects stand; how many parameters -/
def mps : List (Nat × Nat × Nat × Nat) := [(148, 147, 0, 0), (672, 670, 671, 1), (733, 731, 732, 1), (676, 675, 15, 2), (684, 683, 16, 4), (689, 688, 17, 3), (695, 694, 18, 4), (701, 700, 19, 1), (705, 703, 704, 2), (741, 739, 740, 0),
  (62, 61, 0, 2), (279, 277, 278, 2), (435, 433, 434, 3), (508, 506, 507, 3), (371, 369, 370, 1), (168, 167, 0, 0), (485, 483, 484, 1), (490, 489, 3, 3), (174, 173, 0, 0), (496, 494, 495, 1),
  (504, 502, 503, 3), (800, 798, 799, 2), (804, 802, 803, 2), (515, 513, 514, 3), (519, 518, 4, 2), (536, 535, 5, 3), (201, 200, 0, 0), (757, 755, 756, 2), (761, 760, 21, 2), (773, 772, 22, 1),
  (778, 777, 23, 2), (784, 783, 24, 2), (789, 788, 25, 5), (796, 795, 26, 2), (768, 767, 0, 2), (809, 807, 808, 2), (820, 818, 819, 0), (829, 827, 828, 0), (97, 96, 0, 1), (531, 529, 530, 1),
  (527, 525, 526, 2), (523, 521, 522, 1), (89, 88, 0, 0), (375, 373, 374, 0), (547, 545, 546, 1), (551, 550, 6, 1), (560, 559, 7, 0), (565, 564, 8, 2), (572, 571, 9, 2), (576, 575, 10, 1),
  (580, 579, 11, 0), (586, 585, 12, 3), (590, 588, 589, 0), (598, 596, 597, 1), (606, 604, 605, 1), (614, 612, 613, 2), (622, 620, 621, 2), (626, 625, 13, 2), (634, 632, 633, 3), (642, 640, 641, 1),
  (654, 652, 653, 0), (658, 657, 14, 2), (56, 55, 0, 0), (367, 365, 366, 2), (255, 253, 254, 0), (263, 261, 262, 0), (423, 421, 422, 2), (456, 454, 455, 3), (448, 446, 447, 2), (431, 429, 430, 0),
  (275, 273, 274, 1), (388, 386, 387, 1), (271, 269, 270, 0), (383, 381, 382, 0), (471, 469, 470, 2), (48, 47, 0, 0), (292, 290, 291, 2), (460, 458, 459, 3), (452, 450, 451, 3), (444, 442, 443, 2),
  (427, 425, 426, 0), (251, 249, 250, 0), (259, 257, 258, 0), (392, 390, 391, 2), (439, 437, 438, 1), (476, 474, 475, 1), (267, 265, 266, 0), (379, 377, 378, 0), (481, 479, 480, 0), (467, 465, 466, 2),
  (543, 541, 542, 0), (594, 592, 593, 1), (602, 600, 601, 1), (610, 608, 609, 2), (618, 616, 617, 2), (630, 628, 629, 3), (638, 636, 637, 1), (650, 648, 649, 0), (737, 735, 736, 0), (668, 666, 667, 2),
  (746, 744, 745, 0), (709, 707, 708, 2), (753, 751, 752, 3), (816, 814, 815, 1), (825, 823, 824, 1), (646, 644, 645, 0), (396, 395, 1, 1), (419, 418, 2, 1), (713, 712, 20, 0), (399, 398, 0, 2),
  (295, 294, 0, 3), (282, 281, 0, 2), (288, 287, 0, 4), (463, 462, 0, 1), (539, 538, 0, 1), (664, 663, 0, 3), (661, 660, 0, 2), (812, 811, 0, 3), (749, 748, 0, 2)]
/-- Object.<init>, Math.max, Math.min -/
def OLp : List ((Nat × Nat) × Nat × Nat) := [((0, 3), 45, 149), ((0, 80), 46, 742), ((1, 1), 45, 63), ((1, 13), 46, 64), ((2, 1), 45, 169), ((3, 3), 45, 175), ((3, 32), 47, 497), ((4, 3), 45, 202),
  ((5, 1), 45, 98), ((5, 7), 46, 99), ((6, 5), 45, 90), ((6, 116), 47, 581), ((7, 3), 45, 57), ((7, 43), 46, 384), ((8, 1), 45, 49)]
/-- the real instruction of a row -/
def iof (pc : Nat) (i : AI) : Instr := match i with
  | (op, nx, a, b, ix) => match op with
    | 0 => if nx - pc = 1 then .iload_n (Fin.ofNat 4 a) else .iload a
    | 1 => if nx - pc = 1 then .aload_n (Fin.ofNat 4 a) else .aload a
    | 2 => if nx - pc = 1 then .dload_n (Fin.ofNat 4 a) else .dload a
    | 3 => if nx - pc = 1 then .istore_n (Fin.ofNat 4 a) else .istore a
    | 4 => if nx - pc = 1 then .astore_n (Fin.ofNat 4 a) else .astore a
    | 5 => if nx - pc = 1 then .dstore_n (Fin.ofNat 4 a) else .dstore a
    | 6 => if nx - pc = 1 then .iconst b else if nx - pc = 2 then .bipush b else .sipush b
    | 7 => .ldc ix
    | 8 => .dconst 0
    | 9 => .iadd
    | 10 => .isub
    | 11 => .imul
    | 12 => .idiv
    | 13 => .irem
    | 14 => .ineg
    | 15 => .iand
    | 16 => .ior
    | 17 => .ishl
    | 18 => .ishr
    | 19 => .iinc a b
    | 20 => .i2l
    | 21 => .i2d
    | 22 => .lcmp
    | 23 => .dcmp .l
    | 24 => .ddiv
    | 25 => .dup
    | 26 => .dup2
    | 27 => .pop
    | 28 => .goto ((a : Int) - pc)
    | 29 => .ifCond (match b with | 0 => .eq | 1 => .ne | 2 => .lt | 3 => .ge | 4 => .gt | _ => .le) ((a : Int) - pc)
    | 30 => .if_icmp (match b with | 0 => .eq | 1 => .ne | 2 => .lt | 3 => .ge | 4 => .gt | _ => .le) ((a : Int) - pc)
    | 31 => .getfield ix
    | 32 => .putfield ix
    | 33 => .putfield ix
    | 34 => .putfield ix
    | 35 => .putfield ix
    | 36 => .arraylength
    | 37 => .iaload
    | 38 => .baload
    | 39 => .laload
    | 40 => .iastore
    | 41 => .bastore
    | 42 => .lastore
    | 43 => .newarray (match a with | 0 => .int | 1 => .boolean | _ => .long)
    | 44 => .new ix
    | 45 => .invokespecial ix
    | 46 => .invokestatic ix
    | 47 => .invokestatic ix
    | 48 => .tableswitch ((a : Int) - pc) 0 ((swt.length : Int) - 1) ((swt.map (fun (t : Nat) => (t : Int) - pc)).toArray)
    | 60 => match (mt a).2.2.1 with | 0 => .invokestatic ix | 1 => .invokespecial ix | _ => .invokevirtual ix
    | 61 => .ireturn
    | 62 => .ireturn
    | 63 => .return_
    | _ => .dreturn
/-- the throw's rows: class link, text, constructor, names above it -/
def thr : List (Nat × Nat × Nat × Nat × Nat) := [(108, 161, 163, 165, 2), (109, 168, 170, 172, 0), (110, 173, 175, 177, 1)]
def xN (E : Nat) : String := match E with | 0 => "java/lang/IndexOutOfBoundsException" | 1 => "java/lang/IllegalArgumentException" | _ => "java/lang/IllegalStateException"
def vok (k : Nat) (e : Nat × AI) : Bool := match e with
  | (pc, (op, nx, a, b, ix)) => Nat.blt pc nx && (match op with
    | 65 => decide (nx = pc + 10 ∧ (thr.find? (fun q => q.1 == k)).isSome ∧ hhT k = [] ∧ 6 ≤ (mt k).2.2.2.2.1 ∧ 90 ≤ (mt k).2.2.2.2.2)
    | _ => decide (decode (bN k) pc = .ok (iof pc (op, nx, a, b, ix), nx - pc))) && (match op with
    | 0 => decide (nx - pc = 1 ∧ a < 4 ∨ nx - pc = 2)
    | 1 => decide (nx - pc = 1 ∧ a < 4 ∨ nx - pc = 2)
    | 2 => decide (nx - pc = 1 ∧ a < 4 ∨ nx - pc = 2)
    | 3 => decide (nx - pc = 1 ∧ a < 4 ∨ nx - pc = 2)
    | 4 => decide (nx - pc = 1 ∧ a < 4 ∨ nx - pc = 2)
    | 5 => decide (nx - pc = 1 ∧ a < 4 ∨ nx - pc = 2)
    | 6 => decide (nx - pc = 1 ∨ nx - pc = 2 ∧ (Int8.ofInt b).toInt32 = Int32.ofInt b ∨ nx - pc = 3 ∧ (Int16.ofInt b).toInt32 = Int32.ofInt b)
    | 7 => decide (nx - pc = 2 ∧ (mt k).1 = 9 ∧ (ix = 7 ∧ b = 2147483647 ∨ ix = 8 ∧ b = 104729 ∨ ix = 9 ∧ b = 65521))
    | 19 => decide (nx - pc = 3)
    | 28 => decide (nx - pc = 3)
    | 29 => decide (nx - pc = 3)
    | 30 => decide (nx - pc = 3)
    | 31 => decide (nx - pc = 3 ∧ (FLp.lookup ((mt k).1, ix)).map (fun q => (q.1, q.2.1)) = some (b.toNat, a))
    | 32 => decide (nx - pc = 3 ∧ (FLp.lookup ((mt k).1, ix)).map (fun q => (q.1, q.2.1)) = some (b.toNat, a) ∧ (TN b.toNat a).2.2 = ("I", false))
    | 33 => decide (nx - pc = 3 ∧ (FLp.lookup ((mt k).1, ix)).map (fun q => (q.1, q.2.1)) = some (b.toNat, a) ∧ (TN b.toNat a).2.2 = ("Z", false))
    | 34 => decide (nx - pc = 3 ∧ (FLp.lookup ((mt k).1, ix)).map (fun q => (q.1, q.2.1)) = some (b.toNat, a) ∧ (TN b.toNat a).2.2 = ("I", true) ∧ (mt k).2.2.1 = 1 ∧ (TN b.toNat a).1 = RN (mt k).1)
    | 35 => decide (nx - pc = 3 ∧ (FLp.lookup ((mt k).1, ix)).map (fun q => (q.1, q.2.1)) = some (b.toNat, a) ∧ (TN b.toNat a).2.2.2 = true ∧ (mt k).2.2.1 = 1 ∧ (TN b.toNat a).1 = RN (mt k).1 ∧ (match tyN b.toNat a with | .object _ => true | .array _ => true | _ => false) = true)
    | 43 => decide (nx - pc = 2 ∧ a = 0)
    | 38 => false
    | 39 => false
    | 41 => false
    | 42 => false
    | 44 => decide (nx - pc = 3 ∧ (CLp.lookup ((mt k).1, ix)).map (fun q => q.1) = some a)
    | 45 => decide (nx - pc = 3 ∧ (OLp.lookup ((mt k).1, ix)).map (fun q => q.1) = some 45 ∧ 1 ≤ (mt k).2.2.2.2.1 ∧ 20 ≤ (mt k).2.2.2.2.2)
    | 46 => decide (nx - pc = 3 ∧ (OLp.lookup ((mt k).1, ix)).map (fun q => q.1) = some 46 ∧ 1 ≤ (mt k).2.2.2.2.1 ∧ 21 ≤ (mt k).2.2.2.2.2)
    | 47 => decide (nx - pc = 3 ∧ (OLp.lookup ((mt k).1, ix)).map (fun q => q.1) = some 47 ∧ 1 ≤ (mt k).2.2.2.2.1 ∧ 21 ≤ (mt k).2.2.2.2.2)
    | 60 => decide (nx - pc = 3 ∧ a < 119 ∧ ((MLp.lookup ((mt k).1, ix)).map (fun q => q.1) = some a ∨ (NLp.lookup ((mt k).1, ix)).map (fun q => q.1) = some a ∧ (mt a).2.2.1 = 1) ∧
        (mt a).2.2.2.2.1 + 1 ≤ (mt k).2.2.2.2.1 ∧ 8 + ((mt a).2.1 + 11) + (mt a).2.2.2.2.2 ≤ (mt k).2.2.2.2.2 ∧
        b.toNat = (mps.getD a (0, 0, 0, 0)).2.2.2 + (if (mt a).2.2.1 = 0 then 0 else 1) ∧ b.toNat ≤ (mt a).2.1)
    | 61 => decide (nx - pc = 1 ∧ (mt k).2.2.2.1 = 1)
    | 62 => decide (nx - pc = 1 ∧ (mt k).2.2.2.1 = 2)
    | 63 => decide (nx - pc = 1 ∧ (mt k).2.2.2.1 = 0)
    | 64 => decide (nx - pc = 1 ∧ (mt k).2.2.2.1 = 3)
    | 65 => true
    | 48 => true
    | _ => decide (nx - pc = 1))

