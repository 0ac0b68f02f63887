set_option maxRecDepth 100000 in
theorem ok_0 : ((List.range 4).all fun j => chkM (j + 0)) = true := by decide +kernel
set_option maxRecDepth 100000 in
theorem ok_4 : ((List.range 4).all fun j => chkM (j + 4)) = true := by decide +kernel
set_option maxRecDepth 100000 in
theorem ok_8 : ((List.range 4).all fun j => chkM (j + 8)) = true := by decide +kernel
set_option maxRecDepth 100000 in
theorem ok_12 : ((List.range 4).all fun j => chkM (j + 12)) = true := by decide +kernel
set_option maxRecDepth 100000 in
theorem ok_16 : ((List.range 4).all fun j => chkM (j + 16)) = true := by decide +kernel
set_option maxRecDepth 100000 in
theorem ok_20 : ((List.range 4).all fun j => chkM (j + 20)) = true := by decide +kernel
set_option maxRecDepth 100000 in
theorem ok_24 : ((List.range 4).all fun j => chkM (j + 24)) = true := by decide +kernel
set_option maxRecDepth 100000 in
theorem ok_28 : ((List.range 4).all fun j => chkM (j + 28)) = true := by decide +kernel
set_option maxRecDepth 100000 in
theorem ok_32 : ((List.range 4).all fun j => chkM (j + 32)) = true := by decide +kernel
set_option maxRecDepth 100000 in
theorem ok_36 : ((List.range 4).all fun j => chkM (j + 36)) = true := by decide +kernel
set_option maxRecDepth 100000 in
theorem ok_40 : ((List.range 4).all fun j => chkM (j + 40)) = true := by decide +kernel
set_option maxRecDepth 100000 in
theorem ok_44 : ((List.range 4).all fun j => chkM (j + 44)) = true := by decide +kernel
set_option maxRecDepth 100000 in
theorem ok_48 : ((List.range 4).all fun j => chkM (j + 48)) = true := by decide +kernel
set_option maxRecDepth 100000 in
theorem ok_52 : ((List.range 4).all fun j => chkM (j + 52)) = true := by decide +kernel
set_option maxRecDepth 100000 in
theorem ok_56 : ((List.range 4).all fun j => chkM (j + 56)) = true := by decide +kernel
set_option maxRecDepth 100000 in
theorem ok_60 : ((List.range 4).all fun j => chkM (j + 60)) = true := by decide +kernel
set_option maxRecDepth 100000 in
theorem ok_64 : ((List.range 4).all fun j => chkM (j + 64)) = true := by decide +kernel
set_option maxRecDepth 100000 in
theorem ok_68 : ((List.range 4).all fun j => chkM (j + 68)) = true := by decide +kernel
set_option maxRecDepth 100000 in
theorem ok_72 : ((List.range 4).all fun j => chkM (j + 72)) = true := by decide +kernel
set_option maxRecDepth 100000 in
theorem ok_76 : ((List.range 4).all fun j => chkM (j + 76)) = true := by decide +kernel
set_option maxRecDepth 100000 in
theorem ok_80 : ((List.range 4).all fun j => chkM (j + 80)) = true := by decide +kernel
set_option maxRecDepth 100000 in
theorem ok_84 : ((List.range 4).all fun j => chkM (j + 84)) = true := by decide +kernel
set_option maxRecDepth 100000 in
theorem ok_88 : ((List.range 4).all fun j => chkM (j + 88)) = true := by decide +kernel
set_option maxRecDepth 100000 in
theorem ok_92 : ((List.range 4).all fun j => chkM (j + 92)) = true := by decide +kernel
set_option maxRecDepth 100000 in
theorem ok_96 : ((List.range 4).all fun j => chkM (j + 96)) = true := by decide +kernel
set_option maxRecDepth 100000 in
theorem ok_100 : ((List.range 4).all fun j => chkM (j + 100)) = true := by decide +kernel
set_option maxRecDepth 100000 in
theorem ok_104 : ((List.range 4).all fun j => chkM (j + 104)) = true := by decide +kernel
set_option maxRecDepth 100000 in
theorem ok_108 : ((List.range 4).all fun j => chkM (j + 108)) = true := by decide +kernel
set_option maxRecDepth 100000 in
theorem ok_112 : ((List.range 4).all fun j => chkM (j + 112)) = true := by decide +kernel
noncomputable def okP (w : Cond) (i : Nat) : Bool := decide (lw_tbl[i]? = some w) && goodWord w
theorem okP_in {w : Cond} {i : Nat} (h : okP w i = true) : w ∈ TB := by
  simp only [okP, Bool.and_eq_true, decide_eq_true_eq] at h
  exact TB_in (List.mem_of_getElem? h.1) h.2
noncomputable def FPos : List Nat := [237, 239, 241, 69, 74, 105, 109, 112, 115, 212, 214, 216, 217, 145, 149, 70, 75, 85, 86, 87, 88, 107, 110, 150, 113, 147, 71, 76, 336, 339, 343, 335, 338, 341, 344, 72, 78, 157, 159, 161, 163, 165, 167, 169, 171, 173, 174, 176, 116, 106, 146, 77, 250, 251, 252, 253, 254, 255, 256, 257, 258, 259, 260, 261, 215, 218, 213, 345, 337, 340, 342, 148, 108, 111, 114, 117, 170, 172, 158, 151, 160, 175, 162, 164, 166, 177, 168, 89, 242, 238, 240, 73, 79, 603, 604, 605, 607, 608, 609, 610, 614, 615, 616, 617, 618, 619, 620, 628, 629, 630, 631, 634, 635, 636, 637, 638, 602, 606, 611, 612, 613, 621, 622, 623, 624, 625, 626, 627, 632, 633, 639, 640]
set_option maxRecDepth 100000 in
theorem FTab_ok : ((FTab.zip FPos).all fun (e, i) => decide (e.2.2.1 < 10) && decide (e.2.2.2 < (clQ e.2.2.1).2.2) && okP (.fieldLink (cn e.1) e.2.1 ((clQ e.2.2.1).2.1 e.2.2.2).1 ((clQ e.2.2.1).2.1 e.2.2.2).2.1 ((clQ e.2.2.1).2.1 e.2.2.2).2.2.1) i) = true := by decide +kernel
noncomputable def MPos : List (Nat × Nat × Nat) := [(234, 102, 0), (236, 140, 0), (401, 402, 0), (478, 479, 0), (481, 482, 483), (485, 395, 396), (439, 296, 0), (551, 436, 437), (552, 465, 0), (318, 296, 0), (144, 66, 0), (394, 395, 396), (456, 457, 458), (65, 66, 0), (376, 296, 0), (464, 465, 0), (467, 373, 374), (468, 470, 4), (488, 457, 458), (489, 491, 5), (487, 395, 396), (493, 495, 6), (499, 386, 387), (472, 405, 406), (473, 474, 475), (497, 410, 411), (359, 296, 0), (360, 362, 3), (408, 395, 396), (137, 66, 0), (139, 140, 0), (452, 453, 454), (460, 461, 462), (500, 502, 7), (516, 517, 518), (504, 506, 8), (510, 482, 483), (511, 395, 396), (512, 513, 514), (509, 479, 0), (57, 58, 0), (101, 102, 0), (130, 131, 0), (204, 140, 0), (206, 66, 0), (208, 209, 0), (229, 230, 0), (291, 293, 0), (295, 296, 0), (298, 300, 1), (302, 303, 304), (306, 308, 2), (314, 315, 316), (325, 326, 0), (355, 356, 357), (364, 365, 366), (372, 373, 374), (381, 382, 0), (385, 386, 387), (390, 391, 392), (404, 405, 406), (409, 410, 411), (416, 417, 418), (424, 425, 0), (427, 428, 429), (435, 436, 437), (448, 449, 450), (528, 474, 475), (529, 465, 0), (530, 532, 9), (542, 513, 514), (547, 548, 549), (553, 554, 555), (557, 558, 559), (561, 457, 458), (566, 568, 10), (570, 453, 454), (579, 580, 0), (583, 395, 396), (588, 590, 11), (727, 728, 0), (731, 733, 12), (750, 752, 13), (766, 768, 15), (783, 784, 0), (775, 777, 17), (779, 781, 18), (762, 764, 14), (771, 773, 16), (786, 788, 19), (794, 795, 0), (824, 826, 23), (820, 822, 22), (828, 830, 24), (816, 818, 21), (812, 814, 20), (846, 848, 25), (855, 857, 26), (860, 862, 27), (868, 870, 28), (872, 873, 0), (875, 877, 29), (883, 885, 30), (891, 893, 31), (899, 901, 32)]
noncomputable def okMT (o idx k mode a b c : Nat) : Bool := match mode with
  | 0 => okP (.methodLink (cn o) idx (yM k)) a && okP (.static (yM k)) b
  | 1 => decide (lw_tbl[a]? = some (Cond.methodLinkNest (cn o) idx (yM k) "ColdHouse")) && okP (.static (yM k)) b
  | 2 => okP (.methodLink (cn o) idx (yM k)) a && okP (.instanceMethod (yM k)) b && okP (.selects (yM k).cls (yM k) (yM k)) c
  | 3 => okP (.methodLink (cn o) idx (yM k)) a && okP (.instanceMethod (yM k)) b && decide ((yM k).name = "<init>")
  | 4 => decide (lw_tbl[a]? = some (Cond.methodLinkNest (cn o) idx (yM k) "ColdHouse")) && okP (.instanceMethod (yM k)) b && decide ((yM k).name = "<init>")
  | _ => false
set_option maxRecDepth 100000 in
theorem MTab_ok : ((MTab.zip MPos).all fun (e, i) => decide (e.2.2.1 < 116) && okMT e.1 e.2.1 e.2.2.1 e.2.2.2 i.1 i.2.1 i.2.2) = true := by decide +kernel
noncomputable def CPos : List (Nat × Nat × Nat) := [(233, 100, 37), (235, 138, 39), (143, 64, 36), (63, 64, 36), (134, 138, 39), (136, 64, 36), (53, 207, 40), (55, 56, 35), (99, 100, 37), (128, 129, 38), (201, 228, 41), (203, 138, 39), (205, 64, 36), (323, 324, 43)]
set_option maxRecDepth 100000 in
theorem CTab_ok : ((CTab.zip CPos).all fun (e, i) => decide (e.2.2 < 10) && okP (.classLink (cn e.1) e.2.1 (clQ e.2.2).1) i.1 && okP (.instantiable (clQ e.2.2).1 (clQ e.2.2).2.2) i.2.1 && okP (.initialized (clQ e.2.2).1) i.2.2) = true := by decide +kernel
noncomputable def APos : List (Nat × Nat) := [(61, 62), (134, 135), (53, 54), (201, 202)]
set_option maxRecDepth 100000 in
theorem ATab_ok : ((ATab.zip APos).all fun (e, i) => decide (13 ≤ e.2.2.1) && decide (e.2.2.1 < 17) && decide (e.2.2.2 < 10) && okP (.classLink (cn e.1) e.2.1 (clQ e.2.2.2).1) i.1 && decide (lw_tbl[i.2]? = some (Cond.arrayOver (.object (clQ e.2.2.2).1)))) = true := by decide +kernel
noncomputable def LPos : List Nat := [477, 498, 486, 508, 389, 384, 582, 726, 730, 743, 744, 745, 754, 759, 760, 761, 770, 797, 798, 799, 836, 841, 859, 854, 903]
set_option maxRecDepth 100000 in
theorem LTab_ok : ((LTab.zip LPos).all fun (e, i) => okP (.constantLong (cn e.1) e.2.1 (Int64.ofInt e.2.2)) i) = true := by decide +kernel
noncomputable def OPos : List Nat := [232, 68, 104, 211, 142, 60, 328, 133, 50, 601]
set_option maxRecDepth 100000 in
theorem OTab_ok : ((OTab.zip OPos).all fun (e, i) => okP (.methodLink (cn e.1) e.2 objectInit) i) = true := by decide +kernel
set_option maxRecDepth 100000 in
theorem obj_ok : (okP (.instanceMethod objectInit) 51 && okP (.code objectInit ⟨#[0xb1]⟩ 1 none) 52 && okP (.arrayClass .int) 127 && okP (.arrayClass .long) 720 && okP (.arrayClass .boolean) 721) = true := by decide +kernel
noncomputable def mthY : Nat → MethodName × ByteArray × Nat × FieldType
  | 0 => (Lib.MathLoose.abs_long.x, Lib.MathLoose.abs_long.code, 2, .long)
  | 1 => (Lib.Math.max.name, Lib.Math.max.code, 2, .int)
  | 2 => (Lib.MathLoose.max_long.x, Lib.MathLoose.max_long.code, 4, .long)
  | _ => (Lib.Math.min.name, Lib.Math.min.code, 2, .int)
noncomputable def XPos : List Nat := [398, 329, 332, 413]
set_option maxRecDepth 100000 in
theorem XTab_ok : ((XTab.zip XPos).all fun (e, i) => decide (e.2.2 < 4) && okP (.methodLink (cn e.1) e.2.1 (mthY e.2.2).1) i) = true := by decide +kernel
set_option maxRecDepth 100000 in
theorem mth_ok_0 : (okP (.static (mthY 0).1) 399 && okP (.code (mthY 0).1 (mthY 0).2.1 (mthY 0).2.2.1 (some (mthY 0).2.2.2)) 400 && okP (.initialized "java/lang/Math") 44) = true := by decide +kernel
set_option maxRecDepth 100000 in
theorem mth_ok_1 : (okP (.static (mthY 1).1) 333 && okP (.code (mthY 1).1 (mthY 1).2.1 (mthY 1).2.2.1 (some (mthY 1).2.2.2)) 334 && okP (.initialized "java/lang/Math") 44) = true := by decide +kernel
set_option maxRecDepth 100000 in
theorem mth_ok_2 : (okP (.static (mthY 2).1) 414 && okP (.code (mthY 2).1 (mthY 2).2.1 (mthY 2).2.2.1 (some (mthY 2).2.2.2)) 415 && okP (.initialized "java/lang/Math") 44) = true := by decide +kernel
set_option maxRecDepth 100000 in
theorem mth_ok_3 : (okP (.static (mthY 3).1) 330 && okP (.code (mthY 3).1 (mthY 3).2.1 (mthY 3).2.2.1 (some (mthY 3).2.2.2)) 331 && okP (.initialized "java/lang/Math") 44) = true := by decide +kernel
noncomputable def YPos : List (Nat × Nat) := [(231, 41), (67, 36), (397, 36), (459, 36), (419, 36), (476, 36), (484, 36), (560, 36), (403, 36), (480, 36), (103, 37), (438, 37), (550, 37), (430, 37), (556, 37), (210, 40), (305, 40), (317, 40), (141, 39), (393, 39), (455, 39), (519, 39), (59, 35), (367, 35), (375, 35), (463, 35), (471, 35), (492, 35), (496, 35), (327, 43), (358, 43), (363, 43), (388, 43), (407, 43), (412, 43), (132, 38), (451, 38), (515, 38), (503, 38), (507, 38), (49, 34), (290, 34), (313, 34), (322, 34), (371, 34), (380, 34), (423, 34), (434, 34), (443, 34), (447, 34), (523, 34), (527, 34), (537, 34), (541, 34), (546, 34), (565, 34), (574, 34), (578, 34), (587, 34), (595, 34), (301, 34), (309, 34), (294, 34), (569, 34), (591, 34), (533, 34), (297, 34), (383, 34), (581, 34), (466, 34), (426, 34), (600, 42), (729, 42), (734, 42), (785, 42), (725, 42), (738, 42), (742, 42), (753, 42), (749, 42), (769, 42), (765, 42), (778, 42), (782, 42), (774, 42), (789, 42), (758, 42), (796, 42), (793, 42), (803, 42), (807, 42), (827, 42), (823, 42), (831, 42), (819, 42), (815, 42), (811, 42), (835, 42), (840, 42), (849, 42), (845, 42), (858, 42), (863, 42), (853, 42), (874, 42), (867, 42), (871, 42), (878, 42), (882, 42), (886, 42), (894, 42), (890, 42), (902, 42), (898, 42), (907, 42), (911, 42)]
noncomputable def okY (k : Nat) : Bool := okP (.initialized (yM k).cls) (YPos.getD k (0, 0)).2 && decide ((yM k).cls = cn (owM k)) && decide ((yM k).cls ≠ "java/lang/invoke/MethodHandle") && decide ((yM k).cls ≠ "java/lang/invoke/VarHandle") && decide ((parseMethodDescriptor (yM k).desc).map (fun d => d.parameters.length) = some (naM k)) && plainName (yM k).cls
set_option maxRecDepth 100000 in
theorem Y_ok_0 : ((List.range 29).all fun j => okY (j + 0)) = true := by decide +kernel
set_option maxRecDepth 100000 in
theorem Y_ok_29 : ((List.range 29).all fun j => okY (j + 29)) = true := by decide +kernel
set_option maxRecDepth 100000 in
theorem Y_ok_58 : ((List.range 29).all fun j => okY (j + 58)) = true := by decide +kernel
set_option maxRecDepth 100000 in
theorem Y_ok_87 : ((List.range 29).all fun j => okY (j + 87)) = true := by decide +kernel
set_option maxRecDepth 100000 in
theorem cw_0 : okP (.code (yM 0) (cM 0) (mxl 0) (rtM 0)) 231 = true := by decide +kernel
set_option maxRecDepth 100000 in
theorem cw_1 : okP (.code (yM 1) (cM 1) (mxl 1) (rtM 1)) 67 = true := by decide +kernel
set_option maxRecDepth 100000 in
theorem cw_2 : okP (.code (yM 2) (cM 2) (mxl 2) (rtM 2)) 397 = true := by decide +kernel
set_option maxRecDepth 100000 in
theorem cw_3 : okP (.code (yM 3) (cM 3) (mxl 3) (rtM 3)) 459 = true := by decide +kernel
set_option maxRecDepth 100000 in
theorem cw_4 : okP (.code (yM 4) (cM 4) (mxl 4) (rtM 4)) 419 = true := by decide +kernel
set_option maxRecDepth 100000 in
theorem cw_5 : okP (.code (yM 5) (cM 5) (mxl 5) (rtM 5)) 476 = true := by decide +kernel
set_option maxRecDepth 100000 in
theorem cw_6 : okP (.code (yM 6) (cM 6) (mxl 6) (rtM 6)) 484 = true := by decide +kernel
set_option maxRecDepth 100000 in
theorem cw_7 : okP (.code (yM 7) (cM 7) (mxl 7) (rtM 7)) 560 = true := by decide +kernel
set_option maxRecDepth 100000 in
theorem cw_8 : okP (.code (yM 8) (cM 8) (mxl 8) (rtM 8)) 403 = true := by decide +kernel
set_option maxRecDepth 100000 in
theorem cw_9 : okP (.code (yM 9) (cM 9) (mxl 9) (rtM 9)) 480 = true := by decide +kernel
set_option maxRecDepth 100000 in
theorem cw_10 : okP (.code (yM 10) (cM 10) (mxl 10) (rtM 10)) 103 = true := by decide +kernel
set_option maxRecDepth 100000 in
theorem cw_11 : okP (.code (yM 11) (cM 11) (mxl 11) (rtM 11)) 438 = true := by decide +kernel
set_option maxRecDepth 100000 in
theorem cw_12 : okP (.code (yM 12) (cM 12) (mxl 12) (rtM 12)) 550 = true := by decide +kernel
set_option maxRecDepth 100000 in
theorem cw_13 : okP (.code (yM 13) (cM 13) (mxl 13) (rtM 13)) 430 = true := by decide +kernel
set_option maxRecDepth 100000 in
theorem cw_14 : okP (.code (yM 14) (cM 14) (mxl 14) (rtM 14)) 556 = true := by decide +kernel
set_option maxRecDepth 100000 in
theorem cw_15 : okP (.code (yM 15) (cM 15) (mxl 15) (rtM 15)) 210 = true := by decide +kernel
set_option maxRecDepth 100000 in
theorem cw_16 : okP (.code (yM 16) (cM 16) (mxl 16) (rtM 16)) 305 = true := by decide +kernel
set_option maxRecDepth 100000 in
theorem cw_17 : okP (.code (yM 17) (cM 17) (mxl 17) (rtM 17)) 317 = true := by decide +kernel
set_option maxRecDepth 100000 in
theorem cw_18 : okP (.code (yM 18) (cM 18) (mxl 18) (rtM 18)) 141 = true := by decide +kernel
set_option maxRecDepth 100000 in
theorem cw_19 : okP (.code (yM 19) (cM 19) (mxl 19) (rtM 19)) 393 = true := by decide +kernel
set_option maxRecDepth 100000 in
theorem cw_20 : okP (.code (yM 20) (cM 20) (mxl 20) (rtM 20)) 455 = true := by decide +kernel
set_option maxRecDepth 100000 in
theorem cw_21 : okP (.code (yM 21) (cM 21) (mxl 21) (rtM 21)) 519 = true := by decide +kernel
set_option maxRecDepth 100000 in
theorem cw_22 : okP (.code (yM 22) (cM 22) (mxl 22) (rtM 22)) 59 = true := by decide +kernel
set_option maxRecDepth 100000 in
theorem cw_23 : okP (.code (yM 23) (cM 23) (mxl 23) (rtM 23)) 367 = true := by decide +kernel
set_option maxRecDepth 100000 in
theorem cw_24 : okP (.code (yM 24) (cM 24) (mxl 24) (rtM 24)) 375 = true := by decide +kernel
set_option maxRecDepth 100000 in
theorem cw_25 : okP (.code (yM 25) (cM 25) (mxl 25) (rtM 25)) 463 = true := by decide +kernel
set_option maxRecDepth 100000 in
theorem cw_26 : okP (.code (yM 26) (cM 26) (mxl 26) (rtM 26)) 471 = true := by decide +kernel
set_option maxRecDepth 100000 in
theorem cw_27 : okP (.code (yM 27) (cM 27) (mxl 27) (rtM 27)) 492 = true := by decide +kernel
set_option maxRecDepth 100000 in
theorem cw_28 : okP (.code (yM 28) (cM 28) (mxl 28) (rtM 28)) 496 = true := by decide +kernel
set_option maxRecDepth 100000 in
theorem cw_29 : okP (.code (yM 29) (cM 29) (mxl 29) (rtM 29)) 327 = true := by decide +kernel
set_option maxRecDepth 100000 in
theorem cw_30 : okP (.code (yM 30) (cM 30) (mxl 30) (rtM 30)) 358 = true := by decide +kernel
set_option maxRecDepth 100000 in
theorem cw_31 : okP (.code (yM 31) (cM 31) (mxl 31) (rtM 31)) 363 = true := by decide +kernel
set_option maxRecDepth 100000 in
theorem cw_32 : okP (.code (yM 32) (cM 32) (mxl 32) (rtM 32)) 388 = true := by decide +kernel
set_option maxRecDepth 100000 in
theorem cw_33 : okP (.code (yM 33) (cM 33) (mxl 33) (rtM 33)) 407 = true := by decide +kernel
set_option maxRecDepth 100000 in
theorem cw_34 : okP (.code (yM 34) (cM 34) (mxl 34) (rtM 34)) 412 = true := by decide +kernel
set_option maxRecDepth 100000 in
theorem cw_35 : okP (.code (yM 35) (cM 35) (mxl 35) (rtM 35)) 132 = true := by decide +kernel
set_option maxRecDepth 100000 in
theorem cw_36 : okP (.code (yM 36) (cM 36) (mxl 36) (rtM 36)) 451 = true := by decide +kernel
set_option maxRecDepth 100000 in
theorem cw_37 : okP (.code (yM 37) (cM 37) (mxl 37) (rtM 37)) 515 = true := by decide +kernel
set_option maxRecDepth 100000 in
theorem cw_38 : okP (.code (yM 38) (cM 38) (mxl 38) (rtM 38)) 503 = true := by decide +kernel
set_option maxRecDepth 100000 in
theorem cw_39 : okP (.code (yM 39) (cM 39) (mxl 39) (rtM 39)) 507 = true := by decide +kernel
set_option maxRecDepth 100000 in
theorem cw_40 : okP (.code (yM 40) (cM 40) (mxl 40) (rtM 40)) 49 = true := by decide +kernel
set_option maxRecDepth 100000 in
theorem cw_41 : okP (.code (yM 41) (cM 41) (mxl 41) (rtM 41)) 290 = true := by decide +kernel
set_option maxRecDepth 100000 in
theorem cw_42 : okP (.code (yM 42) (cM 42) (mxl 42) (rtM 42)) 313 = true := by decide +kernel
set_option maxRecDepth 100000 in
theorem cw_43 : okP (.code (yM 43) (cM 43) (mxl 43) (rtM 43)) 322 = true := by decide +kernel
set_option maxRecDepth 100000 in
theorem cw_44 : okP (.code (yM 44) (cM 44) (mxl 44) (rtM 44)) 371 = true := by decide +kernel
set_option maxRecDepth 100000 in
theorem cw_45 : okP (.code (yM 45) (cM 45) (mxl 45) (rtM 45)) 380 = true := by decide +kernel
set_option maxRecDepth 100000 in
theorem cw_46 : okP (.code (yM 46) (cM 46) (mxl 46) (rtM 46)) 423 = true := by decide +kernel
set_option maxRecDepth 100000 in
theorem cw_47 : okP (.code (yM 47) (cM 47) (mxl 47) (rtM 47)) 434 = true := by decide +kernel
set_option maxRecDepth 100000 in
theorem cw_48 : okP (.code (yM 48) (cM 48) (mxl 48) (rtM 48)) 443 = true := by decide +kernel
set_option maxRecDepth 100000 in
theorem cw_49 : okP (.code (yM 49) (cM 49) (mxl 49) (rtM 49)) 447 = true := by decide +kernel
set_option maxRecDepth 100000 in
theorem cw_50 : okP (.code (yM 50) (cM 50) (mxl 50) (rtM 50)) 523 = true := by decide +kernel
set_option maxRecDepth 100000 in
theorem cw_51 : okP (.code (yM 51) (cM 51) (mxl 51) (rtM 51)) 527 = true := by decide +kernel
set_option maxRecDepth 100000 in
theorem cw_52 : okP (.code (yM 52) (cM 52) (mxl 52) (rtM 52)) 537 = true := by decide +kernel
set_option maxRecDepth 100000 in
theorem cw_53 : okP (.code (yM 53) (cM 53) (mxl 53) (rtM 53)) 541 = true := by decide +kernel
set_option maxRecDepth 100000 in
theorem cw_54 : okP (.code (yM 54) (cM 54) (mxl 54) (rtM 54)) 546 = true := by decide +kernel
set_option maxRecDepth 100000 in
theorem cw_55 : okP (.code (yM 55) (cM 55) (mxl 55) (rtM 55)) 565 = true := by decide +kernel
set_option maxRecDepth 100000 in
theorem cw_56 : okP (.code (yM 56) (cM 56) (mxl 56) (rtM 56)) 574 = true := by decide +kernel
set_option maxRecDepth 100000 in
theorem cw_57 : okP (.code (yM 57) (cM 57) (mxl 57) (rtM 57)) 578 = true := by decide +kernel
set_option maxRecDepth 100000 in
theorem cw_58 : okP (.code (yM 58) (cM 58) (mxl 58) (rtM 58)) 587 = true := by decide +kernel
set_option maxRecDepth 100000 in
theorem cw_59 : okP (.code (yM 59) (cM 59) (mxl 59) (rtM 59)) 595 = true := by decide +kernel
set_option maxRecDepth 100000 in
theorem cw_60 : okP (.code (yM 60) (cM 60) (mxl 60) (rtM 60)) 301 = true := by decide +kernel
set_option maxRecDepth 100000 in
theorem cw_61 : okP (.code (yM 61) (cM 61) (mxl 61) (rtM 61)) 309 = true := by decide +kernel
set_option maxRecDepth 100000 in
theorem cw_62 : okP (.code (yM 62) (cM 62) (mxl 62) (rtM 62)) 294 = true := by decide +kernel
set_option maxRecDepth 100000 in
theorem cw_63 : okP (.code (yM 63) (cM 63) (mxl 63) (rtM 63)) 569 = true := by decide +kernel
set_option maxRecDepth 100000 in
theorem cw_64 : okP (.code (yM 64) (cM 64) (mxl 64) (rtM 64)) 591 = true := by decide +kernel
set_option maxRecDepth 100000 in
theorem cw_65 : okP (.code (yM 65) (cM 65) (mxl 65) (rtM 65)) 533 = true := by decide +kernel
set_option maxRecDepth 100000 in
theorem cw_66 : okP (.code (yM 66) (cM 66) (mxl 66) (rtM 66)) 297 = true := by decide +kernel
set_option maxRecDepth 100000 in
theorem cw_67 : okP (.code (yM 67) (cM 67) (mxl 67) (rtM 67)) 383 = true := by decide +kernel
set_option maxRecDepth 100000 in
theorem cw_68 : okP (.code (yM 68) (cM 68) (mxl 68) (rtM 68)) 581 = true := by decide +kernel
set_option maxRecDepth 100000 in
theorem cw_69 : okP (.code (yM 69) (cM 69) (mxl 69) (rtM 69)) 466 = true := by decide +kernel
set_option maxRecDepth 100000 in
theorem cw_70 : okP (.code (yM 70) (cM 70) (mxl 70) (rtM 70)) 426 = true := by decide +kernel
set_option maxRecDepth 100000 in
theorem cw_71 : okP (.code (yM 71) (cM 71) (mxl 71) (rtM 71)) 600 = true := by decide +kernel
set_option maxRecDepth 100000 in
theorem cw_72 : okP (.code (yM 72) (cM 72) (mxl 72) (rtM 72)) 729 = true := by decide +kernel
set_option maxRecDepth 100000 in
theorem cw_73 : okP (.code (yM 73) (cM 73) (mxl 73) (rtM 73)) 734 = true := by decide +kernel
set_option maxRecDepth 100000 in
theorem cw_74 : okP (.code (yM 74) (cM 74) (mxl 74) (rtM 74)) 785 = true := by decide +kernel
set_option maxRecDepth 100000 in
theorem cw_75 : okP (.code (yM 75) (cM 75) (mxl 75) (rtM 75)) 725 = true := by decide +kernel
set_option maxRecDepth 100000 in
theorem cw_76 : okP (.code (yM 76) (cM 76) (mxl 76) (rtM 76)) 738 = true := by decide +kernel
set_option maxRecDepth 100000 in
theorem cw_77 : okP (.code (yM 77) (cM 77) (mxl 77) (rtM 77)) 742 = true := by decide +kernel
set_option maxRecDepth 100000 in
theorem cw_78 : okP (.code (yM 78) (cM 78) (mxl 78) (rtM 78)) 753 = true := by decide +kernel
set_option maxRecDepth 100000 in
theorem cw_79 : okP (.code (yM 79) (cM 79) (mxl 79) (rtM 79)) 749 = true := by decide +kernel
set_option maxRecDepth 100000 in
theorem cw_80 : okP (.code (yM 80) (cM 80) (mxl 80) (rtM 80)) 769 = true := by decide +kernel
set_option maxRecDepth 100000 in
theorem cw_81 : okP (.code (yM 81) (cM 81) (mxl 81) (rtM 81)) 765 = true := by decide +kernel
set_option maxRecDepth 100000 in
theorem cw_82 : okP (.code (yM 82) (cM 82) (mxl 82) (rtM 82)) 778 = true := by decide +kernel
set_option maxRecDepth 100000 in
theorem cw_83 : okP (.code (yM 83) (cM 83) (mxl 83) (rtM 83)) 782 = true := by decide +kernel
set_option maxRecDepth 100000 in
theorem cw_84 : okP (.code (yM 84) (cM 84) (mxl 84) (rtM 84)) 774 = true := by decide +kernel
set_option maxRecDepth 100000 in
theorem cw_85 : okP (.code (yM 85) (cM 85) (mxl 85) (rtM 85)) 789 = true := by decide +kernel
set_option maxRecDepth 100000 in
theorem cw_86 : okP (.code (yM 86) (cM 86) (mxl 86) (rtM 86)) 758 = true := by decide +kernel
set_option maxRecDepth 100000 in
theorem cw_87 : okP (.code (yM 87) (cM 87) (mxl 87) (rtM 87)) 796 = true := by decide +kernel
set_option maxRecDepth 100000 in
theorem cw_88 : okP (.code (yM 88) (cM 88) (mxl 88) (rtM 88)) 793 = true := by decide +kernel
set_option maxRecDepth 100000 in
theorem cw_89 : okP (.code (yM 89) (cM 89) (mxl 89) (rtM 89)) 803 = true := by decide +kernel
set_option maxRecDepth 100000 in
theorem cw_90 : okP (.code (yM 90) (cM 90) (mxl 90) (rtM 90)) 807 = true := by decide +kernel
set_option maxRecDepth 100000 in
theorem cw_91 : okP (.code (yM 91) (cM 91) (mxl 91) (rtM 91)) 827 = true := by decide +kernel
set_option maxRecDepth 100000 in
theorem cw_92 : okP (.code (yM 92) (cM 92) (mxl 92) (rtM 92)) 823 = true := by decide +kernel
set_option maxRecDepth 100000 in
theorem cw_93 : okP (.code (yM 93) (cM 93) (mxl 93) (rtM 93)) 831 = true := by decide +kernel
set_option maxRecDepth 100000 in
theorem cw_94 : okP (.code (yM 94) (cM 94) (mxl 94) (rtM 94)) 819 = true := by decide +kernel
set_option maxRecDepth 100000 in
theorem cw_95 : okP (.code (yM 95) (cM 95) (mxl 95) (rtM 95)) 815 = true := by decide +kernel
set_option maxRecDepth 100000 in
theorem cw_96 : okP (.code (yM 96) (cM 96) (mxl 96) (rtM 96)) 811 = true := by decide +kernel
set_option maxRecDepth 100000 in
theorem cw_97 : okP (.code (yM 97) (cM 97) (mxl 97) (rtM 97)) 835 = true := by decide +kernel
set_option maxRecDepth 100000 in
theorem cw_98 : okP (.code (yM 98) (cM 98) (mxl 98) (rtM 98)) 840 = true := by decide +kernel
set_option maxRecDepth 100000 in
theorem cw_99 : okP (.code (yM 99) (cM 99) (mxl 99) (rtM 99)) 849 = true := by decide +kernel
set_option maxRecDepth 100000 in
theorem cw_100 : okP (.code (yM 100) (cM 100) (mxl 100) (rtM 100)) 845 = true := by decide +kernel
set_option maxRecDepth 100000 in
theorem cw_101 : okP (.code (yM 101) (cM 101) (mxl 101) (rtM 101)) 858 = true := by decide +kernel
set_option maxRecDepth 100000 in
theorem cw_102 : okP (.code (yM 102) (cM 102) (mxl 102) (rtM 102)) 863 = true := by decide +kernel
set_option maxRecDepth 100000 in
theorem cw_103 : okP (.code (yM 103) (cM 103) (mxl 103) (rtM 103)) 853 = true := by decide +kernel
set_option maxRecDepth 100000 in
theorem cw_104 : okP (.code (yM 104) (cM 104) (mxl 104) (rtM 104)) 874 = true := by decide +kernel
set_option maxRecDepth 100000 in
theorem cw_105 : okP (.code (yM 105) (cM 105) (mxl 105) (rtM 105)) 867 = true := by decide +kernel
set_option maxRecDepth 100000 in
theorem cw_106 : okP (.code (yM 106) (cM 106) (mxl 106) (rtM 106)) 871 = true := by decide +kernel
set_option maxRecDepth 100000 in
theorem cw_107 : okP (.code (yM 107) (cM 107) (mxl 107) (rtM 107)) 878 = true := by decide +kernel
set_option maxRecDepth 100000 in
theorem cw_108 : okP (.code (yM 108) (cM 108) (mxl 108) (rtM 108)) 882 = true := by decide +kernel
set_option maxRecDepth 100000 in
theorem cw_109 : okP (.code (yM 109) (cM 109) (mxl 109) (rtM 109)) 886 = true := by decide +kernel
set_option maxRecDepth 100000 in
theorem cw_110 : okP (.code (yM 110) (cM 110) (mxl 110) (rtM 110)) 894 = true := by decide +kernel
set_option maxRecDepth 100000 in
theorem cw_111 : okP (.code (yM 111) (cM 111) (mxl 111) (rtM 111)) 890 = true := by decide +kernel
set_option maxRecDepth 100000 in
theorem cw_112 : okP (.code (yM 112) (cM 112) (mxl 112) (rtM 112)) 902 = true := by decide +kernel
set_option maxRecDepth 100000 in
theorem cw_113 : okP (.code (yM 113) (cM 113) (mxl 113) (rtM 113)) 898 = true := by decide +kernel
set_option maxRecDepth 100000 in
theorem cw_114 : okP (.code (yM 114) (cM 114) (mxl 114) (rtM 114)) 907 = true := by decide +kernel
set_option maxRecDepth 100000 in
theorem cw_115 : okP (.code (yM 115) (cM 115) (mxl 115) (rtM 115)) 911 = true := by decide +kernel
noncomputable def nmO (c : Nat) : Bool := (List.range (clQ c).2.2).all fun a => (List.range (clQ c).2.2).all fun b => decide (a = b) || decide (((clQ c).2.1 a).2.1 ≠ ((clQ c).2.1 b).2.1)
noncomputable def WPos : List (List Nat) := [[243, 245, 247], [80, 82], [118, 120, 122, 124], [219, 221, 223, 225], [152, 154], [90, 92, 94, 96], [346, 348, 350, 352], [178, 180, 182, 184, 186, 188, 190, 192, 194, 196, 198], [262, 264, 266, 268, 270, 272, 274, 276, 278, 280, 282, 284], [641, 643, 645, 647, 649, 651, 653, 655, 657, 659, 661, 663, 665, 667, 669, 671, 673, 675, 677, 679, 681, 683, 685, 687, 689, 691, 693, 695, 697, 699, 701, 703, 705, 707, 709, 711, 713, 715, 717]]
noncomputable def clO (c : Nat) : Bool := ((List.range (clQ c).2.2).all fun j => okP (u_lay (clQ c).1 (clQ c).2.1 j) ((WPos.getD c []).getD j 0)) && ((List.range (clQ c).2.2).all fun j => decide (parseFieldDescriptor ((clQ c).2.1 j).2.2.1 = some (fty c j))) && nmO c
set_option maxRecDepth 100000 in
theorem cl_ok : (List.range 10).all clO = true := by decide +kernel
