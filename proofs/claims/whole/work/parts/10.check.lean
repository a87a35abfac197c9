/-! ===== the check of a method's table against its bytecode ===== -/
def mx_dq (cc : ByteArray) (pc : Nat) (i : Instr) (n : Nat) : Bool := decide (decode cc pc = .ok (i, n))
def mx_hw (k : Nat) (w : Cond) : Bool := decide (lw_tbl[k]? = some w) && goodWord w
theorem mx_dq_of {cc : ByteArray} {pc : Nat} {i : Instr} {n : Nat} (h : mx_dq cc pc i n = true) : decode cc pc = .ok (i, n) := of_decide_eq_true h
theorem mx_hw_of {k : Nat} {w : Cond} (h : mx_hw k w = true) : w ∈ lw_gd := lw_gd_of h
def mx_pC : List Nat := [865, 869, 844, 881, 877, 885, 890, 903, 907, 856, 894, 873, 861, 899, 856, 756, 753, 744, 446, 659, 695, 433, 690, 703, 699, 686, 711, 707, 748, 682, 831, 738, 635, 640, 631, 826, 541, 552, 547, 544, 537, 531, 527, 598, 626, 607, 588, 497, 480, 506, 510, 501, 523, 485, 519, 575, 579, 514, 583, 592, 602, 619, 611, 493, 649, 655, 645, 723, 450, 438, 848, 852, 771, 767, 677, 734, 763, 458, 466, 920, 916, 815, 810, 806, 473, 668, 664, 477, 799, 673, 795, 791, 489, 787, 822, 840, 779, 783, 836, 727, 443, 430, 715, 731, 462, 454, 924, 775, 912, 719, 1176, 1172, 1226, 1230, 1222, 1042, 1251, 1332, 1340, 1048, 1336, 1356, 1352, 1360, 1348, 1344, 1108, 1084, 1088, 1091, 1080, 1076, 1104, 1133, 1168, 1214, 1210, 1218, 1206, 1234, 1164, 1238, 1202, 1198, 1270, 1267, 1278, 1262, 1274, 1038, 1057, 1368, 1188, 1316, 1310, 1061, 1184, 1180, 1065, 1116, 1306, 1192, 1302, 1099, 1112, 1120, 1095, 1125, 1129, 1138, 1144, 1152, 1149, 1160, 1072, 1298, 1294, 1320, 1328, 1286, 1290, 1324, 1255, 1035, 1242, 1259, 1053, 1372, 1282, 1364, 1247, 0]
def mx_pI : List Nat := [98, 98, 97, 98, 98, 98, 98, 98, 98, 98, 98, 98, 98, 98, 98, 108, 97, 97, 101, 97, 97, 92, 97, 97, 97, 97, 97, 97, 97, 97, 97, 94, 95, 96, 94, 94, 103, 105, 103, 104, 103, 103, 103, 95, 95, 95, 95, 95, 92, 93, 93, 93, 93, 93, 93, 93, 93, 93, 93, 93, 93, 93, 93, 93, 96, 96, 96, 92, 92, 92, 92, 92, 92, 92, 92, 92, 92, 99, 92, 92, 92, 92, 92, 92, 92, 92, 92, 92, 92, 92, 92, 92, 92, 92, 92, 92, 92, 92, 92, 92, 99, 92, 92, 92, 99, 92, 92, 92, 92, 92, 100, 100, 100, 100, 100, 100, 100, 100, 100, 100, 100, 100, 100, 100, 100, 100, 100, 100, 100, 100, 100, 100, 100, 100, 100, 100, 100, 100, 100, 100, 100, 100, 100, 100, 100, 100, 100, 100, 100, 100, 100, 100, 100, 100, 100, 100, 100, 100, 100, 100, 100, 100, 100, 100, 100, 100, 100, 100, 100, 100, 100, 100, 100, 100, 100, 100, 100, 100, 100, 100, 100, 100, 100, 100, 100, 100, 100, 100, 100, 100, 100, 91]
def mx_pT : List Nat := [0, 0, 0, 0, 0, 0, 0, 0, 0, 0, 0, 0, 0, 0, 0, 1, 0, 0, 1, 0, 0, 1, 0, 0, 0, 0, 0, 0, 0, 0, 0, 0, 0, 0, 0, 0, 0, 1, 1, 1, 0, 0, 0, 0, 0, 0, 0, 0, 1, 0, 0, 0, 0, 0, 0, 0, 0, 0, 0, 0, 0, 0, 0, 0, 0, 0, 0, 0, 0, 0, 0, 0, 0, 0, 0, 1, 0, 0, 0, 0, 0, 0, 0, 0, 0, 0, 0, 0, 0, 0, 0, 0, 0, 0, 0, 0, 0, 0, 0, 0, 0, 0, 0, 0, 0, 0, 0, 0, 0, 0, 0, 0, 0, 0, 0, 1, 0, 0, 1, 0, 0, 0, 0, 0, 0, 0, 0, 0, 1, 1, 0, 0, 0, 0, 0, 0, 0, 0, 0, 0, 0, 0, 0, 0, 1, 0, 0, 1, 0, 1, 0, 0, 0, 0, 0, 0, 0, 0, 0, 0, 0, 0, 0, 0, 0, 0, 0, 0, 0, 0, 0, 1, 0, 0, 0, 0, 0, 0, 0, 0, 0, 0, 0, 0, 0, 0, 0, 0, 0, 0, 0, 1]
def mx_pM : List Nat := [864, 868, 842, 880, 876, 884, 889, 902, 906, 855, 893, 872, 860, 898, 855, 755, 751, 742, 445, 657, 694, 432, 689, 702, 698, 685, 710, 706, 746, 680, 829, 736, 633, 638, 629, 824, 539, 551, 546, 543, 535, 529, 525, 596, 624, 605, 586, 495, 479, 505, 509, 500, 522, 483, 518, 574, 578, 513, 582, 591, 601, 618, 610, 491, 648, 654, 643, 722, 449, 437, 846, 850, 770, 766, 676, 733, 761, 456, 464, 919, 914, 814, 809, 804, 471, 666, 662, 475, 797, 671, 794, 790, 487, 785, 820, 838, 777, 781, 834, 725, 441, 428, 713, 729, 460, 452, 922, 773, 910, 717, 1175, 1171, 1225, 1229, 1221, 1041, 1250, 1331, 1339, 1047, 1334, 1355, 1351, 1359, 1347, 1342, 1107, 1083, 1087, 1090, 1079, 1075, 1103, 1132, 1167, 1213, 1209, 1217, 1205, 1233, 1163, 1237, 1201, 1197, 1269, 1266, 1277, 1261, 1272, 1037, 1055, 1366, 1187, 1315, 1308, 1059, 1182, 1178, 1063, 1115, 1304, 1190, 1301, 1098, 1111, 1119, 1094, 1124, 1128, 1137, 1143, 1151, 1148, 1159, 1070, 1297, 1292, 1318, 1326, 1284, 1288, 1322, 1253, 1033, 1240, 1257, 1051, 1370, 1280, 1362, 1245, 0]
def mx_pS : List Nat := [34, 35, 843, 38, 37, 39, 40, 43, 44, 32, 41, 36, 33, 42, 32, 0, 752, 743, 0, 658, 20, 0, 19, 22, 21, 18, 24, 23, 747, 681, 830, 737, 634, 639, 630, 825, 540, 0, 0, 0, 536, 530, 526, 597, 625, 606, 587, 496, 0, 3, 4, 2, 7, 484, 6, 8, 9, 5, 10, 11, 12, 14, 13, 492, 15, 16, 644, 25, 1, 0, 847, 851, 27, 26, 17, 0, 762, 457, 465, 45, 915, 31, 30, 805, 472, 667, 663, 476, 798, 672, 29, 28, 488, 786, 821, 839, 778, 782, 835, 726, 442, 429, 714, 730, 461, 453, 923, 774, 911, 718, 67, 66, 76, 77, 75, 0, 80, 86, 0, 46, 1335, 89, 88, 90, 87, 1343, 53, 49, 0, 0, 48, 47, 52, 59, 65, 73, 72, 74, 71, 78, 64, 79, 70, 69, 0, 81, 82, 0, 1273, 0, 1056, 1367, 68, 85, 1309, 1060, 1183, 1179, 1064, 55, 1305, 1191, 84, 51, 54, 56, 50, 57, 58, 60, 61, 0, 62, 63, 1071, 83, 1293, 1319, 1327, 1285, 1289, 1323, 1254, 1034, 1241, 1258, 1052, 1371, 1281, 1363, 1246, 0]
/-- a method's own words: its code, its class, instance (and selected) or static -/
def mx_mck (y : Nat) : Bool := (mx_hw (mx_nth mx_pI y) (Cond.initialized (mx_mN y).cls) && (decide ((mx_mN y).cls ≠ "java/lang/invoke/MethodHandle") && (decide ((mx_mN y).cls ≠ "java/lang/invoke/VarHandle") && (match mx_nth mx_pT y with
  | 0 => mx_hw (mx_nth mx_pM y) (Cond.instanceMethod (mx_mN y)) && mx_hw (mx_nth mx_pS y) (Cond.selects (mx_mN y).cls (mx_mN y) (mx_mN y))
  | _ => mx_hw (mx_nth mx_pM y) (Cond.static (mx_mN y))))))
theorem mx_mck_all : (List.range 191).all mx_mck = true := by decide +kernel
theorem mx_mck_at {y : Nat} (h : y < 191) : mx_mck y = true := List.all_eq_true.mp mx_mck_all y (List.mem_range.mpr h)
def mx_allP (P : Nat → Prop) : Nat → Prop
  | 0 => True
  | n + 1 => mx_allP P n ∧ P n
theorem mx_allP_at {P : Nat → Prop} : ∀ {n y : Nat}, mx_allP P n → y < n → P y
  | 0, _, _, h => absurd h (Nat.not_lt_zero _)
  | n + 1, y, q, h => by
    rcases Nat.lt_or_ge y n with hy | hy
    · exact mx_allP_at q.1 hy
    · have : y = n := by omega
      subst this
      exact q.2
def mx_cdp (y : Nat) : Prop := Cond.code (mx_mN y) (mx_mC y) (mx_nl y) (mx_mR y) ∈ lw_gd
set_option maxRecDepth 100000 in
theorem mx_cw0 : mx_cdp 0 := List.mem_filter.mpr ⟨List.mem_of_getElem? (i := 865) rfl, rfl⟩
set_option maxRecDepth 100000 in
theorem mx_cw1 : mx_cdp 1 := List.mem_filter.mpr ⟨List.mem_of_getElem? (i := 869) rfl, rfl⟩
set_option maxRecDepth 100000 in
theorem mx_cw2 : mx_cdp 2 := List.mem_filter.mpr ⟨List.mem_of_getElem? (i := 844) rfl, rfl⟩
set_option maxRecDepth 100000 in
theorem mx_cw3 : mx_cdp 3 := List.mem_filter.mpr ⟨List.mem_of_getElem? (i := 881) rfl, rfl⟩
set_option maxRecDepth 100000 in
theorem mx_cw4 : mx_cdp 4 := List.mem_filter.mpr ⟨List.mem_of_getElem? (i := 877) rfl, rfl⟩
set_option maxRecDepth 100000 in
theorem mx_cw5 : mx_cdp 5 := List.mem_filter.mpr ⟨List.mem_of_getElem? (i := 885) rfl, rfl⟩
set_option maxRecDepth 100000 in
theorem mx_cw6 : mx_cdp 6 := List.mem_filter.mpr ⟨List.mem_of_getElem? (i := 890) rfl, rfl⟩
set_option maxRecDepth 100000 in
theorem mx_cw7 : mx_cdp 7 := List.mem_filter.mpr ⟨List.mem_of_getElem? (i := 903) rfl, rfl⟩
set_option maxRecDepth 100000 in
theorem mx_cw8 : mx_cdp 8 := List.mem_filter.mpr ⟨List.mem_of_getElem? (i := 907) rfl, rfl⟩
set_option maxRecDepth 100000 in
theorem mx_cw9 : mx_cdp 9 := List.mem_filter.mpr ⟨List.mem_of_getElem? (i := 856) rfl, rfl⟩
set_option maxRecDepth 100000 in
theorem mx_cw10 : mx_cdp 10 := List.mem_filter.mpr ⟨List.mem_of_getElem? (i := 894) rfl, rfl⟩
set_option maxRecDepth 100000 in
theorem mx_cw11 : mx_cdp 11 := List.mem_filter.mpr ⟨List.mem_of_getElem? (i := 873) rfl, rfl⟩
set_option maxRecDepth 100000 in
theorem mx_cw12 : mx_cdp 12 := List.mem_filter.mpr ⟨List.mem_of_getElem? (i := 861) rfl, rfl⟩
set_option maxRecDepth 100000 in
theorem mx_cw13 : mx_cdp 13 := List.mem_filter.mpr ⟨List.mem_of_getElem? (i := 899) rfl, rfl⟩
set_option maxRecDepth 100000 in
theorem mx_cw14 : mx_cdp 14 := List.mem_filter.mpr ⟨List.mem_of_getElem? (i := 856) rfl, rfl⟩
set_option maxRecDepth 100000 in
theorem mx_cw15 : mx_cdp 15 := List.mem_filter.mpr ⟨List.mem_of_getElem? (i := 756) rfl, rfl⟩
set_option maxRecDepth 100000 in
theorem mx_cw16 : mx_cdp 16 := List.mem_filter.mpr ⟨List.mem_of_getElem? (i := 753) rfl, rfl⟩
set_option maxRecDepth 100000 in
theorem mx_cw17 : mx_cdp 17 := List.mem_filter.mpr ⟨List.mem_of_getElem? (i := 744) rfl, rfl⟩
set_option maxRecDepth 100000 in
theorem mx_cw18 : mx_cdp 18 := List.mem_filter.mpr ⟨List.mem_of_getElem? (i := 446) rfl, rfl⟩
set_option maxRecDepth 100000 in
theorem mx_cw19 : mx_cdp 19 := List.mem_filter.mpr ⟨List.mem_of_getElem? (i := 659) rfl, rfl⟩
set_option maxRecDepth 100000 in
theorem mx_cw20 : mx_cdp 20 := List.mem_filter.mpr ⟨List.mem_of_getElem? (i := 695) rfl, rfl⟩
set_option maxRecDepth 100000 in
theorem mx_cw21 : mx_cdp 21 := List.mem_filter.mpr ⟨List.mem_of_getElem? (i := 433) rfl, rfl⟩
set_option maxRecDepth 100000 in
theorem mx_cw22 : mx_cdp 22 := List.mem_filter.mpr ⟨List.mem_of_getElem? (i := 690) rfl, rfl⟩
set_option maxRecDepth 100000 in
theorem mx_cw23 : mx_cdp 23 := List.mem_filter.mpr ⟨List.mem_of_getElem? (i := 703) rfl, rfl⟩
set_option maxRecDepth 100000 in
theorem mx_cw24 : mx_cdp 24 := List.mem_filter.mpr ⟨List.mem_of_getElem? (i := 699) rfl, rfl⟩
set_option maxRecDepth 100000 in
theorem mx_cw25 : mx_cdp 25 := List.mem_filter.mpr ⟨List.mem_of_getElem? (i := 686) rfl, rfl⟩
set_option maxRecDepth 100000 in
theorem mx_cw26 : mx_cdp 26 := List.mem_filter.mpr ⟨List.mem_of_getElem? (i := 711) rfl, rfl⟩
set_option maxRecDepth 100000 in
theorem mx_cw27 : mx_cdp 27 := List.mem_filter.mpr ⟨List.mem_of_getElem? (i := 707) rfl, rfl⟩
set_option maxRecDepth 100000 in
theorem mx_cw28 : mx_cdp 28 := List.mem_filter.mpr ⟨List.mem_of_getElem? (i := 748) rfl, rfl⟩
set_option maxRecDepth 100000 in
theorem mx_cw29 : mx_cdp 29 := List.mem_filter.mpr ⟨List.mem_of_getElem? (i := 682) rfl, rfl⟩
set_option maxRecDepth 100000 in
theorem mx_cw30 : mx_cdp 30 := List.mem_filter.mpr ⟨List.mem_of_getElem? (i := 831) rfl, rfl⟩
set_option maxRecDepth 100000 in
theorem mx_cw31 : mx_cdp 31 := List.mem_filter.mpr ⟨List.mem_of_getElem? (i := 738) rfl, rfl⟩
set_option maxRecDepth 100000 in
theorem mx_cw32 : mx_cdp 32 := List.mem_filter.mpr ⟨List.mem_of_getElem? (i := 635) rfl, rfl⟩
set_option maxRecDepth 100000 in
theorem mx_cw33 : mx_cdp 33 := List.mem_filter.mpr ⟨List.mem_of_getElem? (i := 640) rfl, rfl⟩
set_option maxRecDepth 100000 in
theorem mx_cw34 : mx_cdp 34 := List.mem_filter.mpr ⟨List.mem_of_getElem? (i := 631) rfl, rfl⟩
set_option maxRecDepth 100000 in
theorem mx_cw35 : mx_cdp 35 := List.mem_filter.mpr ⟨List.mem_of_getElem? (i := 826) rfl, rfl⟩
set_option maxRecDepth 100000 in
theorem mx_cw36 : mx_cdp 36 := List.mem_filter.mpr ⟨List.mem_of_getElem? (i := 541) rfl, rfl⟩
set_option maxRecDepth 100000 in
theorem mx_cw37 : mx_cdp 37 := List.mem_filter.mpr ⟨List.mem_of_getElem? (i := 552) rfl, rfl⟩
set_option maxRecDepth 100000 in
theorem mx_cw38 : mx_cdp 38 := List.mem_filter.mpr ⟨List.mem_of_getElem? (i := 547) rfl, rfl⟩
set_option maxRecDepth 100000 in
theorem mx_cw39 : mx_cdp 39 := List.mem_filter.mpr ⟨List.mem_of_getElem? (i := 544) rfl, rfl⟩
set_option maxRecDepth 100000 in
theorem mx_cw40 : mx_cdp 40 := List.mem_filter.mpr ⟨List.mem_of_getElem? (i := 537) rfl, rfl⟩
set_option maxRecDepth 100000 in
theorem mx_cw41 : mx_cdp 41 := List.mem_filter.mpr ⟨List.mem_of_getElem? (i := 531) rfl, rfl⟩
set_option maxRecDepth 100000 in
theorem mx_cw42 : mx_cdp 42 := List.mem_filter.mpr ⟨List.mem_of_getElem? (i := 527) rfl, rfl⟩
set_option maxRecDepth 100000 in
theorem mx_cw43 : mx_cdp 43 := List.mem_filter.mpr ⟨List.mem_of_getElem? (i := 598) rfl, rfl⟩
set_option maxRecDepth 100000 in
theorem mx_cw44 : mx_cdp 44 := List.mem_filter.mpr ⟨List.mem_of_getElem? (i := 626) rfl, rfl⟩
set_option maxRecDepth 100000 in
theorem mx_cw45 : mx_cdp 45 := List.mem_filter.mpr ⟨List.mem_of_getElem? (i := 607) rfl, rfl⟩
set_option maxRecDepth 100000 in
theorem mx_cw46 : mx_cdp 46 := List.mem_filter.mpr ⟨List.mem_of_getElem? (i := 588) rfl, rfl⟩
set_option maxRecDepth 100000 in
theorem mx_cw47 : mx_cdp 47 := List.mem_filter.mpr ⟨List.mem_of_getElem? (i := 497) rfl, rfl⟩
set_option maxRecDepth 100000 in
theorem mx_cw48 : mx_cdp 48 := List.mem_filter.mpr ⟨List.mem_of_getElem? (i := 480) rfl, rfl⟩
set_option maxRecDepth 100000 in
theorem mx_cw49 : mx_cdp 49 := List.mem_filter.mpr ⟨List.mem_of_getElem? (i := 506) rfl, rfl⟩
set_option maxRecDepth 100000 in
theorem mx_cw50 : mx_cdp 50 := List.mem_filter.mpr ⟨List.mem_of_getElem? (i := 510) rfl, rfl⟩
set_option maxRecDepth 100000 in
theorem mx_cw51 : mx_cdp 51 := List.mem_filter.mpr ⟨List.mem_of_getElem? (i := 501) rfl, rfl⟩
set_option maxRecDepth 100000 in
theorem mx_cw52 : mx_cdp 52 := List.mem_filter.mpr ⟨List.mem_of_getElem? (i := 523) rfl, rfl⟩
set_option maxRecDepth 100000 in
theorem mx_cw53 : mx_cdp 53 := List.mem_filter.mpr ⟨List.mem_of_getElem? (i := 485) rfl, rfl⟩
set_option maxRecDepth 100000 in
theorem mx_cw54 : mx_cdp 54 := List.mem_filter.mpr ⟨List.mem_of_getElem? (i := 519) rfl, rfl⟩
set_option maxRecDepth 100000 in
theorem mx_cw55 : mx_cdp 55 := List.mem_filter.mpr ⟨List.mem_of_getElem? (i := 575) rfl, rfl⟩
set_option maxRecDepth 100000 in
theorem mx_cw56 : mx_cdp 56 := List.mem_filter.mpr ⟨List.mem_of_getElem? (i := 579) rfl, rfl⟩
set_option maxRecDepth 100000 in
theorem mx_cw57 : mx_cdp 57 := List.mem_filter.mpr ⟨List.mem_of_getElem? (i := 514) rfl, rfl⟩
set_option maxRecDepth 100000 in
theorem mx_cw58 : mx_cdp 58 := List.mem_filter.mpr ⟨List.mem_of_getElem? (i := 583) rfl, rfl⟩
set_option maxRecDepth 100000 in
theorem mx_cw59 : mx_cdp 59 := List.mem_filter.mpr ⟨List.mem_of_getElem? (i := 592) rfl, rfl⟩
set_option maxRecDepth 100000 in
theorem mx_cw60 : mx_cdp 60 := List.mem_filter.mpr ⟨List.mem_of_getElem? (i := 602) rfl, rfl⟩
set_option maxRecDepth 100000 in
theorem mx_cw61 : mx_cdp 61 := List.mem_filter.mpr ⟨List.mem_of_getElem? (i := 619) rfl, rfl⟩
set_option maxRecDepth 100000 in
theorem mx_cw62 : mx_cdp 62 := List.mem_filter.mpr ⟨List.mem_of_getElem? (i := 611) rfl, rfl⟩
set_option maxRecDepth 100000 in
theorem mx_cw63 : mx_cdp 63 := List.mem_filter.mpr ⟨List.mem_of_getElem? (i := 493) rfl, rfl⟩
set_option maxRecDepth 100000 in
theorem mx_cw64 : mx_cdp 64 := List.mem_filter.mpr ⟨List.mem_of_getElem? (i := 649) rfl, rfl⟩
set_option maxRecDepth 100000 in
theorem mx_cw65 : mx_cdp 65 := List.mem_filter.mpr ⟨List.mem_of_getElem? (i := 655) rfl, rfl⟩
set_option maxRecDepth 100000 in
theorem mx_cw66 : mx_cdp 66 := List.mem_filter.mpr ⟨List.mem_of_getElem? (i := 645) rfl, rfl⟩
set_option maxRecDepth 100000 in
theorem mx_cw67 : mx_cdp 67 := List.mem_filter.mpr ⟨List.mem_of_getElem? (i := 723) rfl, rfl⟩
set_option maxRecDepth 100000 in
theorem mx_cw68 : mx_cdp 68 := List.mem_filter.mpr ⟨List.mem_of_getElem? (i := 450) rfl, rfl⟩
set_option maxRecDepth 100000 in
theorem mx_cw69 : mx_cdp 69 := List.mem_filter.mpr ⟨List.mem_of_getElem? (i := 438) rfl, rfl⟩
set_option maxRecDepth 100000 in
theorem mx_cw70 : mx_cdp 70 := List.mem_filter.mpr ⟨List.mem_of_getElem? (i := 848) rfl, rfl⟩
set_option maxRecDepth 100000 in
theorem mx_cw71 : mx_cdp 71 := List.mem_filter.mpr ⟨List.mem_of_getElem? (i := 852) rfl, rfl⟩
set_option maxRecDepth 100000 in
theorem mx_cw72 : mx_cdp 72 := List.mem_filter.mpr ⟨List.mem_of_getElem? (i := 771) rfl, rfl⟩
set_option maxRecDepth 100000 in
theorem mx_cw73 : mx_cdp 73 := List.mem_filter.mpr ⟨List.mem_of_getElem? (i := 767) rfl, rfl⟩
set_option maxRecDepth 100000 in
theorem mx_cw74 : mx_cdp 74 := List.mem_filter.mpr ⟨List.mem_of_getElem? (i := 677) rfl, rfl⟩
set_option maxRecDepth 100000 in
theorem mx_cw75 : mx_cdp 75 := List.mem_filter.mpr ⟨List.mem_of_getElem? (i := 734) rfl, rfl⟩
set_option maxRecDepth 100000 in
theorem mx_cw76 : mx_cdp 76 := List.mem_filter.mpr ⟨List.mem_of_getElem? (i := 763) rfl, rfl⟩
set_option maxRecDepth 100000 in
theorem mx_cw77 : mx_cdp 77 := List.mem_filter.mpr ⟨List.mem_of_getElem? (i := 458) rfl, rfl⟩
set_option maxRecDepth 100000 in
theorem mx_cw78 : mx_cdp 78 := List.mem_filter.mpr ⟨List.mem_of_getElem? (i := 466) rfl, rfl⟩
set_option maxRecDepth 100000 in
theorem mx_cw79 : mx_cdp 79 := List.mem_filter.mpr ⟨List.mem_of_getElem? (i := 920) rfl, rfl⟩
set_option maxRecDepth 100000 in
theorem mx_cw80 : mx_cdp 80 := List.mem_filter.mpr ⟨List.mem_of_getElem? (i := 916) rfl, rfl⟩
set_option maxRecDepth 100000 in
theorem mx_cw81 : mx_cdp 81 := List.mem_filter.mpr ⟨List.mem_of_getElem? (i := 815) rfl, rfl⟩
set_option maxRecDepth 100000 in
theorem mx_cw82 : mx_cdp 82 := List.mem_filter.mpr ⟨List.mem_of_getElem? (i := 810) rfl, rfl⟩
set_option maxRecDepth 100000 in
theorem mx_cw83 : mx_cdp 83 := List.mem_filter.mpr ⟨List.mem_of_getElem? (i := 806) rfl, rfl⟩
set_option maxRecDepth 100000 in
theorem mx_cw84 : mx_cdp 84 := List.mem_filter.mpr ⟨List.mem_of_getElem? (i := 473) rfl, rfl⟩
set_option maxRecDepth 100000 in
theorem mx_cw85 : mx_cdp 85 := List.mem_filter.mpr ⟨List.mem_of_getElem? (i := 668) rfl, rfl⟩
set_option maxRecDepth 100000 in
theorem mx_cw86 : mx_cdp 86 := List.mem_filter.mpr ⟨List.mem_of_getElem? (i := 664) rfl, rfl⟩
set_option maxRecDepth 100000 in
theorem mx_cw87 : mx_cdp 87 := List.mem_filter.mpr ⟨List.mem_of_getElem? (i := 477) rfl, rfl⟩
set_option maxRecDepth 100000 in
theorem mx_cw88 : mx_cdp 88 := List.mem_filter.mpr ⟨List.mem_of_getElem? (i := 799) rfl, rfl⟩
set_option maxRecDepth 100000 in
theorem mx_cw89 : mx_cdp 89 := List.mem_filter.mpr ⟨List.mem_of_getElem? (i := 673) rfl, rfl⟩
set_option maxRecDepth 100000 in
theorem mx_cw90 : mx_cdp 90 := List.mem_filter.mpr ⟨List.mem_of_getElem? (i := 795) rfl, rfl⟩
set_option maxRecDepth 100000 in
theorem mx_cw91 : mx_cdp 91 := List.mem_filter.mpr ⟨List.mem_of_getElem? (i := 791) rfl, rfl⟩
set_option maxRecDepth 100000 in
theorem mx_cw92 : mx_cdp 92 := List.mem_filter.mpr ⟨List.mem_of_getElem? (i := 489) rfl, rfl⟩
set_option maxRecDepth 100000 in
theorem mx_cw93 : mx_cdp 93 := List.mem_filter.mpr ⟨List.mem_of_getElem? (i := 787) rfl, rfl⟩
set_option maxRecDepth 100000 in
theorem mx_cw94 : mx_cdp 94 := List.mem_filter.mpr ⟨List.mem_of_getElem? (i := 822) rfl, rfl⟩
set_option maxRecDepth 100000 in
theorem mx_cw95 : mx_cdp 95 := List.mem_filter.mpr ⟨List.mem_of_getElem? (i := 840) rfl, rfl⟩
set_option maxRecDepth 100000 in
theorem mx_cw96 : mx_cdp 96 := List.mem_filter.mpr ⟨List.mem_of_getElem? (i := 779) rfl, rfl⟩
set_option maxRecDepth 100000 in
theorem mx_cw97 : mx_cdp 97 := List.mem_filter.mpr ⟨List.mem_of_getElem? (i := 783) rfl, rfl⟩
set_option maxRecDepth 100000 in
theorem mx_cw98 : mx_cdp 98 := List.mem_filter.mpr ⟨List.mem_of_getElem? (i := 836) rfl, rfl⟩
set_option maxRecDepth 100000 in
theorem mx_cw99 : mx_cdp 99 := List.mem_filter.mpr ⟨List.mem_of_getElem? (i := 727) rfl, rfl⟩
set_option maxRecDepth 100000 in
theorem mx_cw100 : mx_cdp 100 := List.mem_filter.mpr ⟨List.mem_of_getElem? (i := 443) rfl, rfl⟩
set_option maxRecDepth 100000 in
theorem mx_cw101 : mx_cdp 101 := List.mem_filter.mpr ⟨List.mem_of_getElem? (i := 430) rfl, rfl⟩
set_option maxRecDepth 100000 in
theorem mx_cw102 : mx_cdp 102 := List.mem_filter.mpr ⟨List.mem_of_getElem? (i := 715) rfl, rfl⟩
set_option maxRecDepth 100000 in
theorem mx_cw103 : mx_cdp 103 := List.mem_filter.mpr ⟨List.mem_of_getElem? (i := 731) rfl, rfl⟩
set_option maxRecDepth 100000 in
theorem mx_cw104 : mx_cdp 104 := List.mem_filter.mpr ⟨List.mem_of_getElem? (i := 462) rfl, rfl⟩
set_option maxRecDepth 100000 in
theorem mx_cw105 : mx_cdp 105 := List.mem_filter.mpr ⟨List.mem_of_getElem? (i := 454) rfl, rfl⟩
set_option maxRecDepth 100000 in
theorem mx_cw106 : mx_cdp 106 := List.mem_filter.mpr ⟨List.mem_of_getElem? (i := 924) rfl, rfl⟩
set_option maxRecDepth 100000 in
theorem mx_cw107 : mx_cdp 107 := List.mem_filter.mpr ⟨List.mem_of_getElem? (i := 775) rfl, rfl⟩
set_option maxRecDepth 100000 in
theorem mx_cw108 : mx_cdp 108 := List.mem_filter.mpr ⟨List.mem_of_getElem? (i := 912) rfl, rfl⟩
set_option maxRecDepth 100000 in
theorem mx_cw109 : mx_cdp 109 := List.mem_filter.mpr ⟨List.mem_of_getElem? (i := 719) rfl, rfl⟩
set_option maxRecDepth 100000 in
theorem mx_cw110 : mx_cdp 110 := List.mem_filter.mpr ⟨List.mem_of_getElem? (i := 1176) rfl, rfl⟩
set_option maxRecDepth 100000 in
theorem mx_cw111 : mx_cdp 111 := List.mem_filter.mpr ⟨List.mem_of_getElem? (i := 1172) rfl, rfl⟩
set_option maxRecDepth 100000 in
theorem mx_cw112 : mx_cdp 112 := List.mem_filter.mpr ⟨List.mem_of_getElem? (i := 1226) rfl, rfl⟩
set_option maxRecDepth 100000 in
theorem mx_cw113 : mx_cdp 113 := List.mem_filter.mpr ⟨List.mem_of_getElem? (i := 1230) rfl, rfl⟩
set_option maxRecDepth 100000 in
theorem mx_cw114 : mx_cdp 114 := List.mem_filter.mpr ⟨List.mem_of_getElem? (i := 1222) rfl, rfl⟩
set_option maxRecDepth 100000 in
theorem mx_cw115 : mx_cdp 115 := List.mem_filter.mpr ⟨List.mem_of_getElem? (i := 1042) rfl, rfl⟩
set_option maxRecDepth 100000 in
theorem mx_cw116 : mx_cdp 116 := List.mem_filter.mpr ⟨List.mem_of_getElem? (i := 1251) rfl, rfl⟩
set_option maxRecDepth 100000 in
theorem mx_cw117 : mx_cdp 117 := List.mem_filter.mpr ⟨List.mem_of_getElem? (i := 1332) rfl, rfl⟩
set_option maxRecDepth 100000 in
theorem mx_cw118 : mx_cdp 118 := List.mem_filter.mpr ⟨List.mem_of_getElem? (i := 1340) rfl, rfl⟩
set_option maxRecDepth 100000 in
theorem mx_cw119 : mx_cdp 119 := List.mem_filter.mpr ⟨List.mem_of_getElem? (i := 1048) rfl, rfl⟩
set_option maxRecDepth 100000 in
theorem mx_cw120 : mx_cdp 120 := List.mem_filter.mpr ⟨List.mem_of_getElem? (i := 1336) rfl, rfl⟩
set_option maxRecDepth 100000 in
theorem mx_cw121 : mx_cdp 121 := List.mem_filter.mpr ⟨List.mem_of_getElem? (i := 1356) rfl, rfl⟩
set_option maxRecDepth 100000 in
theorem mx_cw122 : mx_cdp 122 := List.mem_filter.mpr ⟨List.mem_of_getElem? (i := 1352) rfl, rfl⟩
set_option maxRecDepth 100000 in
theorem mx_cw123 : mx_cdp 123 := List.mem_filter.mpr ⟨List.mem_of_getElem? (i := 1360) rfl, rfl⟩
set_option maxRecDepth 100000 in
theorem mx_cw124 : mx_cdp 124 := List.mem_filter.mpr ⟨List.mem_of_getElem? (i := 1348) rfl, rfl⟩
set_option maxRecDepth 100000 in
theorem mx_cw125 : mx_cdp 125 := List.mem_filter.mpr ⟨List.mem_of_getElem? (i := 1344) rfl, rfl⟩
set_option maxRecDepth 100000 in
theorem mx_cw126 : mx_cdp 126 := List.mem_filter.mpr ⟨List.mem_of_getElem? (i := 1108) rfl, rfl⟩
set_option maxRecDepth 100000 in
theorem mx_cw127 : mx_cdp 127 := List.mem_filter.mpr ⟨List.mem_of_getElem? (i := 1084) rfl, rfl⟩
set_option maxRecDepth 100000 in
theorem mx_cw128 : mx_cdp 128 := List.mem_filter.mpr ⟨List.mem_of_getElem? (i := 1088) rfl, rfl⟩
set_option maxRecDepth 100000 in
theorem mx_cw129 : mx_cdp 129 := List.mem_filter.mpr ⟨List.mem_of_getElem? (i := 1091) rfl, rfl⟩
set_option maxRecDepth 100000 in
theorem mx_cw130 : mx_cdp 130 := List.mem_filter.mpr ⟨List.mem_of_getElem? (i := 1080) rfl, rfl⟩
set_option maxRecDepth 100000 in
theorem mx_cw131 : mx_cdp 131 := List.mem_filter.mpr ⟨List.mem_of_getElem? (i := 1076) rfl, rfl⟩
set_option maxRecDepth 100000 in
theorem mx_cw132 : mx_cdp 132 := List.mem_filter.mpr ⟨List.mem_of_getElem? (i := 1104) rfl, rfl⟩
set_option maxRecDepth 100000 in
theorem mx_cw133 : mx_cdp 133 := List.mem_filter.mpr ⟨List.mem_of_getElem? (i := 1133) rfl, rfl⟩
set_option maxRecDepth 100000 in
theorem mx_cw134 : mx_cdp 134 := List.mem_filter.mpr ⟨List.mem_of_getElem? (i := 1168) rfl, rfl⟩
set_option maxRecDepth 100000 in
theorem mx_cw135 : mx_cdp 135 := List.mem_filter.mpr ⟨List.mem_of_getElem? (i := 1214) rfl, rfl⟩
set_option maxRecDepth 100000 in
theorem mx_cw136 : mx_cdp 136 := List.mem_filter.mpr ⟨List.mem_of_getElem? (i := 1210) rfl, rfl⟩
set_option maxRecDepth 100000 in
theorem mx_cw137 : mx_cdp 137 := List.mem_filter.mpr ⟨List.mem_of_getElem? (i := 1218) rfl, rfl⟩
set_option maxRecDepth 100000 in
theorem mx_cw138 : mx_cdp 138 := List.mem_filter.mpr ⟨List.mem_of_getElem? (i := 1206) rfl, rfl⟩
set_option maxRecDepth 100000 in
theorem mx_cw139 : mx_cdp 139 := List.mem_filter.mpr ⟨List.mem_of_getElem? (i := 1234) rfl, rfl⟩
set_option maxRecDepth 100000 in
theorem mx_cw140 : mx_cdp 140 := List.mem_filter.mpr ⟨List.mem_of_getElem? (i := 1164) rfl, rfl⟩
set_option maxRecDepth 100000 in
theorem mx_cw141 : mx_cdp 141 := List.mem_filter.mpr ⟨List.mem_of_getElem? (i := 1238) rfl, rfl⟩
set_option maxRecDepth 100000 in
theorem mx_cw142 : mx_cdp 142 := List.mem_filter.mpr ⟨List.mem_of_getElem? (i := 1202) rfl, rfl⟩
set_option maxRecDepth 100000 in
theorem mx_cw143 : mx_cdp 143 := List.mem_filter.mpr ⟨List.mem_of_getElem? (i := 1198) rfl, rfl⟩
set_option maxRecDepth 100000 in
theorem mx_cw144 : mx_cdp 144 := List.mem_filter.mpr ⟨List.mem_of_getElem? (i := 1270) rfl, rfl⟩
set_option maxRecDepth 100000 in
theorem mx_cw145 : mx_cdp 145 := List.mem_filter.mpr ⟨List.mem_of_getElem? (i := 1267) rfl, rfl⟩
set_option maxRecDepth 100000 in
theorem mx_cw146 : mx_cdp 146 := List.mem_filter.mpr ⟨List.mem_of_getElem? (i := 1278) rfl, rfl⟩
set_option maxRecDepth 100000 in
theorem mx_cw147 : mx_cdp 147 := List.mem_filter.mpr ⟨List.mem_of_getElem? (i := 1262) rfl, rfl⟩
set_option maxRecDepth 100000 in
theorem mx_cw148 : mx_cdp 148 := List.mem_filter.mpr ⟨List.mem_of_getElem? (i := 1274) rfl, rfl⟩
set_option maxRecDepth 100000 in
theorem mx_cw149 : mx_cdp 149 := List.mem_filter.mpr ⟨List.mem_of_getElem? (i := 1038) rfl, rfl⟩
set_option maxRecDepth 100000 in
theorem mx_cw150 : mx_cdp 150 := List.mem_filter.mpr ⟨List.mem_of_getElem? (i := 1057) rfl, rfl⟩
set_option maxRecDepth 100000 in
theorem mx_cw151 : mx_cdp 151 := List.mem_filter.mpr ⟨List.mem_of_getElem? (i := 1368) rfl, rfl⟩
set_option maxRecDepth 100000 in
theorem mx_cw152 : mx_cdp 152 := List.mem_filter.mpr ⟨List.mem_of_getElem? (i := 1188) rfl, rfl⟩
set_option maxRecDepth 100000 in
theorem mx_cw153 : mx_cdp 153 := List.mem_filter.mpr ⟨List.mem_of_getElem? (i := 1316) rfl, rfl⟩
set_option maxRecDepth 100000 in
theorem mx_cw154 : mx_cdp 154 := List.mem_filter.mpr ⟨List.mem_of_getElem? (i := 1310) rfl, rfl⟩
set_option maxRecDepth 100000 in
theorem mx_cw155 : mx_cdp 155 := List.mem_filter.mpr ⟨List.mem_of_getElem? (i := 1061) rfl, rfl⟩
set_option maxRecDepth 100000 in
theorem mx_cw156 : mx_cdp 156 := List.mem_filter.mpr ⟨List.mem_of_getElem? (i := 1184) rfl, rfl⟩
set_option maxRecDepth 100000 in
theorem mx_cw157 : mx_cdp 157 := List.mem_filter.mpr ⟨List.mem_of_getElem? (i := 1180) rfl, rfl⟩
set_option maxRecDepth 100000 in
theorem mx_cw158 : mx_cdp 158 := List.mem_filter.mpr ⟨List.mem_of_getElem? (i := 1065) rfl, rfl⟩
set_option maxRecDepth 100000 in
theorem mx_cw159 : mx_cdp 159 := List.mem_filter.mpr ⟨List.mem_of_getElem? (i := 1116) rfl, rfl⟩
set_option maxRecDepth 100000 in
theorem mx_cw160 : mx_cdp 160 := List.mem_filter.mpr ⟨List.mem_of_getElem? (i := 1306) rfl, rfl⟩
set_option maxRecDepth 100000 in
theorem mx_cw161 : mx_cdp 161 := List.mem_filter.mpr ⟨List.mem_of_getElem? (i := 1192) rfl, rfl⟩
set_option maxRecDepth 100000 in
theorem mx_cw162 : mx_cdp 162 := List.mem_filter.mpr ⟨List.mem_of_getElem? (i := 1302) rfl, rfl⟩
set_option maxRecDepth 100000 in
theorem mx_cw163 : mx_cdp 163 := List.mem_filter.mpr ⟨List.mem_of_getElem? (i := 1099) rfl, rfl⟩
set_option maxRecDepth 100000 in
theorem mx_cw164 : mx_cdp 164 := List.mem_filter.mpr ⟨List.mem_of_getElem? (i := 1112) rfl, rfl⟩
set_option maxRecDepth 100000 in
theorem mx_cw165 : mx_cdp 165 := List.mem_filter.mpr ⟨List.mem_of_getElem? (i := 1120) rfl, rfl⟩
set_option maxRecDepth 100000 in
theorem mx_cw166 : mx_cdp 166 := List.mem_filter.mpr ⟨List.mem_of_getElem? (i := 1095) rfl, rfl⟩
set_option maxRecDepth 100000 in
theorem mx_cw167 : mx_cdp 167 := List.mem_filter.mpr ⟨List.mem_of_getElem? (i := 1125) rfl, rfl⟩
set_option maxRecDepth 100000 in
theorem mx_cw168 : mx_cdp 168 := List.mem_filter.mpr ⟨List.mem_of_getElem? (i := 1129) rfl, rfl⟩
set_option maxRecDepth 100000 in
theorem mx_cw169 : mx_cdp 169 := List.mem_filter.mpr ⟨List.mem_of_getElem? (i := 1138) rfl, rfl⟩
set_option maxRecDepth 100000 in
theorem mx_cw170 : mx_cdp 170 := List.mem_filter.mpr ⟨List.mem_of_getElem? (i := 1144) rfl, rfl⟩
set_option maxRecDepth 100000 in
theorem mx_cw171 : mx_cdp 171 := List.mem_filter.mpr ⟨List.mem_of_getElem? (i := 1152) rfl, rfl⟩
set_option maxRecDepth 100000 in
theorem mx_cw172 : mx_cdp 172 := List.mem_filter.mpr ⟨List.mem_of_getElem? (i := 1149) rfl, rfl⟩
set_option maxRecDepth 100000 in
theorem mx_cw173 : mx_cdp 173 := List.mem_filter.mpr ⟨List.mem_of_getElem? (i := 1160) rfl, rfl⟩
set_option maxRecDepth 100000 in
theorem mx_cw174 : mx_cdp 174 := List.mem_filter.mpr ⟨List.mem_of_getElem? (i := 1072) rfl, rfl⟩
set_option maxRecDepth 100000 in
theorem mx_cw175 : mx_cdp 175 := List.mem_filter.mpr ⟨List.mem_of_getElem? (i := 1298) rfl, rfl⟩
set_option maxRecDepth 100000 in
theorem mx_cw176 : mx_cdp 176 := List.mem_filter.mpr ⟨List.mem_of_getElem? (i := 1294) rfl, rfl⟩
set_option maxRecDepth 100000 in
theorem mx_cw177 : mx_cdp 177 := List.mem_filter.mpr ⟨List.mem_of_getElem? (i := 1320) rfl, rfl⟩
set_option maxRecDepth 100000 in
theorem mx_cw178 : mx_cdp 178 := List.mem_filter.mpr ⟨List.mem_of_getElem? (i := 1328) rfl, rfl⟩
set_option maxRecDepth 100000 in
theorem mx_cw179 : mx_cdp 179 := List.mem_filter.mpr ⟨List.mem_of_getElem? (i := 1286) rfl, rfl⟩
set_option maxRecDepth 100000 in
theorem mx_cw180 : mx_cdp 180 := List.mem_filter.mpr ⟨List.mem_of_getElem? (i := 1290) rfl, rfl⟩
set_option maxRecDepth 100000 in
theorem mx_cw181 : mx_cdp 181 := List.mem_filter.mpr ⟨List.mem_of_getElem? (i := 1324) rfl, rfl⟩
set_option maxRecDepth 100000 in
theorem mx_cw182 : mx_cdp 182 := List.mem_filter.mpr ⟨List.mem_of_getElem? (i := 1255) rfl, rfl⟩
set_option maxRecDepth 100000 in
theorem mx_cw183 : mx_cdp 183 := List.mem_filter.mpr ⟨List.mem_of_getElem? (i := 1035) rfl, rfl⟩
set_option maxRecDepth 100000 in
theorem mx_cw184 : mx_cdp 184 := List.mem_filter.mpr ⟨List.mem_of_getElem? (i := 1242) rfl, rfl⟩
set_option maxRecDepth 100000 in
theorem mx_cw185 : mx_cdp 185 := List.mem_filter.mpr ⟨List.mem_of_getElem? (i := 1259) rfl, rfl⟩
set_option maxRecDepth 100000 in
theorem mx_cw186 : mx_cdp 186 := List.mem_filter.mpr ⟨List.mem_of_getElem? (i := 1053) rfl, rfl⟩
set_option maxRecDepth 100000 in
theorem mx_cw187 : mx_cdp 187 := List.mem_filter.mpr ⟨List.mem_of_getElem? (i := 1372) rfl, rfl⟩
set_option maxRecDepth 100000 in
theorem mx_cw188 : mx_cdp 188 := List.mem_filter.mpr ⟨List.mem_of_getElem? (i := 1282) rfl, rfl⟩
set_option maxRecDepth 100000 in
theorem mx_cw189 : mx_cdp 189 := List.mem_filter.mpr ⟨List.mem_of_getElem? (i := 1364) rfl, rfl⟩
set_option maxRecDepth 100000 in
theorem mx_cw190 : mx_cdp 190 := List.mem_filter.mpr ⟨List.mem_of_getElem? (i := 1247) rfl, rfl⟩
theorem mx_cdp_all : mx_allP mx_cdp 191 := ⟨⟨⟨⟨⟨⟨⟨⟨⟨⟨⟨⟨⟨⟨⟨⟨⟨⟨⟨⟨⟨⟨⟨⟨⟨⟨⟨⟨⟨⟨⟨⟨⟨⟨⟨⟨⟨⟨⟨⟨⟨⟨⟨⟨⟨⟨⟨⟨⟨⟨⟨⟨⟨⟨⟨⟨⟨⟨⟨⟨⟨⟨⟨⟨⟨⟨⟨⟨⟨⟨⟨⟨⟨⟨⟨⟨⟨⟨⟨⟨⟨⟨⟨⟨⟨⟨⟨⟨⟨⟨⟨⟨⟨⟨⟨⟨⟨⟨⟨⟨⟨⟨⟨⟨⟨⟨⟨⟨⟨⟨⟨⟨⟨⟨⟨⟨⟨⟨⟨⟨⟨⟨⟨⟨⟨⟨⟨⟨⟨⟨⟨⟨⟨⟨⟨⟨⟨⟨⟨⟨⟨⟨⟨⟨⟨⟨⟨⟨⟨⟨⟨⟨⟨⟨⟨⟨⟨⟨⟨⟨⟨⟨⟨⟨⟨⟨⟨⟨⟨⟨⟨⟨⟨⟨⟨⟨⟨⟨⟨⟨⟨⟨⟨⟨⟨⟨⟨⟨⟨⟨⟨trivial, mx_cw0⟩, mx_cw1⟩, mx_cw2⟩, mx_cw3⟩, mx_cw4⟩, mx_cw5⟩, mx_cw6⟩, mx_cw7⟩, mx_cw8⟩, mx_cw9⟩, mx_cw10⟩, mx_cw11⟩, mx_cw12⟩, mx_cw13⟩, mx_cw14⟩, mx_cw15⟩, mx_cw16⟩, mx_cw17⟩, mx_cw18⟩, mx_cw19⟩, mx_cw20⟩, mx_cw21⟩, mx_cw22⟩, mx_cw23⟩, mx_cw24⟩, mx_cw25⟩, mx_cw26⟩, mx_cw27⟩, mx_cw28⟩, mx_cw29⟩, mx_cw30⟩, mx_cw31⟩, mx_cw32⟩, mx_cw33⟩, mx_cw34⟩, mx_cw35⟩, mx_cw36⟩, mx_cw37⟩, mx_cw38⟩, mx_cw39⟩, mx_cw40⟩, mx_cw41⟩, mx_cw42⟩, mx_cw43⟩, mx_cw44⟩, mx_cw45⟩, mx_cw46⟩, mx_cw47⟩, mx_cw48⟩, mx_cw49⟩, mx_cw50⟩, mx_cw51⟩, mx_cw52⟩, mx_cw53⟩, mx_cw54⟩, mx_cw55⟩, mx_cw56⟩, mx_cw57⟩, mx_cw58⟩, mx_cw59⟩, mx_cw60⟩, mx_cw61⟩, mx_cw62⟩, mx_cw63⟩, mx_cw64⟩, mx_cw65⟩, mx_cw66⟩, mx_cw67⟩, mx_cw68⟩, mx_cw69⟩, mx_cw70⟩, mx_cw71⟩, mx_cw72⟩, mx_cw73⟩, mx_cw74⟩, mx_cw75⟩, mx_cw76⟩, mx_cw77⟩, mx_cw78⟩, mx_cw79⟩, mx_cw80⟩, mx_cw81⟩, mx_cw82⟩, mx_cw83⟩, mx_cw84⟩, mx_cw85⟩, mx_cw86⟩, mx_cw87⟩, mx_cw88⟩, mx_cw89⟩, mx_cw90⟩, mx_cw91⟩, mx_cw92⟩, mx_cw93⟩, mx_cw94⟩, mx_cw95⟩, mx_cw96⟩, mx_cw97⟩, mx_cw98⟩, mx_cw99⟩, mx_cw100⟩, mx_cw101⟩, mx_cw102⟩, mx_cw103⟩, mx_cw104⟩, mx_cw105⟩, mx_cw106⟩, mx_cw107⟩, mx_cw108⟩, mx_cw109⟩, mx_cw110⟩, mx_cw111⟩, mx_cw112⟩, mx_cw113⟩, mx_cw114⟩, mx_cw115⟩, mx_cw116⟩, mx_cw117⟩, mx_cw118⟩, mx_cw119⟩, mx_cw120⟩, mx_cw121⟩, mx_cw122⟩, mx_cw123⟩, mx_cw124⟩, mx_cw125⟩, mx_cw126⟩, mx_cw127⟩, mx_cw128⟩, mx_cw129⟩, mx_cw130⟩, mx_cw131⟩, mx_cw132⟩, mx_cw133⟩, mx_cw134⟩, mx_cw135⟩, mx_cw136⟩, mx_cw137⟩, mx_cw138⟩, mx_cw139⟩, mx_cw140⟩, mx_cw141⟩, mx_cw142⟩, mx_cw143⟩, mx_cw144⟩, mx_cw145⟩, mx_cw146⟩, mx_cw147⟩, mx_cw148⟩, mx_cw149⟩, mx_cw150⟩, mx_cw151⟩, mx_cw152⟩, mx_cw153⟩, mx_cw154⟩, mx_cw155⟩, mx_cw156⟩, mx_cw157⟩, mx_cw158⟩, mx_cw159⟩, mx_cw160⟩, mx_cw161⟩, mx_cw162⟩, mx_cw163⟩, mx_cw164⟩, mx_cw165⟩, mx_cw166⟩, mx_cw167⟩, mx_cw168⟩, mx_cw169⟩, mx_cw170⟩, mx_cw171⟩, mx_cw172⟩, mx_cw173⟩, mx_cw174⟩, mx_cw175⟩, mx_cw176⟩, mx_cw177⟩, mx_cw178⟩, mx_cw179⟩, mx_cw180⟩, mx_cw181⟩, mx_cw182⟩, mx_cw183⟩, mx_cw184⟩, mx_cw185⟩, mx_cw186⟩, mx_cw187⟩, mx_cw188⟩, mx_cw189⟩, mx_cw190⟩

def mx_LF : List (Nat × Nat × Nat × Nat) := [(0, 56, 0, 2), (0, 9, 0, 1), (0, 15, 0, 0), (0, 64, 1, 7), (1, 15, 1, 5), (1, 39, 1, 13), (0, 70, 1, 5), (0, 78, 1, 6), (1, 45, 1, 0), (1, 83, 3, 17), (1, 27, 1, 9), (1, 21, 1, 7), (1, 53, 1, 2), (1, 57, 1, 3), (1, 60, 3, 12), (1, 65, 3, 13), (1, 9, 1, 4), (1, 18, 1, 6), (1, 68, 3, 16), (1, 24, 1, 8), (1, 30, 1, 10), (1, 33, 1, 11), (1, 36, 1, 12), (1, 154, 3, 15), (1, 157, 3, 8), (1, 49, 1, 1), (1, 160, 6, 0), (1, 118, 3, 9), (1, 145, 3, 10), (1, 133, 3, 2), (1, 139, 3, 3), (1, 105, 3, 14), (1, 42, 1, 14), (1, 142, 3, 0), (1, 148, 3, 11), (1, 151, 3, 1), (1, 125, 6, 1), (2, 28, 2, 2), (2, 50, 1, 3), (2, 10, 2, 0), (2, 54, 3, 17), (3, 61, 3, 0), (3, 64, 3, 1), (3, 45, 3, 2), (3, 49, 3, 4), (3, 52, 3, 8), (3, 55, 3, 12), (3, 58, 3, 17), (3, 9, 3, 3), (3, 15, 3, 5), (3, 18, 3, 6), (3, 21, 3, 7), (3, 24, 3, 9), (3, 27, 3, 10), (3, 30, 3, 11), (3, 33, 3, 13), (3, 36, 3, 14), (3, 39, 3, 15), (3, 42, 3, 16), (6, 9, 6, 0), (6, 15, 6, 1), (2, 19, 2, 1), (9, 38, 9, 0), (9, 15, 9, 3), (9, 1053, 9, 1), (9, 9, 9, 2), (4, 52, 4, 5), (4, 28, 4, 4), (4, 15, 4, 1), (4, 9, 4, 0), (4, 88, 4, 6), (4, 131, 4, 2), (4, 31, 4, 3), (4, 19, 4, 7), (4, 65, 3, 0), (4, 67, 3, 1), (4, 85, 3, 2), (4, 105, 3, 17), (6, 22, 3, 2), (6, 50, 3, 4), (6, 52, 3, 5), (6, 55, 3, 6), (6, 58, 3, 7), (7, 25, 7, 2), (7, 109, 2, 0), (7, 146, 3, 17), (7, 276, 7, 9), (7, 38, 2, 2), (7, 45, 7, 5), (7, 257, 0, 2), (7, 29, 7, 3), (7, 172, 3, 1), (7, 169, 3, 0), (7, 151, 3, 2), (5, 23, 5, 3), (7, 11, 7, 0), (7, 73, 5, 1), (7, 86, 5, 2), (7, 80, 5, 0), (7, 228, 3, 4), (7, 233, 3, 8), (7, 222, 3, 12), (7, 166, 1, 2), (7, 273, 1, 3), (7, 18, 7, 1), (7, 103, 4, 1), (7, 205, 1, 12), (7, 286, 3, 15), (7, 96, 5, 3), (7, 131, 2, 1), (7, 154, 6, 0), (7, 120, 7, 8), (7, 185, 1, 5), (7, 49, 7, 6), (7, 283, 3, 9), (7, 53, 7, 7), (7, 117, 4, 3), (7, 124, 4, 2), (7, 32, 7, 4), (7, 230, 3, 7), (7, 236, 3, 11), (7, 203, 3, 3), (5, 15, 5, 1), (5, 19, 5, 2), (5, 9, 5, 0), (7, 225, 3, 14), (7, 266, 0, 1), (7, 179, 1, 10), (7, 182, 1, 4), (7, 188, 1, 6), (7, 191, 1, 7), (7, 194, 1, 8), (7, 197, 1, 9), (7, 200, 1, 11), (8, 19, 8, 5), (8, 37, 8, 21), (8, 34, 8, 20), (8, 25, 8, 8), (8, 72, 8, 1), (8, 69, 8, 0), (8, 322, 8, 32), (8, 66, 8, 31), (8, 126, 8, 18), (8, 111, 8, 16), (8, 132, 8, 19), (8, 101, 8, 13), (8, 31, 8, 10), (8, 105, 8, 14), (8, 114, 8, 15), (8, 123, 8, 17), (8, 95, 8, 11), (8, 22, 8, 6), (8, 44, 8, 23), (8, 47, 8, 24), (8, 41, 8, 22), (8, 28, 8, 9), (8, 210, 8, 7), (8, 7, 8, 2), (8, 13, 8, 3), (8, 16, 8, 4), (8, 206, 8, 12), (8, 50, 8, 25), (8, 296, 8, 27), (8, 53, 8, 26), (8, 60, 8, 29), (8, 63, 8, 30), (8, 56, 8, 28)]
def mx_LM : List (Nat × Nat × Nat) := [(0, 60, 0), (0, 53, 3), (0, 73, 1002), (0, 44, 5), (0, 38, 1), (0, 32, 7), (0, 19, 2), (0, 25, 12), (0, 29, 13), (0, 35, 8), (0, 81, 9), (0, 41, 4), (0, 47, 6), (0, 50, 10), (0, 67, 11), (1, 99, 15), (1, 71, 18), (1, 130, 20), (1, 115, 23), (1, 108, 22), (1, 112, 24), (1, 121, 26), (1, 93, 1001), (1, 86, 25), (1, 90, 27), (1, 77, 1000), (2, 46, 19), (2, 57, 29), (2, 60, 17), (2, 64, 28), (2, 67, 16), (3, 67, 1000), (6, 38, 1000), (2, 32, 32), (2, 36, 33), (2, 39, 34), (2, 43, 30), (9, 1059, 37), (10, 9, 38), (9, 492, 36), (9, 495, 39), (9, 335, 41), (4, 142, 49), (4, 145, 50), (4, 134, 42), (4, 138, 40), (4, 75, 52), (4, 34, 51), (4, 57, 54), (4, 61, 55), (4, 70, 56), (4, 79, 46), (4, 93, 43), (4, 99, 45), (4, 108, 1001), (4, 113, 61), (4, 117, 44), (4, 23, 47), (4, 37, 57), (4, 40, 58), (4, 43, 59), (4, 46, 60), (4, 49, 62), (6, 44, 18), (6, 18, 64), (6, 28, 1001), (6, 34, 65), (7, 57, 21), (7, 175, 67), (7, 99, 48), (7, 254, 2), (7, 70, 68), (7, 62, 69), (7, 211, 31), (7, 158, 74), (7, 208, 75), (7, 127, 34), (7, 215, 73), (7, 219, 72), (7, 77, 77), (7, 90, 1000), (7, 269, 79), (7, 140, 19), (7, 163, 29), (7, 298, 1003), (7, 289, 18), (7, 295, 81), (7, 247, 82), (7, 105, 53), (7, 242, 1002), (7, 280, 90), (7, 113, 63), (7, 135, 66), (7, 239, 91), (7, 251, 35), (5, 26, 18), (7, 66, 100), (7, 83, 104), (8, 228, 110), (8, 231, 111), (8, 234, 112), (8, 237, 113), (8, 78, 115), (8, 278, 116), (8, 313, 117), (8, 318, 118), (8, 89, 119), (8, 325, 121), (8, 328, 122), (8, 331, 123), (8, 334, 124), (8, 108, 127), (8, 117, 128), (8, 120, 129), (8, 129, 130), (8, 135, 126), (8, 143, 132), (8, 241, 135), (8, 259, 136), (8, 263, 137), (8, 221, 140), (8, 245, 138), (8, 249, 114), (8, 252, 139), (8, 256, 141), (8, 266, 142), (8, 217, 134), (8, 273, 143), (8, 283, 144), (8, 289, 145), (8, 286, 147), (8, 292, 146), (8, 82, 149), (8, 225, 152), (8, 309, 153), (8, 139, 159), (8, 153, 163), (8, 159, 164), (8, 163, 165), (8, 166, 133), (8, 172, 171), (8, 176, 131), (8, 179, 166), (8, 184, 167), (8, 188, 168), (8, 193, 169), (8, 198, 170), (8, 203, 172), (8, 214, 173), (8, 299, 175), (8, 302, 162), (15, 13, 101), (15, 17, 183), (15, 18, 105), (15, 21, 186), (15, 22, 78), (15, 26, 150), (15, 27, 84), (15, 31, 155), (15, 34, 87), (15, 38, 158), (15, 39, 92), (15, 43, 174), (15, 44, 86), (15, 47, 157), (15, 48, 85), (15, 52, 156), (15, 53, 89), (15, 56, 161), (15, 57, 102), (15, 60, 184), (15, 61, 109), (15, 64, 190), (15, 65, 99), (15, 68, 182), (15, 69, 103), (15, 72, 185), (15, 73, 76), (15, 76, 148), (15, 77, 107), (15, 80, 188), (15, 81, 96), (15, 84, 179), (15, 85, 97), (15, 88, 180), (15, 89, 93), (15, 92, 176), (15, 93, 88), (15, 96, 160), (15, 97, 83), (15, 101, 154), (15, 102, 94), (15, 105, 177), (15, 106, 98), (15, 109, 181), (15, 110, 95), (15, 113, 178), (15, 114, 70), (15, 117, 120), (15, 118, 71), (15, 121, 125), (15, 122, 108), (15, 125, 189), (15, 126, 80), (15, 129, 151), (15, 130, 106), (15, 133, 187)]
def mx_LC : List (Nat × Nat × Int32) := [(12, 265, 1431655765), (12, 266, 858993459), (12, 267, 252645135), (7, 279, (-1000010)), (7, 61, (-1000001)), (7, 162, (-1000002)), (7, 157, (-1000000)), (7, 104, (-1000003)), (7, 123, (-1000100)), (8, 104, (-1000000)), (8, 75, (-1000010)), (8, 88, (-1000001)), (8, 270, (-1000002)), (8, 98, (-1000003)), (8, 209, (-1000100))]
def mx_LJ : List (Nat × Nat × Int64) := [(8, 316, 5), (8, 281, 120), (8, 76, 7), (8, 305, 40), (8, 307, 30), (8, 93, 8), (8, 99, 255), (8, 271, 60), (8, 157, 1918986604), (8, 170, 7302757), (8, 147, 439855772532), (8, 149, 1685217655), (8, 151, 491496238692), (8, 182, 1919905645), (8, 191, 1685024626), (8, 196, 31641073268126309), (8, 201, 444301538672), (8, 86, 2), (8, 276, 20), (15, 32, 4294967295)]
def mx_LFp : List Nat := [365, 363, 362, 297, 290, 309, 291, 294, 281, 217, 301, 296, 283, 285, 204, 207, 288, 293, 215, 299, 303, 305, 307, 212, 193, 282, 267, 196, 199, 178, 180, 209, 310, 169, 201, 173, 269, 346, 286, 342, 218, 167, 171, 174, 182, 192, 203, 216, 179, 185, 187, 189, 195, 198, 200, 206, 208, 211, 214, 265, 268, 344, 532, 1375, 548, 1374, 133, 132, 126, 125, 134, 129, 130, 135, 166, 170, 176, 220, 175, 183, 186, 188, 190, 398, 343, 219, 405, 347, 401, 366, 399, 172, 168, 177, 385, 396, 382, 384, 380, 184, 194, 205, 284, 287, 397, 127, 308, 213, 386, 345, 266, 404, 292, 402, 197, 403, 131, 128, 400, 191, 202, 181, 381, 383, 379, 210, 364, 304, 289, 295, 298, 300, 302, 306, 936, 952, 951, 939, 932, 931, 963, 962, 949, 947, 950, 944, 941, 945, 946, 948, 942, 937, 954, 955, 953, 940, 938, 933, 934, 935, 943, 956, 958, 957, 960, 961, 959]
def mx_LMp : List Nat := [862, 878, 886, 882, 866, 900, 857, 858, 896, 904, 895, 874, 887, 891, 870, 754, 660, 692, 700, 687, 696, 708, 749, 683, 704, 832, 739, 740, 741, 745, 750, 636, 641, 632, 637, 827, 828, 550, 545, 538, 542, 528, 503, 507, 524, 534, 520, 498, 516, 572, 576, 585, 595, 604, 613, 616, 623, 494, 511, 580, 589, 599, 608, 650, 646, 651, 652, 431, 720, 478, 841, 447, 435, 735, 674, 732, 628, 764, 768, 455, 467, 917, 656, 679, 816, 811, 812, 807, 482, 800, 792, 490, 642, 788, 823, 444, 440, 459, 1173, 1169, 1223, 1227, 1040, 1248, 1329, 1338, 1045, 1353, 1349, 1357, 1345, 1081, 1086, 1089, 1077, 1105, 1101, 1211, 1207, 1215, 1161, 1203, 1219, 1231, 1235, 1199, 1165, 1195, 1268, 1264, 1260, 1275, 1036, 1185, 1313, 1113, 1096, 1109, 1117, 1130, 1150, 1073, 1092, 1122, 1126, 1135, 1141, 1146, 1157, 1295, 1299, 427, 1032, 451, 1050, 463, 1054, 470, 1058, 474, 1062, 486, 1069, 661, 1177, 665, 1181, 670, 1189, 712, 1239, 716, 1244, 724, 1252, 728, 1256, 760, 1271, 772, 1279, 776, 1283, 780, 1287, 784, 1291, 796, 1303, 803, 1307, 819, 1317, 833, 1321, 837, 1325, 845, 1333, 849, 1341, 909, 1361, 913, 1365, 921, 1369]
def mx_LCp : List Nat := [757, 758, 759, 439, 434, 678, 669, 481, 627, 1085, 1049, 1044, 1193, 1067, 1156]
def mx_LJp : List Nat := [1337, 1263, 1039, 1311, 1312, 1066, 1068, 1194, 1100, 1139, 1153, 1154, 1155, 1121, 1134, 1140, 1145, 1043, 1243, 1373]
def mx_wF (t : Nat × Nat × Nat × Nat) : Cond := if t.2.2.1 = 9 then (match t.2.2.2 with
  | 0 => .fieldLink (mx_on t.1) t.2.1 "java/lang/String" "COMPACT_STRINGS" "Z"
  | 1 => .fieldLink (mx_on t.1) t.2.1 "jdk/internal/util/Preconditions" "SIOOBE_FORMATTER" "Ljava/util/function/BiFunction;"
  | 2 => .fieldLink (mx_on t.1) t.2.1 "java/lang/String" "value" "[B"
  | _ => .fieldLink (mx_on t.1) t.2.1 "java/lang/String" "coder" "B") else .fieldLink (mx_on t.1) t.2.1 (mx_cl t.2.2.1).1 ((mx_cl t.2.2.1).2.1 t.2.2.2).2.1 ((mx_cl t.2.2.1).2.1 t.2.2.2).2.2.1
def mx_wM (t : Nat × Nat × Nat) : Cond := if t.2.2 = 1000 then .methodLink (mx_on t.1) t.2.1 arraycopyName else if t.2.2 = 1001 then .methodLink (mx_on t.1) t.2.1 Lib.Math.min.name else if t.2.2 = 1002 then .methodLink (mx_on t.1) t.2.1 Lib.Math.max.name else if t.2.2 = 1003 then .methodLink (mx_on t.1) t.2.1 Lib.Math.abs.name else .methodLink (mx_on t.1) t.2.1 (mx_mN t.2.2)
def mx_zip {α : Type} (f : Nat → α → Bool) : List α → List Nat → Bool
  | [], _ => true
  | _ :: _, [] => false
  | a :: l, k :: ks => f k a && mx_zip f l ks
theorem mx_zip_at {α : Type} {f : Nat → α → Bool} : ∀ {l : List α} {ks : List Nat}, mx_zip f l ks = true → ∀ a ∈ l, ∃ k, f k a = true
  | [], _, _, a, h => absurd h List.not_mem_nil
  | _ :: _, [], h, _, _ => by cases h
  | b :: l, k :: ks, h, a, ha => by
    simp only [mx_zip, Bool.and_eq_true] at h
    rcases List.mem_cons.mp ha with rfl | ha
    · exact ⟨k, h.1⟩
    · exact mx_zip_at h.2 a ha
theorem mx_LF_ok : mx_zip (fun k t => mx_hw k (mx_wF t) && (decide (t.2.2.1 = 9) || (decide (((mx_cl t.2.2.1).2.1 t.2.2.2).1 = (mx_cl t.2.2.1).1) && decide (t.2.2.2 < (mx_cl t.2.2.1).2.2)))) mx_LF mx_LFp = true := by decide +kernel
theorem mx_LM_ok : mx_zip (fun k t => mx_hw k (mx_wM t)) mx_LM mx_LMp = true := by decide +kernel
theorem mx_LC_ok : mx_zip (fun k t => mx_hw k (.constant (mx_on t.1) t.2.1 t.2.2)) mx_LC mx_LCp = true := by decide +kernel
theorem mx_LJ_ok : mx_zip (fun k t => mx_hw k (.constantLong (mx_on t.1) t.2.1 t.2.2)) mx_LJ mx_LJp = true := by decide +kernel
def mx_lkF (w ow q a b : Nat) : Bool := decide (mx_LF[w]? = some (ow, q, a, b))
def mx_lkM (w ow q y : Nat) : Bool := decide (mx_LM[w]? = some (ow, q, y))
def mx_lkC (w ow q : Nat) (x : Int32) : Bool := decide (mx_LC[w]? = some (ow, q, x))
def mx_lkJ (w ow q : Nat) (x : Int64) : Bool := decide (mx_LJ[w]? = some (ow, q, x))
theorem mx_lkC_of {w ow q : Nat} {x : Int32} (h : mx_lkC w ow q x = true) : Cond.constant (mx_on ow) q x ∈ lw_gd := by
  obtain ⟨k, hk⟩ := mx_zip_at mx_LC_ok _ (List.mem_of_getElem? (of_decide_eq_true h))
  exact mx_hw_of hk
theorem mx_lkJ_of {w ow q : Nat} {x : Int64} (h : mx_lkJ w ow q x = true) : Cond.constantLong (mx_on ow) q x ∈ lw_gd := by
  obtain ⟨k, hk⟩ := mx_zip_at mx_LJ_ok _ (List.mem_of_getElem? (of_decide_eq_true h))
  exact mx_hw_of hk
theorem mx_lkM_of {w ow q y : Nat} (h : mx_lkM w ow q y = true) : mx_wM (ow, q, y) ∈ lw_gd := by
  obtain ⟨k, hk⟩ := mx_zip_at mx_LM_ok _ (List.mem_of_getElem? (of_decide_eq_true h))
  exact mx_hw_of hk
theorem mx_lkF_of {w ow q a b : Nat} (h : mx_lkF w ow q a b = true) : mx_wF (ow, q, a, b) ∈ lw_gd ∧ (a = 9 ∨ (((mx_cl a).2.1 b).1 = (mx_cl a).1 ∧ b < (mx_cl a).2.2)) := by
  obtain ⟨k, hk⟩ := mx_zip_at mx_LF_ok _ (List.mem_of_getElem? (of_decide_eq_true h))
  rw [Bool.and_eq_true] at hk
  refine ⟨mx_hw_of hk.1, ?_⟩
  have h2 := hk.2
  simp only [Bool.or_eq_true, Bool.and_eq_true, decide_eq_true_eq] at h2
  exact h2
theorem mx_wF_lt {ow q a b : Nat} (h : a ≠ 9) : mx_wF (ow, q, a, b) = .fieldLink (mx_on ow) q (mx_cl a).1 ((mx_cl a).2.1 b).2.1 ((mx_cl a).2.1 b).2.2.1 := if_neg h
def mx_lkN (w ow q y : Nat) : Bool := decide (mx_nwT[w]? = some (ow, q, y))

def mx_okl (v w ow q a : Nat) : Bool := match v with
  | 0 => mx_lkM w ow q a
  | 1 => mx_lkM w ow q a
  | _ => mx_lkN w ow q a
def mx_okc (ow : Nat) (cc : ByteArray) (pc q v w a b rc : Nat) : Bool := decide (a < 191) && (mx_okl v w ow q a && (match mx_nth mx_pT a with
  | 0 => mx_dq cc pc (.invokevirtual q) 3 && (decide ((parseMethodDescriptor (mx_mN a).desc).map (fun d => d.parameters.length + 1) = some b) && (match rc with
    | 0 => false
    | 10 => decide ((mx_mN a).cls = "java/lang/String")
    | c + 1 => decide (c < 9) && decide ((mx_cl c).1 = (mx_mN a).cls)))
  | _ => mx_dq cc pc (.invokestatic q) 3 && decide ((parseMethodDescriptor (mx_mN a).desc).map (fun d => d.parameters.length) = some b)))
def mx_ok (ow : Nat) (cc : ByteArray) (nL : Nat) (ret : Option FieldType) (tg : Nat → Nat) (pc npc q v w : Nat) (i : mx_Op) : Bool :=
  let im := i.2.1
  let jm := i.2.2.1
  let a := i.2.2.2.1
  let b := i.2.2.2.2.1
  let ts := i.2.2.2.2.2
  match i.1 with
  | 0 => match v with | 0 => decide (a < 4) && (mx_dq cc pc (.iload_n (Fin.ofNat 4 a)) 1 && decide (npc = pc + 1)) | _ => mx_dq cc pc (.iload a) 2 && decide (npc = pc + 2)
  | 1 => match v with | 0 => decide (a < 4) && (mx_dq cc pc (.lload_n (Fin.ofNat 4 a)) 1 && decide (npc = pc + 1)) | _ => mx_dq cc pc (.lload a) 2 && decide (npc = pc + 2)
  | 2 => match v with | 0 => decide (a < 4) && (mx_dq cc pc (.aload_n (Fin.ofNat 4 a)) 1 && decide (npc = pc + 1)) | _ => mx_dq cc pc (.aload a) 2 && decide (npc = pc + 2)
  | 3 => decide (a < nL) && (match v with | 0 => decide (a < 4) && (mx_dq cc pc (.istore_n (Fin.ofNat 4 a)) 1 && decide (npc = pc + 1)) | _ => mx_dq cc pc (.istore a) 2 && decide (npc = pc + 2))
  | 4 => decide (a + 1 < nL) && (match v with | 0 => decide (a < 4) && (mx_dq cc pc (.lstore_n (Fin.ofNat 4 a)) 1 && decide (npc = pc + 1)) | _ => mx_dq cc pc (.lstore a) 2 && decide (npc = pc + 2))
  | 5 => decide (a < nL) && (match v with | 0 => decide (a < 4) && (mx_dq cc pc (.astore_n (Fin.ofNat 4 a)) 1 && decide (npc = pc + 1)) | _ => mx_dq cc pc (.astore a) 2 && decide (npc = pc + 2))
  | 6 => match v with | 0 => mx_dq cc pc (.iconst im.toInt) 1 && decide (npc = pc + 1) | 1 => mx_dq cc pc (.bipush im.toInt) 2 && (decide ((Int8.ofInt im.toInt).toInt32 = im) && decide (npc = pc + 2)) | 2 => mx_dq cc pc (.sipush im.toInt) 3 && (decide ((Int16.ofInt im.toInt).toInt32 = im) && decide (npc = pc + 3)) | 3 => mx_dq cc pc (.ldc q) 2 && (mx_lkC w ow q im && decide (npc = pc + 2)) | _ => mx_dq cc pc (.ldc_w q) 3 && (mx_lkC w ow q im && decide (npc = pc + 3))
  | 7 => match v with | 0 => mx_dq cc pc (.lconst (Fin.ofNat 2 a)) 1 && (decide (Int64.ofNat (Fin.ofNat 2 a : Fin 2).val = jm) && decide (npc = pc + 1)) | _ => mx_dq cc pc (.ldc2_w q) 3 && (mx_lkJ w ow q jm && decide (npc = pc + 3))
  | 8 => mx_dq cc pc (mx_binI b) 1 && decide (npc = pc + 1)
  | 9 => mx_dq cc pc (mx_divI b) 1 && decide (npc = pc + 1)
  | 10 => mx_dq cc pc (mx_unI b) 1 && decide (npc = pc + 1)
  | 11 => mx_dq cc pc (mx_lbI b) 1 && decide (npc = pc + 1)
  | 12 => mx_dq cc pc (mx_lshI b) 1 && decide (npc = pc + 1)
  | 13 => mx_dq cc pc .lcmp 1 && decide (npc = pc + 1)
  | 14 => mx_dq cc pc .i2l 1 && decide (npc = pc + 1)
  | 15 => mx_dq cc pc .l2i 1 && decide (npc = pc + 1)
  | 16 => decide (a < nL) && (mx_dq cc pc (.iinc a im.toInt) 3 && decide (npc = pc + 3))
  | 17 => mx_dq cc pc .dup 1 && decide (npc = pc + 1)
  | 18 => mx_dq cc pc .dup2 1 && decide (npc = pc + 1)
  | 19 => mx_dq cc pc (.ifCond (mx_cn b) ((tg a : Int) - pc)) 3 && decide (npc = pc + 3)
  | 20 => mx_dq cc pc (.if_icmp (mx_cn b) ((tg a : Int) - pc)) 3 && decide (npc = pc + 3)
  | 21 => mx_dq cc pc (.goto ((tg a : Int) - pc)) 3
  | 22 => match v with | 0 => mx_dq cc pc (.tableswitch ((tg a : Int) - pc) (b : Int) (((b + ts.length : Nat) : Int) - 1) (ts.map (fun t => (tg t : Int) - pc)).toArray) q && decide (b + ts.length < 2 ^ 31) | _ => match ts with | [t0, t1] => mx_dq cc pc (.lookupswitch ((tg a : Int) - pc) #[(0, (tg t0 : Int) - pc), (1, (tg t1 : Int) - pc)]) q && decide (b = 0) | _ => false
  | 23 => mx_dq cc pc (.getfield q) 3 && (mx_lkF w ow q a b && decide (npc = pc + 3))
  | 24 => mx_dq cc pc (.putfield q) 3 && (mx_lkF w ow q a b && decide (npc = pc + 3))
  | 25 => mx_dq cc pc .iaload 1 && decide (npc = pc + 1)
  | 26 => mx_dq cc pc .iastore 1 && decide (npc = pc + 1)
  | 27 => mx_dq cc pc .baload 1 && decide (npc = pc + 1) && decide (b < 2)
  | 28 => mx_dq cc pc .bastore 1 && decide (npc = pc + 1) && decide (b < 2)
  | 29 => mx_dq cc pc .aaload 1 && decide (npc = pc + 1) && decide (b < 2)
  | 30 => mx_dq cc pc .arraylength 1 && decide (npc = pc + 1)
  | 31 => mx_okc ow cc pc q v w a b (mx_nth ts 1) && (decide (mx_nth ts 2 = mx_nl a) && decide (npc = pc + 3))
  | 32 => mx_dq cc pc .ireturn 1 && decide (ret = some (match b with | 0 => .int | 1 => .boolean | 2 => .char | _ => .byte))
  | 33 => mx_dq cc pc .lreturn 1 && decide (ret = some .long)
  | 34 => mx_dq cc pc .return_ 1 && decide (ret = none)
  | 35 => mx_dq cc pc (.ldc q) 2 && (decide (ow = 4) && (decide (a < 9) && (decide (q = mx_nth mx_sPT a) && decide (npc = pc + 2))))
  | 36 => mx_dq cc pc (.invokestatic q) 3 && (mx_lkM w ow q 1000 && decide (npc = pc + 3))
  | 37 => mx_dq cc pc (.getstatic q) 3 && (mx_lkF w ow q 9 0 && decide (npc = pc + 3))
  | 38 => mx_dq cc pc (.getstatic q) 3 && (mx_lkF w ow q 9 1 && decide (npc = pc + 3))
  | 39 => mx_dq cc pc (.getfield q) 3 && ((match b with | 0 => mx_lkF w ow q 9 2 | _ => mx_lkF w ow q 9 3) && decide (npc = pc + 3))
  | 40 => mx_dq cc pc .arraylength 1 && decide (npc = pc + 1)
  | 41 => mx_dq cc pc .baload 1 && decide (npc = pc + 1)
  | 42 => mx_dq cc pc .pop 1 && decide (npc = pc + 1)
  | 43 => mx_dq cc pc .iaload 1 && decide (npc = pc + 1)
  | 44 => mx_dq cc pc .arraylength 1 && decide (npc = pc + 1)
  | 45 => decide (tg (a + 1) = pc)
  | 46 => mx_dq cc pc (.invokestatic q) 3 && ((match b with | 0 => mx_lkM w ow q 1001 | _ => mx_lkM w ow q 1002) && decide (npc = pc + 3))
  | 47 => mx_dq cc pc (.invokestatic q) 3 && (mx_lkM w ow q 1003 && decide (npc = pc + 3))
  | _ => true
section Oks
variable (ow : Nat) (cc : ByteArray) (nL : Nat) (ret : Option FieldType) (tg : Nat → Nat) (pc npc q v w : Nat) (im : Int32) (jm : Int64) (a b : Nat) (ts : List Nat)
theorem mx_o0 : mx_ok ow cc nL ret tg pc npc q v w (0, im, jm, a, b, ts) = (match v with | 0 => decide (a < 4) && (mx_dq cc pc (.iload_n (Fin.ofNat 4 a)) 1 && decide (npc = pc + 1)) | _ => mx_dq cc pc (.iload a) 2 && decide (npc = pc + 2)) := rfl
theorem mx_o1 : mx_ok ow cc nL ret tg pc npc q v w (1, im, jm, a, b, ts) = (match v with | 0 => decide (a < 4) && (mx_dq cc pc (.lload_n (Fin.ofNat 4 a)) 1 && decide (npc = pc + 1)) | _ => mx_dq cc pc (.lload a) 2 && decide (npc = pc + 2)) := rfl
theorem mx_o2 : mx_ok ow cc nL ret tg pc npc q v w (2, im, jm, a, b, ts) = (match v with | 0 => decide (a < 4) && (mx_dq cc pc (.aload_n (Fin.ofNat 4 a)) 1 && decide (npc = pc + 1)) | _ => mx_dq cc pc (.aload a) 2 && decide (npc = pc + 2)) := rfl
theorem mx_o3 : mx_ok ow cc nL ret tg pc npc q v w (3, im, jm, a, b, ts) = (decide (a < nL) && (match v with | 0 => decide (a < 4) && (mx_dq cc pc (.istore_n (Fin.ofNat 4 a)) 1 && decide (npc = pc + 1)) | _ => mx_dq cc pc (.istore a) 2 && decide (npc = pc + 2))) := rfl
theorem mx_o4 : mx_ok ow cc nL ret tg pc npc q v w (4, im, jm, a, b, ts) = (decide (a + 1 < nL) && (match v with | 0 => decide (a < 4) && (mx_dq cc pc (.lstore_n (Fin.ofNat 4 a)) 1 && decide (npc = pc + 1)) | _ => mx_dq cc pc (.lstore a) 2 && decide (npc = pc + 2))) := rfl
theorem mx_o5 : mx_ok ow cc nL ret tg pc npc q v w (5, im, jm, a, b, ts) = (decide (a < nL) && (match v with | 0 => decide (a < 4) && (mx_dq cc pc (.astore_n (Fin.ofNat 4 a)) 1 && decide (npc = pc + 1)) | _ => mx_dq cc pc (.astore a) 2 && decide (npc = pc + 2))) := rfl
theorem mx_o6 : mx_ok ow cc nL ret tg pc npc q v w (6, im, jm, a, b, ts) = (match v with | 0 => mx_dq cc pc (.iconst im.toInt) 1 && decide (npc = pc + 1) | 1 => mx_dq cc pc (.bipush im.toInt) 2 && (decide ((Int8.ofInt im.toInt).toInt32 = im) && decide (npc = pc + 2)) | 2 => mx_dq cc pc (.sipush im.toInt) 3 && (decide ((Int16.ofInt im.toInt).toInt32 = im) && decide (npc = pc + 3)) | 3 => mx_dq cc pc (.ldc q) 2 && (mx_lkC w ow q im && decide (npc = pc + 2)) | _ => mx_dq cc pc (.ldc_w q) 3 && (mx_lkC w ow q im && decide (npc = pc + 3))) := rfl
theorem mx_o7 : mx_ok ow cc nL ret tg pc npc q v w (7, im, jm, a, b, ts) = (match v with | 0 => mx_dq cc pc (.lconst (Fin.ofNat 2 a)) 1 && (decide (Int64.ofNat (Fin.ofNat 2 a : Fin 2).val = jm) && decide (npc = pc + 1)) | _ => mx_dq cc pc (.ldc2_w q) 3 && (mx_lkJ w ow q jm && decide (npc = pc + 3))) := rfl
theorem mx_o8 : mx_ok ow cc nL ret tg pc npc q v w (8, im, jm, a, b, ts) = (mx_dq cc pc (mx_binI b) 1 && decide (npc = pc + 1)) := rfl
theorem mx_o9 : mx_ok ow cc nL ret tg pc npc q v w (9, im, jm, a, b, ts) = (mx_dq cc pc (mx_divI b) 1 && decide (npc = pc + 1)) := rfl
theorem mx_o10 : mx_ok ow cc nL ret tg pc npc q v w (10, im, jm, a, b, ts) = (mx_dq cc pc (mx_unI b) 1 && decide (npc = pc + 1)) := rfl
theorem mx_o11 : mx_ok ow cc nL ret tg pc npc q v w (11, im, jm, a, b, ts) = (mx_dq cc pc (mx_lbI b) 1 && decide (npc = pc + 1)) := rfl
theorem mx_o12 : mx_ok ow cc nL ret tg pc npc q v w (12, im, jm, a, b, ts) = (mx_dq cc pc (mx_lshI b) 1 && decide (npc = pc + 1)) := rfl
theorem mx_o13 : mx_ok ow cc nL ret tg pc npc q v w (13, im, jm, a, b, ts) = (mx_dq cc pc .lcmp 1 && decide (npc = pc + 1)) := rfl
theorem mx_o14 : mx_ok ow cc nL ret tg pc npc q v w (14, im, jm, a, b, ts) = (mx_dq cc pc .i2l 1 && decide (npc = pc + 1)) := rfl
theorem mx_o15 : mx_ok ow cc nL ret tg pc npc q v w (15, im, jm, a, b, ts) = (mx_dq cc pc .l2i 1 && decide (npc = pc + 1)) := rfl
theorem mx_o16 : mx_ok ow cc nL ret tg pc npc q v w (16, im, jm, a, b, ts) = (decide (a < nL) && (mx_dq cc pc (.iinc a im.toInt) 3 && decide (npc = pc + 3))) := rfl
theorem mx_o17 : mx_ok ow cc nL ret tg pc npc q v w (17, im, jm, a, b, ts) = (mx_dq cc pc .dup 1 && decide (npc = pc + 1)) := rfl
theorem mx_o18 : mx_ok ow cc nL ret tg pc npc q v w (18, im, jm, a, b, ts) = (mx_dq cc pc .dup2 1 && decide (npc = pc + 1)) := rfl
theorem mx_o19 : mx_ok ow cc nL ret tg pc npc q v w (19, im, jm, a, b, ts) = (mx_dq cc pc (.ifCond (mx_cn b) ((tg a : Int) - pc)) 3 && decide (npc = pc + 3)) := rfl
theorem mx_o20 : mx_ok ow cc nL ret tg pc npc q v w (20, im, jm, a, b, ts) = (mx_dq cc pc (.if_icmp (mx_cn b) ((tg a : Int) - pc)) 3 && decide (npc = pc + 3)) := rfl
theorem mx_o21 : mx_ok ow cc nL ret tg pc npc q v w (21, im, jm, a, b, ts) = (mx_dq cc pc (.goto ((tg a : Int) - pc)) 3) := rfl
theorem mx_o22 : mx_ok ow cc nL ret tg pc npc q v w (22, im, jm, a, b, ts) = (match v with | 0 => mx_dq cc pc (.tableswitch ((tg a : Int) - pc) (b : Int) (((b + ts.length : Nat) : Int) - 1) (ts.map (fun t => (tg t : Int) - pc)).toArray) q && decide (b + ts.length < 2 ^ 31) | _ => match ts with | [t0, t1] => mx_dq cc pc (.lookupswitch ((tg a : Int) - pc) #[(0, (tg t0 : Int) - pc), (1, (tg t1 : Int) - pc)]) q && decide (b = 0) | _ => false) := rfl
theorem mx_o23 : mx_ok ow cc nL ret tg pc npc q v w (23, im, jm, a, b, ts) = (mx_dq cc pc (.getfield q) 3 && (mx_lkF w ow q a b && decide (npc = pc + 3))) := rfl
theorem mx_o24 : mx_ok ow cc nL ret tg pc npc q v w (24, im, jm, a, b, ts) = (mx_dq cc pc (.putfield q) 3 && (mx_lkF w ow q a b && decide (npc = pc + 3))) := rfl
theorem mx_o25 : mx_ok ow cc nL ret tg pc npc q v w (25, im, jm, a, b, ts) = (mx_dq cc pc .iaload 1 && decide (npc = pc + 1)) := rfl
theorem mx_o26 : mx_ok ow cc nL ret tg pc npc q v w (26, im, jm, a, b, ts) = (mx_dq cc pc .iastore 1 && decide (npc = pc + 1)) := rfl
theorem mx_o27 : mx_ok ow cc nL ret tg pc npc q v w (27, im, jm, a, b, ts) = (mx_dq cc pc .baload 1 && decide (npc = pc + 1) && decide (b < 2)) := rfl
theorem mx_o28 : mx_ok ow cc nL ret tg pc npc q v w (28, im, jm, a, b, ts) = (mx_dq cc pc .bastore 1 && decide (npc = pc + 1) && decide (b < 2)) := rfl
theorem mx_o29 : mx_ok ow cc nL ret tg pc npc q v w (29, im, jm, a, b, ts) = (mx_dq cc pc .aaload 1 && decide (npc = pc + 1) && decide (b < 2)) := rfl
theorem mx_o30 : mx_ok ow cc nL ret tg pc npc q v w (30, im, jm, a, b, ts) = (mx_dq cc pc .arraylength 1 && decide (npc = pc + 1)) := rfl
theorem mx_o31 : mx_ok ow cc nL ret tg pc npc q v w (31, im, jm, a, b, ts) = (mx_okc ow cc pc q v w a b (mx_nth ts 1) && (decide (mx_nth ts 2 = mx_nl a) && decide (npc = pc + 3))) := rfl
theorem mx_o32 : mx_ok ow cc nL ret tg pc npc q v w (32, im, jm, a, b, ts) = (mx_dq cc pc .ireturn 1 && decide (ret = some (match b with | 0 => .int | 1 => .boolean | 2 => .char | _ => .byte))) := rfl
theorem mx_o33 : mx_ok ow cc nL ret tg pc npc q v w (33, im, jm, a, b, ts) = (mx_dq cc pc .lreturn 1 && decide (ret = some .long)) := rfl
theorem mx_o34 : mx_ok ow cc nL ret tg pc npc q v w (34, im, jm, a, b, ts) = (mx_dq cc pc .return_ 1 && decide (ret = none)) := rfl
theorem mx_o35 : mx_ok ow cc nL ret tg pc npc q v w (35, im, jm, a, b, ts) = (mx_dq cc pc (.ldc q) 2 && (decide (ow = 4) && (decide (a < 9) && (decide (q = mx_nth mx_sPT a) && decide (npc = pc + 2))))) := rfl
theorem mx_o36 : mx_ok ow cc nL ret tg pc npc q v w (36, im, jm, a, b, ts) = (mx_dq cc pc (.invokestatic q) 3 && (mx_lkM w ow q 1000 && decide (npc = pc + 3))) := rfl
theorem mx_o37 : mx_ok ow cc nL ret tg pc npc q v w (37, im, jm, a, b, ts) = (mx_dq cc pc (.getstatic q) 3 && (mx_lkF w ow q 9 0 && decide (npc = pc + 3))) := rfl
theorem mx_o38 : mx_ok ow cc nL ret tg pc npc q v w (38, im, jm, a, b, ts) = (mx_dq cc pc (.getstatic q) 3 && (mx_lkF w ow q 9 1 && decide (npc = pc + 3))) := rfl
theorem mx_o39 : mx_ok ow cc nL ret tg pc npc q v w (39, im, jm, a, b, ts) = (mx_dq cc pc (.getfield q) 3 && ((match b with | 0 => mx_lkF w ow q 9 2 | _ => mx_lkF w ow q 9 3) && decide (npc = pc + 3))) := rfl
theorem mx_o40 : mx_ok ow cc nL ret tg pc npc q v w (40, im, jm, a, b, ts) = (mx_dq cc pc .arraylength 1 && decide (npc = pc + 1)) := rfl
theorem mx_o41 : mx_ok ow cc nL ret tg pc npc q v w (41, im, jm, a, b, ts) = (mx_dq cc pc .baload 1 && decide (npc = pc + 1)) := rfl
theorem mx_o42 : mx_ok ow cc nL ret tg pc npc q v w (42, im, jm, a, b, ts) = (mx_dq cc pc .pop 1 && decide (npc = pc + 1)) := rfl
theorem mx_o43 : mx_ok ow cc nL ret tg pc npc q v w (43, im, jm, a, b, ts) = (mx_dq cc pc .iaload 1 && decide (npc = pc + 1)) := rfl
theorem mx_o44 : mx_ok ow cc nL ret tg pc npc q v w (44, im, jm, a, b, ts) = (mx_dq cc pc .arraylength 1 && decide (npc = pc + 1)) := rfl
theorem mx_o45 : mx_ok ow cc nL ret tg pc npc q v w (45, im, jm, a, b, ts) = (decide (tg (a + 1) = pc)) := rfl
theorem mx_o46 : mx_ok ow cc nL ret tg pc npc q v w (46, im, jm, a, b, ts) = (mx_dq cc pc (.invokestatic q) 3 && ((match b with | 0 => mx_lkM w ow q 1001 | _ => mx_lkM w ow q 1002) && decide (npc = pc + 3))) := rfl
theorem mx_o47 : mx_ok ow cc nL ret tg pc npc q v w (47, im, jm, a, b, ts) = (mx_dq cc pc (.invokestatic q) 3 && (mx_lkM w ow q 1003 && decide (npc = pc + 3))) := rfl
end Oks
