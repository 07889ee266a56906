/-! WHAT THE TABLES SAY OF EACH METHOD (written by wip/whole/gen/meth.py) -/
def px_codeW (k : Nat) (hh : List (Nat × Nat × Nat × Nat)) : Cond := if hh = [] then .code (px_y k) (px_by k) (px_prog k).2.2.2.2.1 (px_ret (px_prog k).2.2.2.1) else .codeWith (px_y k) (px_by k) (px_prog k).2.2.2.2.1 (px_ret (px_prog k).2.2.2.1) hh
def px_kindW (k : Nat) : Cond := if px_stc k = 1 then .static (px_y k) else .instanceMethod (px_y k)
def px_selW (k : Nat) : Cond := if px_stc k = 0 then .selects (px_cn (px_own k)) (px_y k) (px_y k) else .initialized (px_cn (px_own k))
def px_mq (k a b c d : Nat) : Bool := decide (lw_tbl[a]? = some (px_codeW k (px_prog k).2.2.2.2.2.2)) && decide (lw_tbl[b]? = some (.initialized (px_cn (px_own k)))) && decide (lw_tbl[c]? = some (px_kindW k)) && decide (lw_tbl[d]? = some (px_selW k)) && plainName (px_cn (px_own k)) && decide ((px_y k).cls = px_cn (px_own k)) && decide (px_own k = (px_prog k).2.1) && decide ((px_prog k).1 = k) && decide (px_stc k < 3) && decide ((px_stc k = 2) = ((px_prog k).2.2.1 = 1)) && decide ((px_stc k = 2) = ((px_y k).name = "<init>")) && decide ((px_y k).cls ≠ "java/lang/invoke/MethodHandle") && decide ((px_y k).cls ≠ "java/lang/invoke/VarHandle") && decide (px_stc k = 2 → (px_prog k).2.2.2.1 = 0) && decide ((px_prog k).2.2.2.2.1 ≤ 24)
set_option maxRecDepth 100000 in
theorem px_mq0 : px_mq 0 306 118 305 118 = true := by decide +kernel
set_option maxRecDepth 100000 in
theorem px_mq1 : px_mq 1 993 118 991 992 = true := by decide +kernel
set_option maxRecDepth 100000 in
theorem px_mq2 : px_mq 2 1168 118 1166 1167 = true := by decide +kernel
set_option maxRecDepth 100000 in
theorem px_mq3 : px_mq 3 1177 118 1175 1176 = true := by decide +kernel
set_option maxRecDepth 100000 in
theorem px_mq4 : px_mq 4 1426 118 1424 1425 = true := by decide +kernel
set_option maxRecDepth 100000 in
theorem px_mq5 : px_mq 5 1429 118 1428 118 = true := by decide +kernel
set_option maxRecDepth 100000 in
theorem px_mq6 : px_mq 6 1438 118 1436 1437 = true := by decide +kernel
set_option maxRecDepth 100000 in
theorem px_mq7 : px_mq 7 1449 118 1447 1448 = true := by decide +kernel
set_option maxRecDepth 100000 in
theorem px_mq8 : px_mq 8 1453 118 1451 1452 = true := by decide +kernel
set_option maxRecDepth 100000 in
theorem px_mq9 : px_mq 9 188 115 187 115 = true := by decide +kernel
set_option maxRecDepth 100000 in
theorem px_mq10 : px_mq 10 633 115 631 632 = true := by decide +kernel
set_option maxRecDepth 100000 in
theorem px_mq11 : px_mq 11 864 115 862 863 = true := by decide +kernel
set_option maxRecDepth 100000 in
theorem px_mq12 : px_mq 12 937 115 936 16 = true := by decide +kernel
set_option maxRecDepth 100000 in
theorem px_mq13 : px_mq 13 942 115 941 17 = true := by decide +kernel
set_option maxRecDepth 100000 in
theorem px_mq14 : px_mq 14 946 115 945 18 = true := by decide +kernel
set_option maxRecDepth 100000 in
theorem px_mq15 : px_mq 15 960 115 959 19 = true := by decide +kernel
set_option maxRecDepth 100000 in
theorem px_mq16 : px_mq 16 964 115 962 963 = true := by decide +kernel
set_option maxRecDepth 100000 in
theorem px_mq17 : px_mq 17 968 115 967 20 = true := by decide +kernel
set_option maxRecDepth 100000 in
theorem px_mq18 : px_mq 18 972 115 971 21 = true := by decide +kernel
set_option maxRecDepth 100000 in
theorem px_mq19 : px_mq 19 984 115 982 983 = true := by decide +kernel
set_option maxRecDepth 100000 in
theorem px_mq20 : px_mq 20 1239 115 1237 1238 = true := by decide +kernel
set_option maxRecDepth 100000 in
theorem px_mq21 : px_mq 21 1502 115 1500 1501 = true := by decide +kernel
set_option maxRecDepth 100000 in
theorem px_mq22 : px_mq 22 285 116 284 116 = true := by decide +kernel
set_option maxRecDepth 100000 in
theorem px_mq23 : px_mq 23 695 116 693 694 = true := by decide +kernel
set_option maxRecDepth 100000 in
theorem px_mq24 : px_mq 24 698 116 697 116 = true := by decide +kernel
set_option maxRecDepth 100000 in
theorem px_mq25 : px_mq 25 989 116 987 988 = true := by decide +kernel
set_option maxRecDepth 100000 in
theorem px_mq26 : px_mq 26 1014 116 1012 1013 = true := by decide +kernel
set_option maxRecDepth 100000 in
theorem px_mq27 : px_mq 27 1018 116 1017 22 = true := by decide +kernel
set_option maxRecDepth 100000 in
theorem px_mq28 : px_mq 28 1022 116 1021 23 = true := by decide +kernel
set_option maxRecDepth 100000 in
theorem px_mq29 : px_mq 29 1026 116 1025 24 = true := by decide +kernel
set_option maxRecDepth 100000 in
theorem px_mq30 : px_mq 30 1032 116 1031 25 = true := by decide +kernel
set_option maxRecDepth 100000 in
theorem px_mq31 : px_mq 31 1037 116 1036 26 = true := by decide +kernel
set_option maxRecDepth 100000 in
theorem px_mq32 : px_mq 32 1045 116 1044 27 = true := by decide +kernel
set_option maxRecDepth 100000 in
theorem px_mq33 : px_mq 33 1050 116 1048 1049 = true := by decide +kernel
set_option maxRecDepth 100000 in
theorem px_mq34 : px_mq 34 417 123 416 123 = true := by decide +kernel
set_option maxRecDepth 100000 in
theorem px_mq35 : px_mq 35 585 123 583 584 = true := by decide +kernel
set_option maxRecDepth 100000 in
theorem px_mq36 : px_mq 36 589 123 587 588 = true := by decide +kernel
set_option maxRecDepth 100000 in
theorem px_mq37 : px_mq 37 593 123 591 592 = true := by decide +kernel
set_option maxRecDepth 100000 in
theorem px_mq38 : px_mq 38 597 123 596 0 = true := by decide +kernel
set_option maxRecDepth 100000 in
theorem px_mq39 : px_mq 39 1397 123 1395 1396 = true := by decide +kernel
set_option maxRecDepth 100000 in
theorem px_mq40 : px_mq 40 1410 123 1408 1409 = true := by decide +kernel
set_option maxRecDepth 100000 in
theorem px_mq41 : px_mq 41 1415 123 1413 1414 = true := by decide +kernel
set_option maxRecDepth 100000 in
theorem px_mq42 : px_mq 42 458 125 457 125 = true := by decide +kernel
set_option maxRecDepth 100000 in
theorem px_mq43 : px_mq 43 605 125 603 604 = true := by decide +kernel
set_option maxRecDepth 100000 in
theorem px_mq44 : px_mq 44 723 125 722 6 = true := by decide +kernel
set_option maxRecDepth 100000 in
theorem px_mq45 : px_mq 45 727 125 726 7 = true := by decide +kernel
set_option maxRecDepth 100000 in
theorem px_mq46 : px_mq 46 731 125 730 8 = true := by decide +kernel
set_option maxRecDepth 100000 in
theorem px_mq47 : px_mq 47 736 125 735 9 = true := by decide +kernel
set_option maxRecDepth 100000 in
theorem px_mq48 : px_mq 48 740 125 739 10 = true := by decide +kernel
set_option maxRecDepth 100000 in
theorem px_mq49 : px_mq 49 390 122 389 122 = true := by decide +kernel
set_option maxRecDepth 100000 in
theorem px_mq50 : px_mq 50 576 122 574 575 = true := by decide +kernel
set_option maxRecDepth 100000 in
theorem px_mq51 : px_mq 51 748 122 746 747 = true := by decide +kernel
set_option maxRecDepth 100000 in
theorem px_mq52 : px_mq 52 756 122 754 755 = true := by decide +kernel
set_option maxRecDepth 100000 in
theorem px_mq53 : px_mq 53 997 122 995 996 = true := by decide +kernel
set_option maxRecDepth 100000 in
theorem px_mq54 : px_mq 54 1061 122 1059 1060 = true := by decide +kernel
set_option maxRecDepth 100000 in
theorem px_mq55 : px_mq 55 1096 122 1094 1095 = true := by decide +kernel
set_option maxRecDepth 100000 in
theorem px_mq56 : px_mq 56 370 121 369 121 = true := by decide +kernel
set_option maxRecDepth 100000 in
theorem px_mq57 : px_mq 57 613 121 611 612 = true := by decide +kernel
set_option maxRecDepth 100000 in
theorem px_mq58 : px_mq 58 617 121 615 616 = true := by decide +kernel
set_option maxRecDepth 100000 in
theorem px_mq59 : px_mq 59 621 121 619 620 = true := by decide +kernel
set_option maxRecDepth 100000 in
theorem px_mq60 : px_mq 60 625 121 623 624 = true := by decide +kernel
set_option maxRecDepth 100000 in
theorem px_mq61 : px_mq 61 629 121 627 628 = true := by decide +kernel
set_option maxRecDepth 100000 in
theorem px_mq62 : px_mq 62 642 121 640 641 = true := by decide +kernel
set_option maxRecDepth 100000 in
theorem px_mq63 : px_mq 63 646 121 644 645 = true := by decide +kernel
set_option maxRecDepth 100000 in
theorem px_mq64 : px_mq 64 650 121 649 2 = true := by decide +kernel
set_option maxRecDepth 100000 in
theorem px_mq65 : px_mq 65 654 121 652 653 = true := by decide +kernel
set_option maxRecDepth 100000 in
theorem px_mq66 : px_mq 66 658 121 656 657 = true := by decide +kernel
set_option maxRecDepth 100000 in
theorem px_mq67 : px_mq 67 662 121 660 661 = true := by decide +kernel
set_option maxRecDepth 100000 in
theorem px_mq68 : px_mq 68 666 121 664 665 = true := by decide +kernel
set_option maxRecDepth 100000 in
theorem px_mq69 : px_mq 69 670 121 668 669 = true := by decide +kernel
set_option maxRecDepth 100000 in
theorem px_mq70 : px_mq 70 674 121 672 673 = true := by decide +kernel
set_option maxRecDepth 100000 in
theorem px_mq71 : px_mq 71 678 121 677 3 = true := by decide +kernel
set_option maxRecDepth 100000 in
theorem px_mq72 : px_mq 72 691 121 689 690 = true := by decide +kernel
set_option maxRecDepth 100000 in
theorem px_mq73 : px_mq 73 706 121 704 705 = true := by decide +kernel
set_option maxRecDepth 100000 in
theorem px_mq74 : px_mq 74 1001 121 999 1000 = true := by decide +kernel
set_option maxRecDepth 100000 in
theorem px_mq75 : px_mq 75 1114 121 1112 1113 = true := by decide +kernel
set_option maxRecDepth 100000 in
theorem px_mq76 : px_mq 76 1122 121 1120 1121 = true := by decide +kernel
set_option maxRecDepth 100000 in
theorem px_mq77 : px_mq 77 1126 121 1124 1125 = true := by decide +kernel
set_option maxRecDepth 100000 in
theorem px_mq78 : px_mq 78 1131 121 1129 1130 = true := by decide +kernel
set_option maxRecDepth 100000 in
theorem px_mq79 : px_mq 79 1136 121 1134 1135 = true := by decide +kernel
set_option maxRecDepth 100000 in
theorem px_mq80 : px_mq 80 1141 121 1139 1140 = true := by decide +kernel
set_option maxRecDepth 100000 in
theorem px_mq81 : px_mq 81 1145 121 1143 1144 = true := by decide +kernel
set_option maxRecDepth 100000 in
theorem px_mq82 : px_mq 82 1149 121 1147 1148 = true := by decide +kernel
set_option maxRecDepth 100000 in
theorem px_mq83 : px_mq 83 1153 121 1151 1152 = true := by decide +kernel
set_option maxRecDepth 100000 in
theorem px_mq84 : px_mq 84 1157 121 1155 1156 = true := by decide +kernel
set_option maxRecDepth 100000 in
theorem px_mq85 : px_mq 85 1191 121 1189 1190 = true := by decide +kernel
set_option maxRecDepth 100000 in
theorem px_mq86 : px_mq 86 1195 121 1193 1194 = true := by decide +kernel
set_option maxRecDepth 100000 in
theorem px_mq87 : px_mq 87 1199 121 1197 1198 = true := by decide +kernel
set_option maxRecDepth 100000 in
theorem px_mq88 : px_mq 88 1203 121 1201 1202 = true := by decide +kernel
set_option maxRecDepth 100000 in
theorem px_mq89 : px_mq 89 1207 121 1205 1206 = true := by decide +kernel
set_option maxRecDepth 100000 in
theorem px_mq90 : px_mq 90 1244 121 1242 1243 = true := by decide +kernel
set_option maxRecDepth 100000 in
theorem px_mq91 : px_mq 91 1267 121 1265 1266 = true := by decide +kernel
set_option maxRecDepth 100000 in
theorem px_mq92 : px_mq 92 1300 121 1298 1299 = true := by decide +kernel
set_option maxRecDepth 100000 in
theorem px_mq93 : px_mq 93 1314 121 1312 1313 = true := by decide +kernel
set_option maxRecDepth 100000 in
theorem px_mq94 : px_mq 94 1433 121 1431 1432 = true := by decide +kernel
set_option maxRecDepth 100000 in
theorem px_mq95 : px_mq 95 1513 121 1511 1512 = true := by decide +kernel
set_option maxRecDepth 100000 in
theorem px_mq96 : px_mq 96 1532 121 1530 1531 = true := by decide +kernel
set_option maxRecDepth 100000 in
theorem px_mq97 : px_mq 97 1548 121 1546 1547 = true := by decide +kernel
set_option maxRecDepth 100000 in
theorem px_mq98 : px_mq 98 334 120 333 120 = true := by decide +kernel
set_option maxRecDepth 100000 in
theorem px_mq99 : px_mq 99 1065 120 1063 1064 = true := by decide +kernel
set_option maxRecDepth 100000 in
theorem px_mq100 : px_mq 100 1070 120 1069 28 = true := by decide +kernel
set_option maxRecDepth 100000 in
theorem px_mq101 : px_mq 101 1075 120 1074 29 = true := by decide +kernel
set_option maxRecDepth 100000 in
theorem px_mq102 : px_mq 102 1080 120 1079 30 = true := by decide +kernel
set_option maxRecDepth 100000 in
theorem px_mq103 : px_mq 103 1086 120 1085 31 = true := by decide +kernel
set_option maxRecDepth 100000 in
theorem px_mq104 : px_mq 104 1092 120 1091 32 = true := by decide +kernel
set_option maxRecDepth 100000 in
theorem px_mq105 : px_mq 105 1101 120 1099 1100 = true := by decide +kernel
set_option maxRecDepth 100000 in
theorem px_mq106 : px_mq 106 1106 120 1105 33 = true := by decide +kernel
set_option maxRecDepth 100000 in
theorem px_mq107 : px_mq 107 1110 120 1109 34 = true := by decide +kernel
set_option maxRecDepth 100000 in
theorem px_mq108 : px_mq 108 481 126 480 126 = true := by decide +kernel
set_option maxRecDepth 100000 in
theorem px_mq109 : px_mq 109 1528 126 1526 1527 = true := by decide +kernel
set_option maxRecDepth 100000 in
theorem px_mq110 : px_mq 110 1536 126 1535 42 = true := by decide +kernel
set_option maxRecDepth 100000 in
theorem px_mq111 : px_mq 111 1541 126 1540 43 = true := by decide +kernel
set_option maxRecDepth 100000 in
theorem px_mq112 : px_mq 112 1555 126 1553 1554 = true := by decide +kernel
set_option maxRecDepth 100000 in
theorem px_mq113 : px_mq 113 151 114 150 114 = true := by decide +kernel
set_option maxRecDepth 100000 in
theorem px_mq114 : px_mq 114 564 114 562 563 = true := by decide +kernel
set_option maxRecDepth 100000 in
theorem px_mq115 : px_mq 115 859 114 857 858 = true := by decide +kernel
set_option maxRecDepth 100000 in
theorem px_mq116 : px_mq 116 868 114 866 867 = true := by decide +kernel
set_option maxRecDepth 100000 in
theorem px_mq117 : px_mq 117 873 114 871 872 = true := by decide +kernel
set_option maxRecDepth 100000 in
theorem px_mq118 : px_mq 118 887 114 886 114 = true := by decide +kernel
set_option maxRecDepth 100000 in
theorem px_mq119 : px_mq 119 929 114 928 15 = true := by decide +kernel
set_option maxRecDepth 100000 in
theorem px_mq120 : px_mq 120 933 114 931 932 = true := by decide +kernel
set_option maxRecDepth 100000 in
theorem px_mq121 : px_mq 121 950 114 948 949 = true := by decide +kernel
set_option maxRecDepth 100000 in
theorem px_mq122 : px_mq 122 954 114 952 953 = true := by decide +kernel
set_option maxRecDepth 100000 in
theorem px_mq123 : px_mq 123 976 114 974 975 = true := by decide +kernel
set_option maxRecDepth 100000 in
theorem px_mq124 : px_mq 124 980 114 978 979 = true := by decide +kernel
set_option maxRecDepth 100000 in
theorem px_mq125 : px_mq 125 430 124 429 124 = true := by decide +kernel
set_option maxRecDepth 100000 in
theorem px_mq126 : px_mq 126 609 124 607 608 = true := by decide +kernel
set_option maxRecDepth 100000 in
theorem px_mq127 : px_mq 127 637 124 636 1 = true := by decide +kernel
set_option maxRecDepth 100000 in
theorem px_mq128 : px_mq 128 714 124 713 4 = true := by decide +kernel
set_option maxRecDepth 100000 in
theorem px_mq129 : px_mq 129 718 124 717 5 = true := by decide +kernel
set_option maxRecDepth 100000 in
theorem px_mq130 : px_mq 130 1333 124 1331 1332 = true := by decide +kernel
set_option maxRecDepth 100000 in
theorem px_mq131 : px_mq 131 1337 124 1336 37 = true := by decide +kernel
set_option maxRecDepth 100000 in
theorem px_mq132 : px_mq 132 1348 124 1346 1347 = true := by decide +kernel
set_option maxRecDepth 100000 in
theorem px_mq133 : px_mq 133 1352 124 1350 1351 = true := by decide +kernel
set_option maxRecDepth 100000 in
theorem px_mq134 : px_mq 134 1356 124 1355 38 = true := by decide +kernel
set_option maxRecDepth 100000 in
theorem px_mq135 : px_mq 135 1367 124 1365 1366 = true := by decide +kernel
set_option maxRecDepth 100000 in
theorem px_mq136 : px_mq 136 1380 124 1378 1379 = true := by decide +kernel
set_option maxRecDepth 100000 in
theorem px_mq137 : px_mq 137 1384 124 1383 39 = true := by decide +kernel
set_option maxRecDepth 100000 in
theorem px_mq138 : px_mq 138 1473 124 1471 1472 = true := by decide +kernel
set_option maxRecDepth 100000 in
theorem px_mq139 : px_mq 139 1477 124 1476 40 = true := by decide +kernel
set_option maxRecDepth 100000 in
theorem px_mq140 : px_mq 140 143 113 142 113 = true := by decide +kernel
set_option maxRecDepth 100000 in
theorem px_mq141 : px_mq 141 560 113 558 559 = true := by decide +kernel
set_option maxRecDepth 100000 in
theorem px_mq142 : px_mq 142 568 113 566 567 = true := by decide +kernel
set_option maxRecDepth 100000 in
theorem px_mq143 : px_mq 143 572 113 570 571 = true := by decide +kernel
set_option maxRecDepth 100000 in
theorem px_mq144 : px_mq 144 581 113 579 580 = true := by decide +kernel
set_option maxRecDepth 100000 in
theorem px_mq145 : px_mq 145 601 113 599 600 = true := by decide +kernel
set_option maxRecDepth 100000 in
theorem px_mq146 : px_mq 146 744 113 742 743 = true := by decide +kernel
set_option maxRecDepth 100000 in
theorem px_mq147 : px_mq 147 752 113 750 751 = true := by decide +kernel
set_option maxRecDepth 100000 in
theorem px_mq148 : px_mq 148 760 113 758 759 = true := by decide +kernel
set_option maxRecDepth 100000 in
theorem px_mq149 : px_mq 149 764 113 762 763 = true := by decide +kernel
set_option maxRecDepth 100000 in
theorem px_mq150 : px_mq 150 772 113 770 771 = true := by decide +kernel
set_option maxRecDepth 100000 in
theorem px_mq151 : px_mq 151 776 113 775 11 = true := by decide +kernel
set_option maxRecDepth 100000 in
theorem px_mq152 : px_mq 152 781 113 780 12 = true := by decide +kernel
set_option maxRecDepth 100000 in
theorem px_mq153 : px_mq 153 784 113 783 113 = true := by decide +kernel
set_option maxRecDepth 100000 in
theorem px_mq154 : px_mq 154 788 113 787 13 = true := by decide +kernel
set_option maxRecDepth 100000 in
theorem px_mq155 : px_mq 155 1010 113 1008 1009 = true := by decide +kernel
set_option maxRecDepth 100000 in
theorem px_mq156 : px_mq 156 1057 113 1055 1056 = true := by decide +kernel
set_option maxRecDepth 100000 in
theorem px_mq157 : px_mq 157 1164 113 1162 1163 = true := by decide +kernel
set_option maxRecDepth 100000 in
theorem px_mq158 : px_mq 158 1185 113 1183 1184 = true := by decide +kernel
set_option maxRecDepth 100000 in
theorem px_mq159 : px_mq 159 1215 113 1213 1214 = true := by decide +kernel
set_option maxRecDepth 100000 in
theorem px_mq160 : px_mq 160 1219 113 1218 35 = true := by decide +kernel
set_option maxRecDepth 100000 in
theorem px_mq161 : px_mq 161 1251 113 1249 1250 = true := by decide +kernel
set_option maxRecDepth 100000 in
theorem px_mq162 : px_mq 162 1260 113 1258 1259 = true := by decide +kernel
set_option maxRecDepth 100000 in
theorem px_mq163 : px_mq 163 1274 113 1272 1273 = true := by decide +kernel
set_option maxRecDepth 100000 in
theorem px_mq164 : px_mq 164 1284 113 1282 1283 = true := by decide +kernel
set_option maxRecDepth 100000 in
theorem px_mq165 : px_mq 165 1288 113 1287 36 = true := by decide +kernel
set_option maxRecDepth 100000 in
theorem px_mq166 : px_mq 166 1296 113 1294 1295 = true := by decide +kernel
set_option maxRecDepth 100000 in
theorem px_mq167 : px_mq 167 1307 113 1305 1306 = true := by decide +kernel
set_option maxRecDepth 100000 in
theorem px_mq168 : px_mq 168 1321 113 1319 1320 = true := by decide +kernel
set_option maxRecDepth 100000 in
theorem px_mq169 : px_mq 169 1329 113 1327 1328 = true := by decide +kernel
set_option maxRecDepth 100000 in
theorem px_mq170 : px_mq 170 1344 113 1342 1343 = true := by decide +kernel
set_option maxRecDepth 100000 in
theorem px_mq171 : px_mq 171 1363 113 1361 1362 = true := by decide +kernel
set_option maxRecDepth 100000 in
theorem px_mq172 : px_mq 172 1376 113 1374 1375 = true := by decide +kernel
set_option maxRecDepth 100000 in
theorem px_mq173 : px_mq 173 1391 113 1389 1390 = true := by decide +kernel
set_option maxRecDepth 100000 in
theorem px_mq174 : px_mq 174 1406 113 1404 1405 = true := by decide +kernel
set_option maxRecDepth 100000 in
theorem px_mq175 : px_mq 175 1422 113 1420 1421 = true := by decide +kernel
set_option maxRecDepth 100000 in
theorem px_mq176 : px_mq 176 1445 113 1443 1444 = true := by decide +kernel
set_option maxRecDepth 100000 in
theorem px_mq177 : px_mq 177 1462 113 1460 1461 = true := by decide +kernel
set_option maxRecDepth 100000 in
theorem px_mq178 : px_mq 178 1469 113 1467 1468 = true := by decide +kernel
set_option maxRecDepth 100000 in
theorem px_mq179 : px_mq 179 1488 113 1486 1487 = true := by decide +kernel
set_option maxRecDepth 100000 in
theorem px_mq180 : px_mq 180 1491 113 1490 113 = true := by decide +kernel
set_option maxRecDepth 100000 in
theorem px_mq181 : px_mq 181 1498 113 1496 1497 = true := by decide +kernel
set_option maxRecDepth 100000 in
theorem px_mq182 : px_mq 182 1509 113 1507 1508 = true := by decide +kernel
set_option maxRecDepth 100000 in
theorem px_mq183 : px_mq 183 1520 113 1518 1519 = true := by decide +kernel
set_option maxRecDepth 100000 in
theorem px_mq184 : px_mq 184 1524 113 1523 41 = true := by decide +kernel
set_option maxRecDepth 100000 in
theorem px_mq185 : px_mq 185 1563 113 1561 1562 = true := by decide +kernel
set_option maxRecDepth 100000 in
theorem px_mq186 : px_mq 186 1569 127 1567 1568 = true := by decide +kernel
set_option maxRecDepth 100000 in
theorem px_mq187 : px_mq 187 1574 127 1573 127 = true := by decide +kernel
set_option maxRecDepth 100000 in
theorem px_mq188 : px_mq 188 1579 127 1578 44 = true := by decide +kernel
set_option maxRecDepth 100000 in
theorem px_mq189 : px_mq 189 1583 127 1582 45 = true := by decide +kernel
set_option maxRecDepth 100000 in
theorem px_mq190 : px_mq 190 1587 127 1586 46 = true := by decide +kernel
set_option maxRecDepth 100000 in
theorem px_mq191 : px_mq 191 1793 127 1791 1792 = true := by decide +kernel
set_option maxRecDepth 100000 in
theorem px_mq192 : px_mq 192 1797 127 1795 1796 = true := by decide +kernel
set_option maxRecDepth 100000 in
theorem px_mq193 : px_mq 193 1801 127 1799 1800 = true := by decide +kernel
set_option maxRecDepth 100000 in
theorem px_mq194 : px_mq 194 1805 127 1804 47 = true := by decide +kernel
set_option maxRecDepth 100000 in
theorem px_mq195 : px_mq 195 1809 127 1808 48 = true := by decide +kernel
set_option maxRecDepth 100000 in
theorem px_mq196 : px_mq 196 1813 127 1812 49 = true := by decide +kernel
set_option maxRecDepth 100000 in
theorem px_mq197 : px_mq 197 1817 127 1816 50 = true := by decide +kernel
set_option maxRecDepth 100000 in
theorem px_mq198 : px_mq 198 1821 127 1820 51 = true := by decide +kernel
set_option maxRecDepth 100000 in
theorem px_mq199 : px_mq 199 1825 127 1824 52 = true := by decide +kernel
set_option maxRecDepth 100000 in
theorem px_mq200 : px_mq 200 1828 127 1827 127 = true := by decide +kernel
set_option maxRecDepth 100000 in
theorem px_mq201 : px_mq 201 1831 127 1830 127 = true := by decide +kernel
set_option maxRecDepth 100000 in
theorem px_mq202 : px_mq 202 1835 127 1834 127 = true := by decide +kernel
set_option maxRecDepth 100000 in
theorem px_mq203 : px_mq 203 1844 127 1843 53 = true := by decide +kernel
set_option maxRecDepth 100000 in
theorem px_mq204 : px_mq 204 1848 127 1847 54 = true := by decide +kernel
set_option maxRecDepth 100000 in
theorem px_mq205 : px_mq 205 1852 127 1851 55 = true := by decide +kernel
set_option maxRecDepth 100000 in
theorem px_mq206 : px_mq 206 1856 127 1855 56 = true := by decide +kernel
set_option maxRecDepth 100000 in
theorem px_mq207 : px_mq 207 1860 127 1859 57 = true := by decide +kernel
set_option maxRecDepth 100000 in
theorem px_mq208 : px_mq 208 1863 127 1862 127 = true := by decide +kernel
set_option maxRecDepth 100000 in
theorem px_mq209 : px_mq 209 1867 127 1866 58 = true := by decide +kernel
set_option maxRecDepth 100000 in
theorem px_mq210 : px_mq 210 1871 127 1870 59 = true := by decide +kernel
set_option maxRecDepth 100000 in
theorem px_mq211 : px_mq 211 1875 127 1874 60 = true := by decide +kernel
set_option maxRecDepth 100000 in
theorem px_mq212 : px_mq 212 1879 127 1878 61 = true := by decide +kernel
set_option maxRecDepth 100000 in
theorem px_mq213 : px_mq 213 1883 127 1881 1882 = true := by decide +kernel
set_option maxRecDepth 100000 in
theorem px_mq214 : px_mq 214 1887 127 1886 62 = true := by decide +kernel
set_option maxRecDepth 100000 in
theorem px_mq215 : px_mq 215 1891 127 1890 63 = true := by decide +kernel
set_option maxRecDepth 100000 in
theorem px_mq216 : px_mq 216 1895 127 1894 64 = true := by decide +kernel
set_option maxRecDepth 100000 in
theorem px_mq217 : px_mq 217 1899 127 1898 65 = true := by decide +kernel
set_option maxRecDepth 100000 in
theorem px_mq218 : px_mq 218 1903 127 1902 66 = true := by decide +kernel
set_option maxRecDepth 100000 in
theorem px_mq219 : px_mq 219 1908 127 1907 67 = true := by decide +kernel
set_option maxRecDepth 100000 in
theorem px_mq220 : px_mq 220 1913 127 1912 68 = true := by decide +kernel
set_option maxRecDepth 100000 in
theorem px_mq221 : px_mq 221 1918 127 1917 69 = true := by decide +kernel
set_option maxRecDepth 100000 in
theorem px_mq222 : px_mq 222 1930 127 1928 1929 = true := by decide +kernel
set_option maxRecDepth 100000 in
theorem px_mq223 : px_mq 223 1934 127 1933 70 = true := by decide +kernel
set_option maxRecDepth 100000 in
theorem px_mq224 : px_mq 224 1939 127 1938 71 = true := by decide +kernel
set_option maxRecDepth 100000 in
theorem px_mq225 : px_mq 225 1945 127 1944 72 = true := by decide +kernel
set_option maxRecDepth 100000 in
theorem px_mq226 : px_mq 226 1951 127 1950 73 = true := by decide +kernel
set_option maxRecDepth 100000 in
theorem px_mq227 : px_mq 227 1955 127 1954 74 = true := by decide +kernel
set_option maxRecDepth 100000 in
theorem px_mq228 : px_mq 228 1959 127 1958 75 = true := by decide +kernel
set_option maxRecDepth 100000 in
theorem px_mq229 : px_mq 229 1963 127 1962 76 = true := by decide +kernel
set_option maxRecDepth 100000 in
theorem px_mq230 : px_mq 230 1967 127 1966 77 = true := by decide +kernel
set_option maxRecDepth 100000 in
theorem px_mq231 : px_mq 231 1971 127 1970 78 = true := by decide +kernel
set_option maxRecDepth 100000 in
theorem px_mq232 : px_mq 232 1975 127 1974 79 = true := by decide +kernel
set_option maxRecDepth 100000 in
theorem px_mq233 : px_mq 233 1979 127 1978 80 = true := by decide +kernel
set_option maxRecDepth 100000 in
theorem px_mq234 : px_mq 234 1983 127 1982 81 = true := by decide +kernel
set_option maxRecDepth 100000 in
theorem px_mq235 : px_mq 235 1987 127 1986 82 = true := by decide +kernel
set_option maxRecDepth 100000 in
theorem px_mq236 : px_mq 236 1991 127 1990 83 = true := by decide +kernel
set_option maxRecDepth 100000 in
theorem px_mq237 : px_mq 237 1995 127 1994 84 = true := by decide +kernel
set_option maxRecDepth 100000 in
theorem px_mq238 : px_mq 238 1999 127 1998 85 = true := by decide +kernel
set_option maxRecDepth 100000 in
theorem px_mq239 : px_mq 239 2003 127 2002 86 = true := by decide +kernel
set_option maxRecDepth 100000 in
theorem px_mq240 : px_mq 240 2007 127 2006 87 = true := by decide +kernel
set_option maxRecDepth 100000 in
theorem px_mq241 : px_mq 241 2010 127 2009 127 = true := by decide +kernel
set_option maxRecDepth 100000 in
theorem px_mq242 : px_mq 242 2013 127 2012 127 = true := by decide +kernel
set_option maxRecDepth 100000 in
theorem px_mq243 : px_mq 243 2017 127 2016 88 = true := by decide +kernel
set_option maxRecDepth 100000 in
theorem px_mq244 : px_mq 244 2021 127 2019 2020 = true := by decide +kernel
set_option maxRecDepth 100000 in
theorem px_mq245 : px_mq 245 2025 127 2023 2024 = true := by decide +kernel
set_option maxRecDepth 100000 in
theorem px_mq246 : px_mq 246 2029 127 2027 2028 = true := by decide +kernel
set_option maxRecDepth 100000 in
theorem px_mq247 : px_mq 247 2032 127 2031 127 = true := by decide +kernel
set_option maxRecDepth 100000 in
theorem px_mq248 : px_mq 248 2036 127 2035 89 = true := by decide +kernel
set_option maxRecDepth 100000 in
theorem px_mq249 : px_mq 249 2040 127 2039 90 = true := by decide +kernel
set_option maxRecDepth 100000 in
theorem px_mq250 : px_mq 250 2044 127 2043 91 = true := by decide +kernel
set_option maxRecDepth 100000 in
theorem px_mq251 : px_mq 251 2048 127 2046 2047 = true := by decide +kernel
set_option maxRecDepth 100000 in
theorem px_mq252 : px_mq 252 2052 127 2051 92 = true := by decide +kernel
set_option maxRecDepth 100000 in
theorem px_mq253 : px_mq 253 2056 127 2054 2055 = true := by decide +kernel
set_option maxRecDepth 100000 in
theorem px_mq254 : px_mq 254 2060 127 2059 93 = true := by decide +kernel
set_option maxRecDepth 100000 in
theorem px_mq255 : px_mq 255 2064 127 2062 2063 = true := by decide +kernel
set_option maxRecDepth 100000 in
theorem px_mq256 : px_mq 256 2068 127 2067 94 = true := by decide +kernel
set_option maxRecDepth 100000 in
theorem px_mq257 : px_mq 257 2072 127 2070 2071 = true := by decide +kernel
set_option maxRecDepth 100000 in
theorem px_mq258 : px_mq 258 2076 127 2075 95 = true := by decide +kernel
set_option maxRecDepth 100000 in
theorem px_mq259 : px_mq 259 2080 127 2078 2079 = true := by decide +kernel
set_option maxRecDepth 100000 in
theorem px_mq260 : px_mq 260 2084 127 2082 2083 = true := by decide +kernel
set_option maxRecDepth 100000 in
theorem px_mq261 : px_mq 261 2088 127 2086 2087 = true := by decide +kernel
set_option maxRecDepth 100000 in
theorem px_mq262 : px_mq 262 2092 127 2090 2091 = true := by decide +kernel
set_option maxRecDepth 100000 in
theorem px_mq263 : px_mq 263 2096 127 2094 2095 = true := by decide +kernel
set_option maxRecDepth 100000 in
theorem px_mq264 : px_mq 264 2100 127 2099 96 = true := by decide +kernel
set_option maxRecDepth 100000 in
theorem px_mq265 : px_mq 265 2104 127 2103 97 = true := by decide +kernel
set_option maxRecDepth 100000 in
theorem px_mq266 : px_mq 266 2109 127 2108 98 = true := by decide +kernel
set_option maxRecDepth 100000 in
theorem px_mq267 : px_mq 267 2113 127 2111 2112 = true := by decide +kernel
set_option maxRecDepth 100000 in
theorem px_mq268 : px_mq 268 2117 127 2116 99 = true := by decide +kernel
set_option maxRecDepth 100000 in
theorem px_mq269 : px_mq 269 2121 127 2119 2120 = true := by decide +kernel
set_option maxRecDepth 100000 in
theorem px_mq270 : px_mq 270 2125 127 2124 100 = true := by decide +kernel
set_option maxRecDepth 100000 in
theorem px_mq271 : px_mq 271 2129 127 2128 101 = true := by decide +kernel
set_option maxRecDepth 100000 in
theorem px_mq272 : px_mq 272 2133 127 2132 102 = true := by decide +kernel
set_option maxRecDepth 100000 in
theorem px_mq273 : px_mq 273 2137 127 2135 2136 = true := by decide +kernel
set_option maxRecDepth 100000 in
theorem px_mq274 : px_mq 274 2141 127 2140 103 = true := by decide +kernel
set_option maxRecDepth 100000 in
theorem px_mq275 : px_mq 275 2145 127 2143 2144 = true := by decide +kernel
set_option maxRecDepth 100000 in
theorem px_mq276 : px_mq 276 2149 127 2148 104 = true := by decide +kernel
set_option maxRecDepth 100000 in
theorem px_mq277 : px_mq 277 2153 127 2151 2152 = true := by decide +kernel
set_option maxRecDepth 100000 in
theorem px_mq278 : px_mq 278 2157 127 2155 2156 = true := by decide +kernel
set_option maxRecDepth 100000 in
theorem px_mq279 : px_mq 279 2160 127 2159 127 = true := by decide +kernel
set_option maxRecDepth 100000 in
theorem px_mq280 : px_mq 280 2164 127 2162 2163 = true := by decide +kernel
set_option maxRecDepth 100000 in
theorem px_mq281 : px_mq 281 2168 127 2167 105 = true := by decide +kernel
set_option maxRecDepth 100000 in
theorem px_mq282 : px_mq 282 2172 127 2171 106 = true := by decide +kernel
set_option maxRecDepth 100000 in
theorem px_mq283 : px_mq 283 2176 127 2174 2175 = true := by decide +kernel
set_option maxRecDepth 100000 in
theorem px_mq284 : px_mq 284 2180 127 2178 2179 = true := by decide +kernel
set_option maxRecDepth 100000 in
theorem px_mq285 : px_mq 285 2184 127 2183 107 = true := by decide +kernel
set_option maxRecDepth 100000 in
theorem px_mq286 : px_mq 286 2188 127 2186 2187 = true := by decide +kernel
set_option maxRecDepth 100000 in
theorem px_mq287 : px_mq 287 2192 127 2190 2191 = true := by decide +kernel
set_option maxRecDepth 100000 in
theorem px_mq288 : px_mq 288 2196 127 2195 127 = true := by decide +kernel
set_option maxRecDepth 100000 in
theorem px_mq289 : px_mq 289 2200 127 2198 2199 = true := by decide +kernel
set_option maxRecDepth 100000 in
theorem px_mq290 : px_mq 290 2203 127 2202 127 = true := by decide +kernel
set_option maxRecDepth 100000 in
theorem px_mq291 : px_mq 291 2207 127 2205 2206 = true := by decide +kernel
set_option maxRecDepth 100000 in
theorem px_mq292 : px_mq 292 2211 127 2209 2210 = true := by decide +kernel
set_option maxRecDepth 100000 in
theorem px_mq293 : px_mq 293 2215 127 2213 2214 = true := by decide +kernel
set_option maxRecDepth 100000 in
theorem px_mq294 : px_mq 294 2218 127 2217 127 = true := by decide +kernel
set_option maxRecDepth 100000 in
theorem px_mq295 : px_mq 295 2222 127 2221 108 = true := by decide +kernel
set_option maxRecDepth 100000 in
theorem px_mq296 : px_mq 296 2226 127 2225 109 = true := by decide +kernel
set_option maxRecDepth 100000 in
theorem px_mq297 : px_mq 297 2231 127 2229 2230 = true := by decide +kernel
set_option maxRecDepth 100000 in
theorem px_mq298 : px_mq 298 2235 127 2233 2234 = true := by decide +kernel
set_option maxRecDepth 100000 in
theorem px_mq299 : px_mq 299 2239 127 2238 110 = true := by decide +kernel
set_option maxRecDepth 100000 in
theorem px_mq300 : px_mq 300 2243 127 2242 111 = true := by decide +kernel
set_option maxRecDepth 100000 in
theorem px_mq301 : px_mq 301 2247 127 2245 2246 = true := by decide +kernel
set_option maxRecDepth 100000 in
theorem px_mq302 : px_mq 302 2251 127 2249 2250 = true := by decide +kernel
set_option maxRecDepth 100000 in
theorem px_mq303 : px_mq 303 2255 127 2253 2254 = true := by decide +kernel
set_option maxRecDepth 100000 in
theorem px_mq304 : px_mq 304 767 112 766 112 = true := by decide +kernel
set_option maxRecDepth 100000 in
theorem px_mq305 : px_mq 305 1006 112 1005 112 = true := by decide +kernel
set_option maxRecDepth 100000 in
theorem px_mq306 : px_mq 306 1053 112 1052 112 = true := by decide +kernel
set_option maxRecDepth 100000 in
theorem px_mq307 : px_mq 307 1160 112 1159 112 = true := by decide +kernel
set_option maxRecDepth 100000 in
theorem px_mq308 : px_mq 308 1181 112 1180 112 = true := by decide +kernel
set_option maxRecDepth 100000 in
theorem px_mq309 : px_mq 309 1210 112 1209 112 = true := by decide +kernel
set_option maxRecDepth 100000 in
theorem px_mq310 : px_mq 310 1247 112 1246 112 = true := by decide +kernel
set_option maxRecDepth 100000 in
theorem px_mq311 : px_mq 311 1256 112 1255 112 = true := by decide +kernel
set_option maxRecDepth 100000 in
theorem px_mq312 : px_mq 312 1270 112 1269 112 = true := by decide +kernel
set_option maxRecDepth 100000 in
theorem px_mq313 : px_mq 313 1280 112 1279 112 = true := by decide +kernel
set_option maxRecDepth 100000 in
theorem px_mq314 : px_mq 314 1292 112 1291 112 = true := by decide +kernel
set_option maxRecDepth 100000 in
theorem px_mq315 : px_mq 315 1303 112 1302 112 = true := by decide +kernel
set_option maxRecDepth 100000 in
theorem px_mq316 : px_mq 316 1317 112 1316 112 = true := by decide +kernel
set_option maxRecDepth 100000 in
theorem px_mq317 : px_mq 317 1325 112 1324 112 = true := by decide +kernel
set_option maxRecDepth 100000 in
theorem px_mq318 : px_mq 318 1340 112 1339 112 = true := by decide +kernel
set_option maxRecDepth 100000 in
theorem px_mq319 : px_mq 319 1359 112 1358 112 = true := by decide +kernel
set_option maxRecDepth 100000 in
theorem px_mq320 : px_mq 320 1372 112 1371 112 = true := by decide +kernel
set_option maxRecDepth 100000 in
theorem px_mq321 : px_mq 321 1387 112 1386 112 = true := by decide +kernel
set_option maxRecDepth 100000 in
theorem px_mq322 : px_mq 322 1402 112 1401 112 = true := by decide +kernel
set_option maxRecDepth 100000 in
theorem px_mq323 : px_mq 323 1418 112 1417 112 = true := by decide +kernel
set_option maxRecDepth 100000 in
theorem px_mq324 : px_mq 324 1441 112 1440 112 = true := by decide +kernel
set_option maxRecDepth 100000 in
theorem px_mq325 : px_mq 325 1458 112 1457 112 = true := by decide +kernel
set_option maxRecDepth 100000 in
theorem px_mq326 : px_mq 326 1465 112 1464 112 = true := by decide +kernel
set_option maxRecDepth 100000 in
theorem px_mq327 : px_mq 327 1484 112 1483 112 = true := by decide +kernel
set_option maxRecDepth 100000 in
theorem px_mq328 : px_mq 328 1494 112 1493 112 = true := by decide +kernel
set_option maxRecDepth 100000 in
theorem px_mq329 : px_mq 329 1505 112 1504 112 = true := by decide +kernel
set_option maxRecDepth 100000 in
theorem px_mq330 : px_mq 330 1516 112 1515 112 = true := by decide +kernel
set_option maxRecDepth 100000 in
theorem px_mq331 : px_mq 331 1559 112 1558 112 = true := by decide +kernel
set_option maxRecDepth 100000 in
theorem px_mq333 : px_mq 333 684 137 683 137 = true := by decide +kernel
set_option maxRecDepth 100000 in
theorem px_mq334 : px_mq 334 310 119 309 119 = true := by decide +kernel
set_option maxRecDepth 100000 in
theorem px_math_max : Cond.static Lib.Math.max.name ∈ lw_tbl ∧ Cond.initialized "java/lang/Math" ∈ lw_tbl ∧ Cond.code Lib.Math.max.name Lib.Math.max.code 2 (some .int) ∈ lw_tbl ∧ px_y 335 = Lib.Math.max.name := ⟨List.mem_of_getElem? (i := 680) (by decide +kernel), List.mem_of_getElem? (i := 128) (by decide +kernel), List.mem_of_getElem? (i := 681) (by decide +kernel), by decide +kernel⟩
set_option maxRecDepth 100000 in
theorem px_math_min : Cond.static Lib.Math.min.name ∈ lw_tbl ∧ Cond.initialized "java/lang/Math" ∈ lw_tbl ∧ Cond.code Lib.Math.min.name Lib.Math.min.code 2 (some .int) ∈ lw_tbl ∧ px_y 336 = Lib.Math.min.name := ⟨List.mem_of_getElem? (i := 700) (by decide +kernel), List.mem_of_getElem? (i := 128) (by decide +kernel), List.mem_of_getElem? (i := 701) (by decide +kernel), by decide +kernel⟩
set_option maxRecDepth 100000 in
theorem px_math_abs : Cond.static Lib.Math.abs.name ∈ lw_tbl ∧ Cond.initialized "java/lang/Math" ∈ lw_tbl ∧ Cond.code Lib.Math.abs.name Lib.Math.abs.code 1 (some .int) ∈ lw_tbl ∧ px_y 337 = Lib.Math.abs.name := ⟨List.mem_of_getElem? (i := 708) (by decide +kernel), List.mem_of_getElem? (i := 128) (by decide +kernel), List.mem_of_getElem? (i := 709) (by decide +kernel), by decide +kernel⟩
