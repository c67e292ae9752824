/-! THE LAW: the words of the methods that it calls, 6. -/
set_option maxRecDepth 40000 in
set_option maxHeartbeats 4000000 in
theorem gL_X6_drawn : GoodIn lw_tbl (wsV RL 148 RX6 yX6_drawn wsX6_drawn) := goodIn_r _ [1122, 1123, 1124, 73, 1125, 928, 1126, 851, 1127, 1128, 780, 1129, 793, 933, 935, 37, 73, 936, 1025, 1026, 1027, 1028, 847, 848, 849, 1033, 1035, 52, 1036, 916, 918, 36, 919, 985, 987, 47, 988, 942, 944, 39, 945, 797, 798, 946, 948, 40, 949, 950, 952, 41, 953, 954, 956, 42, 957, 958, 960, 43, 961, 962, 963, 964, 965, 967, 44, 968, 969, 971, 45, 972, 973, 974, 975, 799, 801, 803, 805, 807, 809, 811, 813, 815, 817, 819, 821, 823, 825, 827, 829, 831, 833, 835] rfl (by decide +kernel)
set_option maxRecDepth 40000 in
set_option maxHeartbeats 4000000 in
theorem gL_X5_image : GoodIn lw_tbl (wsV RL 149 RX5 yX5_image wsX5_image) := goodIn_r _ [675, 676, 677, 67, 678, 280, 417, 252, 249, 277, 278, 67, 279, 422, 424, 9, 425, 153, 396, 397, 398, 71, 399, 151, 154, 157, 159, 161, 163, 167, 170, 174, 178, 180, 254, 256, 258, 260, 262, 264, 266, 268, 270, 182, 184, 186, 188, 190, 192, 194, 196, 198, 200, 202] rfl (by decide +kernel)
set_option maxRecDepth 40000 in
set_option maxHeartbeats 4000000 in
theorem gL_X6_image : GoodIn lw_tbl (wsV RL 152 RX6 yX6_image wsX6_image) := goodIn_r _ [1130, 1131, 1132, 73, 1133, 851, 928, 781, 847, 848, 73, 849, 933, 935, 37, 936, 780, 916, 918, 36, 919, 799, 801, 803, 805, 807, 809, 811, 813, 815, 817, 819, 821, 823, 825, 827, 829, 831, 833, 835] rfl (by decide +kernel)
set_option maxRecDepth 40000 in
set_option maxHeartbeats 4000000 in
theorem gL_X5_restore : GoodIn lw_tbl (wsV RL 153 RX5 yX5_restore wsX5_restore) := goodIn_r _ [679, 680, 681, 67, 682, 280, 252, 153, 417, 249, 247, 277, 278, 67, 279, 396, 397, 398, 71, 399, 151, 154, 157, 159, 161, 163, 167, 170, 174, 178, 180, 400, 401, 402, 70, 403, 207, 254, 256, 258, 260, 262, 264, 266, 268, 270, 182, 184, 186, 188, 190, 192, 194, 196, 198, 200, 202, 209, 211, 213] rfl (by decide +kernel)
set_option maxRecDepth 40000 in
set_option maxHeartbeats 4000000 in
theorem gL_X6_restore : GoodIn lw_tbl (wsV RL 156 RX6 yX6_restore wsX6_restore) := goodIn_r _ [1134, 1135, 1136, 73, 1137, 851, 781, 928, 783, 847, 848, 73, 849, 916, 918, 36, 919, 780, 799, 801, 803, 805, 807, 809, 811, 813, 815, 817, 819, 821, 823, 825, 827, 829, 831, 833, 835] rfl (by decide +kernel)
set_option maxRecDepth 40000 in
set_option maxHeartbeats 4000000 in
theorem gL_X5_kind : GoodIn lw_tbl (wsV RL 157 RX5 yX5_kind wsX5_kind) := goodIn_r _ [683, 684, 685, 67, 686, 249, 166, 280, 507, 509, 16, 67, 510, 156, 277, 278, 279, 254, 256, 258, 260, 262, 264, 266, 268, 270, 182, 184, 186, 188, 190, 192, 194, 196, 198, 200, 202] rfl (by decide +kernel)
set_option maxRecDepth 40000 in
set_option maxHeartbeats 4000000 in
theorem gL_X6_kind : GoodIn lw_tbl (wsV RL 160 RX6 yX6_kind wsX6_kind) := goodIn_r _ [1138, 1139, 1140, 73, 1141, 780, 851, 997, 999, 48, 73, 1000, 847, 848, 849, 799, 801, 803, 805, 807, 809, 811, 813, 815, 817, 819, 821, 823, 825, 827, 829, 831, 833, 835] rfl (by decide +kernel)
set_option maxRecDepth 40000 in
set_option maxHeartbeats 4000000 in
theorem gL_X5_as : GoodIn lw_tbl (wsV RL 161 RX5 yX5_as wsX5_as) := goodIn_r _ [687, 688, 689, 67, 690, 280, 249, 166, 253, 507, 509, 16, 67, 510, 156, 277, 278, 279, 691, 692, 693, 694, 281, 283, 0, 284, 285, 254, 256, 258, 260, 262, 264, 266, 268, 270, 182, 184, 186, 188, 190, 192, 194, 196, 198, 200, 202] rfl (by decide +kernel)
set_option maxRecDepth 40000 in
set_option maxHeartbeats 4000000 in
theorem gL_X6_as : GoodIn lw_tbl (wsV RL 164 RX6 yX6_as wsX6_as) := goodIn_r _ [1142, 1143, 1144, 73, 1145, 1146, 851, 780, 997, 999, 48, 73, 1000, 847, 848, 849, 857, 859, 29, 860, 787, 852, 854, 28, 855, 856, 799, 801, 803, 805, 807, 809, 811, 813, 815, 817, 819, 821, 823, 825, 827, 829, 831, 833, 835] rfl (by decide +kernel)
set_option maxRecDepth 40000 in
set_option maxHeartbeats 4000000 in
theorem gL_X5_ask : GoodIn lw_tbl (wsV RL 165 RX5 yX5_ask wsX5_ask) := goodIn_r _ [696, 697, 698, 67, 699, 280, 248, 249, 166, 507, 509, 16, 67, 510, 156, 277, 278, 279, 700, 701, 702, 72, 703, 224, 226, 164, 227, 171, 228, 175, 229, 704, 705, 706, 707, 708, 710, 25, 711, 222, 712, 713, 714, 715, 716, 718, 26, 719, 720, 721, 722, 723, 724, 725, 726, 727, 728, 730, 27, 731, 732, 733, 734, 735, 736, 737, 738, 739, 740, 741, 742, 743, 744, 745, 746, 747, 748, 749, 750, 751, 752, 753, 254, 256, 258, 260, 262, 264, 266, 268, 270, 182, 184, 186, 188, 190, 192, 194, 196, 198, 200, 202, 230, 232, 234, 236, 238, 240] rfl (by decide +kernel)
set_option maxRecDepth 40000 in
set_option maxHeartbeats 4000000 in
theorem gL_X6_ask : GoodIn lw_tbl (wsV RL 168 RX6 yX6_ask wsX6_ask) := goodIn_r _ [1147, 1148, 1149, 73, 1150, 851, 792, 997, 999, 48, 73, 1000, 780, 847, 848, 849, 1151, 1153, 58, 1154, 1155, 1157, 59, 1158, 791, 1159, 1161, 60, 1162, 1163, 1165, 61, 1166, 1167, 1169, 62, 1170, 1171, 1173, 63, 1174, 1175, 1177, 64, 1178, 799, 801, 803, 805, 807, 809, 811, 813, 815, 817, 819, 821, 823, 825, 827, 829, 831, 833, 835] rfl (by decide +kernel)
set_option maxRecDepth 40000 in
set_option maxHeartbeats 4000000 in
theorem gL_X5_trace : GoodIn lw_tbl (wsV RL 169 RX5 yX5_trace wsX5_trace) := goodIn_r _ [754, 755, 756, 67, 757, 248, 225, 223, 563, 277, 278, 67, 279, 254, 256, 258, 260, 262, 264, 266, 268, 270, 230, 232, 234, 236, 238, 240] rfl (by decide +kernel)
set_option maxRecDepth 40000 in
set_option maxHeartbeats 4000000 in
theorem gL_X6_trace : GoodIn lw_tbl (wsV RL 172 RX6 yX6_trace wsX6_trace) := goodIn_r _ [1179, 1180, 1181, 73, 1182, 792, 791, 1053, 847, 848, 73, 849, 799, 801, 803, 805, 807, 809, 811, 813, 815, 817, 819, 821, 823, 825, 827, 829, 831, 833, 835] rfl (by decide +kernel)
set_option maxRecDepth 40000 in
set_option maxHeartbeats 4000000 in
theorem gL_X5_count : GoodIn lw_tbl (wsV RL 173 RX5 yX5_count wsX5_count) := goodIn_r _ [758, 759, 760, 67, 761, 245, 249, 153, 156, 158, 160, 247, 208, 246, 112, 280, 762, 763, 764, 68, 765, 298, 299, 300, 301, 95, 766, 767, 768, 71, 769, 151, 161, 254, 256, 258, 260, 262, 264, 266, 268, 270, 182, 184, 186, 188, 190, 192, 194, 196, 198, 200, 202, 209, 211, 213, 121, 123, 125, 127, 129, 131, 133, 135, 96, 98, 100] rfl (by decide +kernel)
set_option maxRecDepth 40000 in
set_option maxHeartbeats 4000000 in
theorem gL_X6_count : GoodIn lw_tbl (wsV RL 176 RX6 yX6_count wsX6_count) := goodIn_r _ [1183, 1184, 1185, 73, 1186, 785, 780, 783, 789, 851, 1187, 1189, 65, 73, 1190, 799, 801, 803, 805, 807, 809, 811, 813, 815, 817, 819, 821, 823, 825, 827, 829, 831, 833, 835] rfl (by decide +kernel)
set_option maxRecDepth 40000 in
set_option maxHeartbeats 4000000 in
theorem gL_X5_status : GoodIn lw_tbl (wsV RL 177 RX5 yX5_status wsX5_status) := goodIn_r _ [770, 771, 772, 67, 773, 253, 254, 256, 258, 260, 262, 264, 266, 268, 270] rfl (by decide +kernel)
set_option maxRecDepth 40000 in
set_option maxHeartbeats 4000000 in
theorem gL_X6_status : GoodIn lw_tbl (wsV RL 180 RX6 yX6_status wsX6_status) := goodIn_r _ [1191, 1192, 1193, 73, 1194, 787, 799, 801, 803, 805, 807, 809, 811, 813, 815, 817, 819, 821, 823, 825, 827, 829, 831, 833, 835] rfl (by decide +kernel)
