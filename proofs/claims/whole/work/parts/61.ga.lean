/-! THE LAW: the words of the methods that it calls, 1. -/
set_option maxRecDepth 40000 in
set_option maxHeartbeats 4000000 in
theorem gL_X5_init : GoodIn lw_tbl (wsX5_init) := goodIn_r _ [81, 82, 83, 84, 85, 86, 68, 245, 104, 105, 69, 246, 138, 139, 70, 247, 216, 217, 72, 248, 243, 146, 71, 249, 250, 251, 252, 87, 88, 89, 90, 91, 103, 93, 94, 95, 107, 108, 109, 110, 140, 141, 142, 143, 144, 205, 148, 149, 150, 161, 163, 167, 170, 174, 219, 220, 221, 222, 96, 98, 100, 254, 256, 258, 260, 262, 264, 266, 268, 270, 121, 123, 125, 127, 129, 131, 133, 135, 209, 211, 213, 230, 232, 234, 236, 238, 240, 182, 184, 186, 188, 190, 192, 194, 196, 198, 200, 202] rfl (by decide +kernel)
set_option maxRecDepth 40000 in
set_option maxHeartbeats 4000000 in
theorem gL_X6_init : GoodIn lw_tbl (wsX6_init) := goodIn_r _ [778, 779, 83, 84, 103, 780, 838, 781, 782, 784, 785, 786, 788, 791, 793, 799, 801, 803, 805, 807, 809, 811, 813, 815, 817, 819, 821, 823, 825, 827, 829, 831, 833, 835] rfl (by decide +kernel)
set_option maxRecDepth 40000 in
set_option maxHeartbeats 4000000 in
theorem gL_X5_row : GoodIn lw_tbl (wsV RL 13 RX5 yX5_row wsX5_row) := goodIn_r _ [273, 274, 275, 67, 276, 280, 253, 245, 277, 278, 67, 279, 281, 283, 0, 284, 285, 286, 287, 288, 68, 289, 94, 95, 93, 254, 256, 258, 260, 262, 264, 266, 268, 270, 96, 98, 100] rfl (by decide +kernel)
set_option maxRecDepth 40000 in
set_option maxHeartbeats 4000000 in
theorem gL_X6_row : GoodIn lw_tbl (wsV RL 17 RX6 yX6_row wsX6_row) := goodIn_r _ [839, 840, 841, 73, 842, 850, 851, 785, 786, 784, 843, 844, 73, 845, 846, 847, 848, 849, 852, 854, 28, 855, 787, 856, 857, 859, 29, 860, 799, 801, 803, 805, 807, 809, 811, 813, 815, 817, 819, 821, 823, 825, 827, 829, 831, 833, 835] rfl (by decide +kernel)
set_option maxRecDepth 40000 in
set_option maxHeartbeats 4000000 in
theorem gL_X5_set : GoodIn lw_tbl (wsV RL 18 RX5 yX5_set wsX5_set) := goodIn_r _ [290, 291, 292, 67, 293, 280, 245, 253, 277, 278, 67, 279, 294, 295, 296, 68, 297, 298, 299, 300, 301, 95, 302, 303, 304, 305, 281, 283, 0, 284, 285, 306, 307, 308, 309, 94, 93, 254, 256, 258, 260, 262, 264, 266, 268, 270, 96, 98, 100] rfl (by decide +kernel)
set_option maxRecDepth 40000 in
set_option maxHeartbeats 4000000 in
theorem gL_X6_set : GoodIn lw_tbl (wsV RL 21 RX6 yX6_set wsX6_set) := goodIn_r _ [861, 862, 863, 73, 864, 851, 785, 784, 786, 843, 844, 73, 845, 846, 847, 848, 849, 852, 854, 28, 855, 787, 856, 857, 859, 29, 860, 799, 801, 803, 805, 807, 809, 811, 813, 815, 817, 819, 821, 823, 825, 827, 829, 831, 833, 835] rfl (by decide +kernel)
set_option maxRecDepth 40000 in
set_option maxHeartbeats 4000000 in
theorem gL_X5_copy : GoodIn lw_tbl (wsV RL 22 RX5 yX5_copy wsX5_copy) := goodIn_r _ [310, 311, 312, 67, 313, 280, 245, 253, 277, 278, 67, 279, 314, 299, 300, 68, 301, 95, 281, 283, 0, 284, 285, 315, 316, 317, 318, 94, 319, 303, 304, 305, 320, 321, 322, 323, 93, 324, 326, 325, 74, 254, 256, 258, 260, 262, 264, 266, 268, 270, 96, 98, 100] rfl (by decide +kernel)
set_option maxRecDepth 40000 in
set_option maxHeartbeats 4000000 in
theorem gL_X6_copy : GoodIn lw_tbl (wsV RL 26 RX6 yX6_copy wsX6_copy) := goodIn_r _ [865, 866, 867, 73, 868, 851, 785, 786, 793, 784, 843, 844, 73, 845, 846, 847, 848, 849, 852, 854, 28, 855, 787, 856, 869, 870, 871, 857, 859, 29, 860, 799, 801, 803, 805, 807, 809, 811, 813, 815, 817, 819, 821, 823, 825, 827, 829, 831, 833, 835] rfl (by decide +kernel)
set_option maxRecDepth 40000 in
set_option maxHeartbeats 4000000 in
theorem gL_X5_drop : GoodIn lw_tbl (wsV RL 27 RX5 yX5_drop wsX5_drop) := goodIn_r _ [327, 328, 329, 67, 330, 280, 245, 253, 277, 278, 67, 279, 314, 299, 300, 68, 301, 95, 281, 283, 0, 284, 285, 331, 332, 333, 334, 254, 256, 258, 260, 262, 264, 266, 268, 270, 96, 98, 100] rfl (by decide +kernel)
set_option maxRecDepth 40000 in
set_option maxHeartbeats 4000000 in
theorem gL_X6_drop : GoodIn lw_tbl (wsV RL 31 RX6 yX6_drop wsX6_drop) := goodIn_r _ [872, 873, 874, 73, 875, 851, 785, 843, 844, 73, 845, 846, 847, 848, 849, 852, 854, 28, 855, 787, 856, 857, 859, 29, 860, 799, 801, 803, 805, 807, 809, 811, 813, 815, 817, 819, 821, 823, 825, 827, 829, 831, 833, 835] rfl (by decide +kernel)
set_option maxRecDepth 40000 in
set_option maxHeartbeats 4000000 in
theorem gL_X5_feed : GoodIn lw_tbl (wsV RL 32 RX5 yX5_feed wsX5_feed) := goodIn_r _ [335, 336, 337, 67, 338, 280, 246, 112, 343, 277, 278, 67, 279, 339, 340, 341, 69, 342, 111, 110, 254, 256, 258, 260, 262, 264, 266, 268, 270, 121, 123, 125, 127, 129, 131, 133, 135] rfl (by decide +kernel)
set_option maxRecDepth 40000 in
set_option maxHeartbeats 4000000 in
theorem gL_X6_feed : GoodIn lw_tbl (wsV RL 35 RX6 yX6_feed wsX6_feed) := goodIn_r _ [876, 877, 878, 73, 879, 880, 851, 789, 881, 788, 847, 848, 73, 849, 799, 801, 803, 805, 807, 809, 811, 813, 815, 817, 819, 821, 823, 825, 827, 829, 831, 833, 835] rfl (by decide +kernel)
set_option maxRecDepth 40000 in
set_option maxHeartbeats 4000000 in
theorem gL_X5_river : GoodIn lw_tbl (wsV RL 36 RX5 yX5_river wsX5_river) := goodIn_r _ [344, 345, 346, 67, 347, 246, 250, 112, 395, 115, 249, 247, 156, 348, 349, 350, 69, 351, 117, 111, 352, 354, 1, 355, 356, 358, 2, 359, 119, 120, 360, 362, 3, 363, 118, 110, 364, 365, 366, 367, 369, 4, 370, 371, 373, 5, 374, 114, 116, 375, 377, 6, 378, 278, 67, 279, 380, 381, 382, 71, 383, 151, 154, 157, 159, 161, 384, 386, 7, 387, 152, 165, 172, 168, 176, 155, 388, 390, 8, 391, 392, 393, 394, 396, 397, 398, 399, 163, 167, 170, 174, 178, 180, 400, 401, 402, 70, 403, 207, 254, 256, 258, 260, 262, 264, 266, 268, 270, 121, 123, 125, 127, 129, 131, 133, 135, 182, 184, 186, 188, 190, 192, 194, 196, 198, 200, 202, 209, 211, 213] rfl (by decide +kernel)
set_option maxRecDepth 40000 in
set_option maxHeartbeats 4000000 in
theorem gL_X6_river : GoodIn lw_tbl (wsV RL 40 RX6 yX6_river wsX6_river) := goodIn_r _ [882, 883, 884, 73, 885, 794, 789, 780, 915, 796, 783, 886, 888, 30, 73, 889, 795, 890, 892, 31, 893, 894, 896, 32, 897, 788, 898, 900, 33, 901, 790, 902, 904, 34, 905, 906, 907, 847, 848, 849, 908, 910, 35, 911, 912, 913, 914, 916, 918, 36, 919, 799, 801, 803, 805, 807, 809, 811, 813, 815, 817, 819, 821, 823, 825, 827, 829, 831, 833, 835] rfl (by decide +kernel)
set_option maxRecDepth 40000 in
set_option maxHeartbeats 4000000 in
theorem gL_X5_fault : GoodIn lw_tbl (wsV RL 41 RX5 yX5_fault wsX5_fault) := goodIn_r _ [404, 405, 406, 67, 407, 246, 113, 254, 256, 258, 260, 262, 264, 266, 268, 270, 121, 123, 125, 127, 129, 131, 133, 135] rfl (by decide +kernel)
set_option maxRecDepth 40000 in
set_option maxHeartbeats 4000000 in
theorem gL_X6_fault : GoodIn lw_tbl (wsV RL 44 RX6 yX6_fault wsX6_fault) := goodIn_r _ [920, 921, 922, 73, 923, 790, 799, 801, 803, 805, 807, 809, 811, 813, 815, 817, 819, 821, 823, 825, 827, 829, 831, 833, 835] rfl (by decide +kernel)
set_option maxRecDepth 40000 in
set_option maxHeartbeats 4000000 in
theorem gL_X5_undo : GoodIn lw_tbl (wsV RL 45 RX5 yX5_undo wsX5_undo) := goodIn_r _ [408, 409, 410, 67, 411, 247, 249, 208, 417, 412, 413, 414, 70, 415, 207, 206, 205, 416, 397, 398, 71, 399, 151, 154, 157, 159, 161, 163, 167, 170, 174, 178, 180, 254, 256, 258, 260, 262, 264, 266, 268, 270, 209, 211, 213, 182, 184, 186, 188, 190, 192, 194, 196, 198, 200, 202] rfl (by decide +kernel)
set_option maxRecDepth 40000 in
set_option maxHeartbeats 4000000 in
theorem gL_X6_undo : GoodIn lw_tbl (wsV RL 48 RX6 yX6_undo wsX6_undo) := goodIn_r _ [924, 925, 926, 73, 927, 783, 928, 780, 782, 799, 801, 803, 805, 807, 809, 811, 813, 815, 817, 819, 821, 823, 825, 827, 829, 831, 833, 835] rfl (by decide +kernel)
set_option maxRecDepth 40000 in
set_option maxHeartbeats 4000000 in
theorem gL_X5_days : GoodIn lw_tbl (wsV RL 49 RX5 yX5_days wsX5_days) := goodIn_r _ [418, 419, 420, 67, 421, 417, 280, 249, 158, 343, 247, 422, 424, 9, 67, 425, 153, 277, 278, 279, 426, 427, 428, 70, 429, 205, 206, 207, 430, 431, 75, 432, 416, 397, 398, 71, 399, 151, 154, 157, 159, 161, 163, 167, 170, 174, 178, 180, 433, 434, 435, 436, 437, 438, 439, 440, 441, 442, 443, 444, 445, 447, 10, 448, 449, 451, 11, 452, 453, 454, 76, 455, 456, 458, 12, 459, 460, 462, 13, 463, 464, 466, 14, 467, 468, 469, 470, 471, 472, 473, 474, 475, 476, 477, 478, 479, 480, 481, 254, 256, 258, 260, 262, 264, 266, 268, 270, 182, 184, 186, 188, 190, 192, 194, 196, 198, 200, 202, 209, 211, 213] rfl (by decide +kernel)
