set_option maxRecDepth 20000 in
theorem ggL_law_X3_init : GoodIn vsL_law wsX3_init := goodIn_r _ [9, 10, 11, 12, 13, 14, 15, 16, 17, 18, 19, 20, 21, 22, 23, 24, 25, 26, 27, 28, 29, 30, 6, 31, 32, 33, 34, 35, 36, 37, 38, 39, 40, 41, 42, 626, 627, 628, 629, 630, 631, 632, 633, 634, 662, 663, 664, 665, 666, 667, 668, 669, 670, 671, 672, 673, 674, 675, 676, 677, 678, 679, 680, 681, 682, 683, 684, 685] (by decide +kernel) (by decide +kernel)
set_option maxRecDepth 20000 in
theorem gL_law_X3_init : GoodIn vsL_law (wsX3_init) := ggL_law_X3_init
set_option maxRecDepth 20000 in
theorem ggL_law_X4_init : GoodIn vsL_law wsX4_init := goodIn_r _ [45, 46, 11, 12, 13, 47, 48, 49, 50, 51, 52, 53, 54, 55, 56, 57, 58, 59, 60, 61, 62, 63, 64, 65, 66, 635, 636, 637, 638, 639, 640, 641, 642, 643, 644, 645, 646, 647, 648, 649, 650, 651, 652, 653, 654, 655, 656, 657, 658, 659, 660, 661] (by decide +kernel) (by decide +kernel)
set_option maxRecDepth 20000 in
theorem gL_law_X4_init : GoodIn vsL_law (wsX4_init) := ggL_law_X4_init
set_option maxRecDepth 20000 in
theorem ggL_law_X3_child : GoodIn vsL_law wsX3_child := goodIn_r _ [70, 71, 14, 15, 72, 73, 2, 74, 626, 627, 628, 629, 630, 631, 632, 633, 634] (by decide +kernel) (by decide +kernel)
set_option maxRecDepth 20000 in
theorem gL_law_X3_child : GoodIn vsL_law (wsV RL 19 RX3 yX3_child wsX3_child) := goodIn_app (goodIn_of _ (by decide +kernel)) ggL_law_X3_child
set_option maxRecDepth 20000 in
theorem ggL_law_X4_child : GoodIn vsL_law wsX4_child := goodIn_r _ [78, 79, 80, 47, 48, 81, 82, 5, 83, 635, 636, 637, 638, 639, 640, 641, 642, 643, 644, 645, 646, 647, 648, 649, 650, 651, 652, 653, 654, 655, 656, 657, 658, 659, 660, 661] (by decide +kernel) (by decide +kernel)
set_option maxRecDepth 20000 in
theorem gL_law_X4_child : GoodIn vsL_law (wsV RL 23 RX4 yX4_child wsX4_child) := goodIn_app (goodIn_of _ (by decide +kernel)) ggL_law_X4_child
set_option maxRecDepth 20000 in
theorem ggL_law_X3_consent : GoodIn vsL_law wsX3_consent := goodIn_r _ [87, 15, 88, 89, 90, 91, 2, 92, 71, 72, 73, 74, 93, 94, 95, 96, 17, 97, 98, 99, 100, 101, 102, 103, 104, 105, 106, 107, 108, 109, 110, 111, 112, 113, 114, 115, 116, 117, 118, 119, 120, 121, 122, 123, 124, 125, 626, 627, 628, 629, 630, 631, 632, 633, 634, 686, 687, 688, 689, 690, 691, 692, 693, 694, 695, 696] (by decide +kernel) (by decide +kernel)
set_option maxRecDepth 20000 in
theorem gL_law_X3_consent : GoodIn vsL_law (wsV RL 24 RX3 yX3_consent wsX3_consent) := goodIn_app (goodIn_of _ (by decide +kernel)) ggL_law_X3_consent
set_option maxRecDepth 20000 in
theorem ggL_law_X4_consent : GoodIn vsL_law wsX4_consent := goodIn_r _ [129, 79, 48, 130, 131, 132, 5, 133, 80, 81, 82, 83, 635, 636, 637, 638, 639, 640, 641, 642, 643, 644, 645, 646, 647, 648, 649, 650, 651, 652, 653, 654, 655, 656, 657, 658, 659, 660, 661] (by decide +kernel) (by decide +kernel)
set_option maxRecDepth 20000 in
theorem gL_law_X4_consent : GoodIn vsL_law (wsV RL 27 RX4 yX4_consent wsX4_consent) := goodIn_app (goodIn_of _ (by decide +kernel)) ggL_law_X4_consent
set_option maxRecDepth 20000 in
theorem ggL_law_X3_picture : GoodIn vsL_law wsX3_picture := goodIn_r _ [137, 88, 17, 16, 138, 100, 26, 72, 73, 2, 74, 139, 140, 141, 142, 11, 12, 13, 104, 112, 118, 113, 111, 105, 143, 144, 145, 146, 147, 25, 148, 149, 40, 626, 627, 628, 629, 630, 631, 632, 633, 634, 686, 687, 688, 689, 690, 691, 692, 693, 694, 695, 696, 676, 677, 678, 679, 680, 681, 682, 683, 684, 685] (by decide +kernel) (by decide +kernel)
set_option maxRecDepth 20000 in
theorem gL_law_X3_picture : GoodIn vsL_law (wsV RL 28 RX3 yX3_picture wsX3_picture) := goodIn_app (goodIn_of _ (by decide +kernel)) ggL_law_X3_picture
set_option maxRecDepth 20000 in
theorem ggL_law_X4_picture : GoodIn vsL_law wsX4_picture := goodIn_r _ [153, 79, 154, 49, 50, 51, 52, 81, 82, 5, 83, 635, 636, 637, 638, 639, 640, 641, 642, 643, 644, 645, 646, 647, 648, 649, 650, 651, 652, 653, 654, 655, 656, 657, 658, 659, 660, 661] (by decide +kernel) (by decide +kernel)
set_option maxRecDepth 20000 in
theorem gL_law_X4_picture : GoodIn vsL_law (wsV RL 32 RX4 yX4_picture wsX4_picture) := goodIn_app (goodIn_of _ (by decide +kernel)) ggL_law_X4_picture
set_option maxRecDepth 20000 in
theorem ggL_law_X3_face : GoodIn vsL_law wsX3_face := goodIn_r _ [158, 15, 93, 94, 95, 2, 96, 88, 17, 89, 90, 91, 92, 71, 72, 73, 74, 159, 160, 161, 100, 162, 103, 104, 163, 164, 165, 166, 112, 118, 113, 97, 98, 99, 101, 102, 105, 106, 107, 108, 109, 110, 111, 114, 115, 116, 117, 119, 120, 121, 122, 123, 124, 125, 626, 627, 628, 629, 630, 631, 632, 633, 634, 686, 687, 688, 689, 690, 691, 692, 693, 694, 695, 696] (by decide +kernel) (by decide +kernel)
set_option maxRecDepth 20000 in
theorem gL_law_X3_face : GoodIn vsL_law (wsV RL 33 RX3 yX3_face wsX3_face) := goodIn_app (goodIn_of _ (by decide +kernel)) ggL_law_X3_face
set_option maxRecDepth 20000 in
theorem ggL_law_X4_face : GoodIn vsL_law wsX4_face := goodIn_r _ [170, 79, 52, 53, 54, 55, 56, 171, 172, 173, 5, 174, 154, 81, 82, 83, 130, 131, 132, 133, 80, 635, 636, 637, 638, 639, 640, 641, 642, 643, 644, 645, 646, 647, 648, 649, 650, 651, 652, 653, 654, 655, 656, 657, 658, 659, 660, 661] (by decide +kernel) (by decide +kernel)
set_option maxRecDepth 20000 in
theorem gL_law_X4_face : GoodIn vsL_law (wsV RL 37 RX4 yX4_face wsX4_face) := goodIn_app (goodIn_of _ (by decide +kernel)) ggL_law_X4_face
set_option maxRecDepth 20000 in
theorem ggL_law_X3_set : GoodIn vsL_law wsX3_set := goodIn_r _ [178, 179, 180, 18, 72, 73, 2, 74, 626, 627, 628, 629, 630, 631, 632, 633, 634] (by decide +kernel) (by decide +kernel)
set_option maxRecDepth 20000 in
theorem gL_law_X3_set : GoodIn vsL_law (wsV RL 38 RX3 yX3_set wsX3_set) := goodIn_app (goodIn_of _ (by decide +kernel)) ggL_law_X3_set
set_option maxRecDepth 20000 in
theorem ggL_law_X4_set : GoodIn vsL_law wsX4_set := goodIn_r _ [184, 79, 57, 185, 58, 59, 81, 82, 5, 83, 635, 636, 637, 638, 639, 640, 641, 642, 643, 644, 645, 646, 647, 648, 649, 650, 651, 652, 653, 654, 655, 656, 657, 658, 659, 660, 661] (by decide +kernel) (by decide +kernel)
set_option maxRecDepth 20000 in
theorem gL_law_X4_set : GoodIn vsL_law (wsV RL 41 RX4 yX4_set wsX4_set) := goodIn_app (goodIn_of _ (by decide +kernel)) ggL_law_X4_set
set_option maxRecDepth 20000 in
theorem ggL_law_X3_count : GoodIn vsL_law wsX3_count := goodIn_r _ [189, 71, 88, 190, 26, 191, 192, 193, 2, 194, 195, 196, 197, 198, 199, 200, 201, 202, 93, 94, 95, 96, 17, 203, 204, 205, 206, 207, 208, 209, 210, 211, 212, 213, 214, 626, 627, 628, 629, 630, 631, 632, 633, 634, 676, 677, 678, 679, 680, 681, 682, 683, 684, 685, 686, 687, 688, 689, 690, 691, 692, 693, 694, 695, 696] (by decide +kernel) (by decide +kernel)
set_option maxRecDepth 20000 in
theorem gL_law_X3_count : GoodIn vsL_law (wsV RL 42 RX3 yX3_count wsX3_count) := goodIn_app (goodIn_of _ (by decide +kernel)) ggL_law_X3_count
set_option maxRecDepth 20000 in
theorem ggL_law_X4_count : GoodIn vsL_law wsX4_count := goodIn_r _ [218, 79, 80, 154, 219, 220, 221, 222, 223, 5, 224, 50, 225, 226, 227, 228, 229, 230, 231, 232, 52, 54, 56, 61, 55, 233, 234, 235, 236, 237, 238, 239, 240, 48, 53, 49, 241, 242, 243, 244, 245, 246, 247, 248, 635, 636, 637, 638, 639, 640, 641, 642, 643, 644, 645, 646, 647, 648, 649, 650, 651, 652, 653, 654, 655, 656, 657, 658, 659, 660, 661] (by decide +kernel) (by decide +kernel)
set_option maxRecDepth 20000 in
theorem gL_law_X4_count : GoodIn vsL_law (wsV RL 45 RX4 yX4_count wsX4_count) := goodIn_app (goodIn_of _ (by decide +kernel)) ggL_law_X4_count
set_option maxRecDepth 20000 in
theorem ggL_law_L_told : GoodIn vsL_law vsL_told := goodIn_ca (goodIn_r _ [252, 253, 254, 255, 256, 2, 257, 258, 259, 26, 93, 94, 95, 96, 88, 17, 72, 73, 74, 260, 261, 262, 25, 263, 264, 41, 265, 266, 267, 100, 268, 102, 111, 686, 687, 688, 689, 690, 691, 692, 693, 694, 695, 696, 626, 627, 628, 629, 630, 631, 632, 633, 634, 676, 677, 678, 679, 680, 681, 682, 683, 684, 685] (by decide +kernel) (by decide +kernel)) (goodIn_sub (fun _ h => List.mem_append_right _ h) (by decide +kernel))
set_option maxRecDepth 20000 in
theorem gL_law_L_told : GoodIn vsL_law (va_wsS RL 46 yL_told vsL_told) := goodIn_app (goodIn_of _ (by decide +kernel)) ggL_law_L_told
set_option maxRecDepth 20000 in
theorem ggL_law_X4_told : GoodIn vsL_law wsX4_told := goodIn_r _ [272, 79, 49, 50, 51, 52, 61, 171, 172, 173, 5, 174, 154, 81, 82, 83, 229, 230, 231, 232, 54, 56, 55, 233, 234, 235, 236, 237, 238, 239, 240, 48, 53, 245, 246, 247, 248, 273, 274, 275, 276, 220, 60, 635, 636, 637, 638, 639, 640, 641, 642, 643, 644, 645, 646, 647, 648, 649, 650, 651, 652, 653, 654, 655, 656, 657, 658, 659, 660, 661] (by decide +kernel) (by decide +kernel)
set_option maxRecDepth 20000 in
theorem gL_law_X4_told : GoodIn vsL_law (wsV RL 51 RX4 yX4_told wsX4_told) := goodIn_app (goodIn_of _ (by decide +kernel)) ggL_law_X4_told
set_option maxRecDepth 20000 in
theorem ggL_law_X4_thrown : GoodIn vsL_law wsX4_thrown := goodIn_r _ [280, 79, 635, 636, 637, 638, 639, 640, 641, 642, 643, 644, 645, 646, 647, 648, 649, 650, 651, 652, 653, 654, 655, 656, 657, 658, 659, 660, 661] (by decide +kernel) (by decide +kernel)
set_option maxRecDepth 20000 in
theorem gL_law_X4_thrown : GoodIn vsL_law (wsV RL 52 RX4 yX4_thrown wsX4_thrown) := goodIn_app (goodIn_of _ (by decide +kernel)) ggL_law_X4_thrown
set_option maxRecDepth 20000 in
theorem ggL_law_X3_name : GoodIn vsL_law wsX3_name := goodIn_r _ [284, 18, 93, 94, 95, 2, 96, 88, 17, 285, 286, 287, 100, 288, 102, 289, 290, 291, 292, 103, 118, 114, 115, 116, 117, 293, 294, 295, 296, 297, 298, 299, 300, 301, 302, 303, 104, 304, 305, 306, 307, 112, 686, 687, 688, 689, 690, 691, 692, 693, 694, 695, 696, 626, 627, 628, 629, 630, 631, 632, 633, 634] (by decide +kernel) (by decide +kernel)
set_option maxRecDepth 20000 in
theorem gL_law_X3_name : GoodIn vsL_law (wsV RL 56 RX3 yX3_name wsX3_name) := goodIn_app (goodIn_of _ (by decide +kernel)) ggL_law_X3_name
set_option maxRecDepth 20000 in
theorem ggL_law_X4_name : GoodIn vsL_law wsX4_name := goodIn_r _ [311, 79, 62, 171, 172, 173, 5, 174, 154, 81, 82, 83, 229, 230, 231, 232, 52, 54, 56, 61, 55, 233, 234, 235, 236, 237, 238, 239, 240, 48, 53, 49, 312, 313, 314, 315, 57, 635, 636, 637, 638, 639, 640, 641, 642, 643, 644, 645, 646, 647, 648, 649, 650, 651, 652, 653, 654, 655, 656, 657, 658, 659, 660, 661] (by decide +kernel) (by decide +kernel)
set_option maxRecDepth 20000 in
theorem gL_law_X4_name : GoodIn vsL_law (wsV RL 59 RX4 yX4_name wsX4_name) := goodIn_app (goodIn_of _ (by decide +kernel)) ggL_law_X4_name
set_option maxRecDepth 20000 in
theorem ggL_law_X3_seen : GoodIn vsL_law wsX3_seen := goodIn_r _ [319, 89, 90, 91, 2, 92, 71, 320, 321, 322, 323, 88, 195, 196, 197, 198, 190, 207, 208, 209, 210, 93, 94, 95, 96, 17, 626, 627, 628, 629, 630, 631, 632, 633, 634, 686, 687, 688, 689, 690, 691, 692, 693, 694, 695, 696] (by decide +kernel) (by decide +kernel)
set_option maxRecDepth 20000 in
theorem gL_law_X3_seen : GoodIn vsL_law (wsV RL 60 RX3 yX3_seen wsX3_seen) := goodIn_app (goodIn_of _ (by decide +kernel)) ggL_law_X3_seen
set_option maxRecDepth 20000 in
theorem ggL_law_X4_seen : GoodIn vsL_law wsX4_seen := goodIn_r _ [327, 79, 219, 130, 131, 132, 5, 133, 80, 81, 82, 83, 328, 329, 330, 331, 154, 245, 246, 247, 248, 52, 53, 229, 230, 231, 232, 54, 56, 61, 55, 233, 234, 235, 236, 237, 238, 239, 240, 48, 49, 635, 636, 637, 638, 639, 640, 641, 642, 643, 644, 645, 646, 647, 648, 649, 650, 651, 652, 653, 654, 655, 656, 657, 658, 659, 660, 661] (by decide +kernel) (by decide +kernel)
set_option maxRecDepth 20000 in
theorem gL_law_X4_seen : GoodIn vsL_law (wsV RL 63 RX4 yX4_seen wsX4_seen) := goodIn_app (goodIn_of _ (by decide +kernel)) ggL_law_X4_seen
set_option maxRecDepth 20000 in
theorem ggL_law_X3_proof : GoodIn vsL_law wsX3_proof := goodIn_r _ [335, 88, 89, 90, 91, 2, 92, 71, 195, 196, 197, 198, 190, 207, 208, 209, 210, 93, 94, 95, 96, 17, 626, 627, 628, 629, 630, 631, 632, 633, 634, 686, 687, 688, 689, 690, 691, 692, 693, 694, 695, 696] (by decide +kernel) (by decide +kernel)
set_option maxRecDepth 20000 in
theorem gL_law_X3_proof : GoodIn vsL_law (wsV RL 64 RX3 yX3_proof wsX3_proof) := goodIn_app (goodIn_of _ (by decide +kernel)) ggL_law_X3_proof
set_option maxRecDepth 20000 in
theorem ggL_law_X4_proof : GoodIn vsL_law wsX4_proof := goodIn_r _ [339, 79, 154, 219, 130, 131, 132, 5, 133, 80, 81, 82, 83, 245, 246, 247, 248, 52, 53, 229, 230, 231, 232, 54, 56, 61, 55, 233, 234, 235, 236, 237, 238, 239, 240, 48, 49, 635, 636, 637, 638, 639, 640, 641, 642, 643, 644, 645, 646, 647, 648, 649, 650, 651, 652, 653, 654, 655, 656, 657, 658, 659, 660, 661] (by decide +kernel) (by decide +kernel)
set_option maxRecDepth 20000 in
theorem gL_law_X4_proof : GoodIn vsL_law (wsV RL 67 RX4 yX4_proof wsX4_proof) := goodIn_app (goodIn_of _ (by decide +kernel)) ggL_law_X4_proof
set_option maxRecDepth 20000 in
theorem ggL_law_X3_shows : GoodIn vsL_law wsX3_shows := goodIn_r _ [343, 71, 14, 72, 73, 2, 74, 320, 321, 322, 323, 88, 195, 196, 197, 198, 190, 207, 208, 209, 210, 93, 94, 95, 96, 17, 626, 627, 628, 629, 630, 631, 632, 633, 634, 686, 687, 688, 689, 690, 691, 692, 693, 694, 695, 696] (by decide +kernel) (by decide +kernel)
set_option maxRecDepth 20000 in
theorem gL_law_X3_shows : GoodIn vsL_law (wsV RL 68 RX3 yX3_shows wsX3_shows) := goodIn_app (goodIn_of _ (by decide +kernel)) ggL_law_X3_shows
set_option maxRecDepth 20000 in
theorem ggL_law_X4_shows : GoodIn vsL_law wsX4_shows := goodIn_r _ [347, 79, 80, 47, 154, 219, 81, 82, 5, 83, 245, 246, 247, 248, 52, 53, 229, 230, 231, 232, 54, 56, 61, 55, 233, 234, 235, 236, 237, 238, 239, 240, 48, 49, 635, 636, 637, 638, 639, 640, 641, 642, 643, 644, 645, 646, 647, 648, 649, 650, 651, 652, 653, 654, 655, 656, 657, 658, 659, 660, 661] (by decide +kernel) (by decide +kernel)
set_option maxRecDepth 20000 in
theorem gL_law_X4_shows : GoodIn vsL_law (wsV RL 71 RX4 yX4_shows wsX4_shows) := goodIn_app (goodIn_of _ (by decide +kernel)) ggL_law_X4_shows
set_option maxRecDepth 20000 in
theorem ggL_law_X3_choose : GoodIn vsL_law wsX3_choose := goodIn_r _ [351, 88, 352, 353, 354, 2, 355, 190, 26, 356, 357, 358, 25, 359, 264, 626, 627, 628, 629, 630, 631, 632, 633, 634, 676, 677, 678, 679, 680, 681, 682, 683, 684, 685] (by decide +kernel) (by decide +kernel)
set_option maxRecDepth 20000 in
theorem gL_law_X3_choose : GoodIn vsL_law (wsV RL 72 RX3 yX3_choose wsX3_choose) := goodIn_app (goodIn_of _ (by decide +kernel)) ggL_law_X3_choose
set_option maxRecDepth 20000 in
theorem ggL_law_X4_choose : GoodIn vsL_law wsX4_choose := goodIn_r _ [363, 79, 154, 219, 220, 81, 82, 5, 83, 635, 636, 637, 638, 639, 640, 641, 642, 643, 644, 645, 646, 647, 648, 649, 650, 651, 652, 653, 654, 655, 656, 657, 658, 659, 660, 661] (by decide +kernel) (by decide +kernel)
set_option maxRecDepth 20000 in
theorem gL_law_X4_choose : GoodIn vsL_law (wsV RL 76 RX4 yX4_choose wsX4_choose) := goodIn_app (goodIn_of _ (by decide +kernel)) ggL_law_X4_choose
set_option maxRecDepth 20000 in
theorem ggL_law_X3_wrong : GoodIn vsL_law wsX3_wrong := goodIn_r _ [367, 190, 71, 18, 203, 204, 205, 2, 206, 88, 207, 208, 209, 210, 93, 94, 95, 96, 17, 211, 212, 213, 214, 320, 321, 322, 323, 195, 196, 197, 198, 626, 627, 628, 629, 630, 631, 632, 633, 634, 686, 687, 688, 689, 690, 691, 692, 693, 694, 695, 696] (by decide +kernel) (by decide +kernel)
set_option maxRecDepth 20000 in
theorem gL_law_X3_wrong : GoodIn vsL_law (wsV RL 77 RX3 yX3_wrong wsX3_wrong) := goodIn_app (goodIn_of _ (by decide +kernel)) ggL_law_X3_wrong
set_option maxRecDepth 20000 in
theorem ggL_law_X4_wrong : GoodIn vsL_law wsX4_wrong := goodIn_r _ [371, 79, 219, 225, 226, 227, 5, 228, 154, 229, 230, 231, 232, 52, 54, 56, 61, 55, 233, 234, 235, 236, 237, 238, 239, 240, 48, 53, 49, 372, 373, 374, 375, 376, 63, 245, 246, 247, 248, 377, 378, 379, 380, 80, 185, 58, 635, 636, 637, 638, 639, 640, 641, 642, 643, 644, 645, 646, 647, 648, 649, 650, 651, 652, 653, 654, 655, 656, 657, 658, 659, 660, 661] (by decide +kernel) (by decide +kernel)
set_option maxRecDepth 20000 in
theorem gL_law_X4_wrong : GoodIn vsL_law (wsV RL 80 RX4 yX4_wrong wsX4_wrong) := goodIn_app (goodIn_of _ (by decide +kernel)) ggL_law_X4_wrong
set_option maxRecDepth 20000 in
theorem ggL_law_X3_best : GoodIn vsL_law wsX3_best := goodIn_r _ [384, 22, 385, 386, 387, 2, 388, 18, 88, 389, 390, 391, 392, 393, 21, 394, 395, 396, 397, 398, 399, 207, 208, 209, 210, 93, 94, 95, 96, 17, 199, 200, 201, 202, 195, 196, 197, 198, 190, 400, 401, 402, 403, 30, 31, 32, 404, 405, 406, 407, 408, 409, 410, 411, 33, 34, 35, 36, 412, 413, 414, 415, 416, 417, 418, 419, 420, 421, 422, 423, 424, 425, 426, 427, 428, 429, 430, 431, 432, 433, 434, 435, 436, 437, 352, 353, 354, 355, 26, 356, 357, 358, 25, 359, 264, 191, 192, 193, 194, 626, 627, 628, 629, 630, 631, 632, 633, 634, 662, 663, 664, 665, 666, 667, 668, 669, 670, 671, 672, 673, 674, 675, 686, 687, 688, 689, 690, 691, 692, 693, 694, 695, 696, 676, 677, 678, 679, 680, 681, 682, 683, 684, 685] (by decide +kernel) (by decide +kernel)
set_option maxRecDepth 20000 in
theorem gL_law_X3_best : GoodIn vsL_law (wsV RL 81 RX3 yX3_best wsX3_best) := goodIn_app (goodIn_of _ (by decide +kernel)) ggL_law_X3_best
set_option maxRecDepth 20000 in
theorem ggL_law_X4_best : GoodIn vsL_law wsX4_best := goodIn_r _ [441, 79, 219, 220, 442, 443, 444, 5, 445, 154, 225, 226, 227, 228, 229, 230, 231, 232, 52, 54, 56, 61, 55, 233, 234, 235, 236, 237, 238, 239, 240, 48, 53, 49, 372, 373, 374, 375, 376, 63, 245, 246, 247, 248, 377, 378, 379, 380, 80, 185, 58, 446, 447, 448, 449, 450, 294, 295, 296, 297, 298, 299, 221, 222, 223, 224, 50, 635, 636, 637, 638, 639, 640, 641, 642, 643, 644, 645, 646, 647, 648, 649, 650, 651, 652, 653, 654, 655, 656, 657, 658, 659, 660, 661] (by decide +kernel) (by decide +kernel)
set_option maxRecDepth 20000 in
theorem gL_law_X4_best : GoodIn vsL_law (wsV RL 84 RX4 yX4_best wsX4_best) := goodIn_app (goodIn_of _ (by decide +kernel)) ggL_law_X4_best
set_option maxRecDepth 20000 in
theorem ggL_law_X3_mend : GoodIn vsL_law wsX3_mend := goodIn_r _ [454, 455, 22, 190, 385, 386, 387, 2, 388, 18, 88, 389, 390, 391, 392, 393, 21, 394, 395, 396, 397, 398, 399, 207, 208, 209, 210, 93, 94, 95, 96, 17, 199, 200, 201, 202, 195, 196, 197, 198, 400, 401, 402, 403, 30, 31, 32, 404, 405, 406, 407, 408, 409, 410, 411, 33, 34, 35, 36, 412, 413, 414, 415, 416, 417, 418, 419, 420, 421, 422, 423, 424, 425, 426, 427, 428, 429, 430, 431, 432, 433, 434, 435, 436, 437, 352, 353, 354, 355, 26, 356, 357, 358, 25, 359, 264, 456, 294, 295, 296, 297, 298, 299, 626, 627, 628, 629, 630, 631, 632, 633, 634, 662, 663, 664, 665, 666, 667, 668, 669, 670, 671, 672, 673, 674, 675, 686, 687, 688, 689, 690, 691, 692, 693, 694, 695, 696, 676, 677, 678, 679, 680, 681, 682, 683, 684, 685] (by decide +kernel) (by decide +kernel)
set_option maxRecDepth 20000 in
theorem gL_law_X3_mend : GoodIn vsL_law (wsV RL 85 RX3 yX3_mend wsX3_mend) := goodIn_app (goodIn_of _ (by decide +kernel)) ggL_law_X3_mend
set_option maxRecDepth 20000 in
theorem ggL_law_X4_mend : GoodIn vsL_law wsX4_mend := goodIn_r _ [460, 79, 219, 220, 442, 443, 444, 5, 445, 154, 225, 226, 227, 228, 229, 230, 231, 232, 52, 54, 56, 61, 55, 233, 234, 235, 236, 237, 238, 239, 240, 48, 53, 49, 372, 373, 374, 375, 376, 63, 245, 246, 247, 248, 377, 378, 379, 380, 80, 185, 58, 446, 447, 448, 449, 450, 294, 295, 296, 297, 298, 299, 221, 222, 223, 224, 50, 635, 636, 637, 638, 639, 640, 641, 642, 643, 644, 645, 646, 647, 648, 649, 650, 651, 652, 653, 654, 655, 656, 657, 658, 659, 660, 661] (by decide +kernel) (by decide +kernel)
set_option maxRecDepth 20000 in
theorem gL_law_X4_mend : GoodIn vsL_law (wsV RL 88 RX4 yX4_mend wsX4_mend) := goodIn_app (goodIn_of _ (by decide +kernel)) ggL_law_X4_mend
set_option maxRecDepth 20000 in
theorem ggL_law_X3_choices : GoodIn vsL_law wsX3_choices := goodIn_r _ [464, 22, 385, 386, 387, 2, 388, 18, 88, 389, 390, 391, 392, 393, 21, 394, 395, 396, 397, 398, 399, 207, 208, 209, 210, 93, 94, 95, 96, 17, 199, 200, 201, 202, 195, 196, 197, 198, 190, 400, 401, 402, 403, 30, 31, 32, 404, 405, 406, 407, 408, 409, 410, 411, 33, 34, 35, 36, 465, 466, 467, 468, 469, 470, 471, 472, 423, 424, 425, 426, 427, 428, 429, 430, 431, 432, 433, 434, 435, 436, 437, 626, 627, 628, 629, 630, 631, 632, 633, 634, 662, 663, 664, 665, 666, 667, 668, 669, 670, 671, 672, 673, 674, 675, 686, 687, 688, 689, 690, 691, 692, 693, 694, 695, 696] (by decide +kernel) (by decide +kernel)
set_option maxRecDepth 20000 in
theorem gL_law_X3_choices : GoodIn vsL_law (wsV RL 89 RX3 yX3_choices wsX3_choices) := goodIn_app (goodIn_of _ (by decide +kernel)) ggL_law_X3_choices
set_option maxRecDepth 20000 in
theorem ggL_law_X4_choices : GoodIn vsL_law wsX4_choices := goodIn_r _ [476, 79, 154, 225, 226, 227, 5, 228, 229, 230, 231, 232, 52, 54, 56, 61, 55, 233, 234, 235, 236, 237, 238, 239, 240, 48, 53, 49, 372, 373, 374, 375, 376, 63, 245, 246, 247, 248, 377, 378, 379, 380, 80, 185, 58, 635, 636, 637, 638, 639, 640, 641, 642, 643, 644, 645, 646, 647, 648, 649, 650, 651, 652, 653, 654, 655, 656, 657, 658, 659, 660, 661] (by decide +kernel) (by decide +kernel)
set_option maxRecDepth 20000 in
theorem gL_law_X4_choices : GoodIn vsL_law (wsV RL 92 RX4 yX4_choices wsX4_choices) := goodIn_app (goodIn_of _ (by decide +kernel)) ggL_law_X4_choices
set_option maxRecDepth 20000 in
theorem ggL_law_X3_lacking : GoodIn vsL_law wsX3_lacking := goodIn_r _ [480, 71, 88, 18, 207, 208, 209, 2, 210, 93, 94, 95, 96, 17, 626, 627, 628, 629, 630, 631, 632, 633, 634, 686, 687, 688, 689, 690, 691, 692, 693, 694, 695, 696] (by decide +kernel) (by decide +kernel)
set_option maxRecDepth 20000 in
theorem gL_law_X3_lacking : GoodIn vsL_law (wsV RL 93 RX3 yX3_lacking wsX3_lacking) := goodIn_app (goodIn_of _ (by decide +kernel)) ggL_law_X3_lacking
set_option maxRecDepth 20000 in
theorem ggL_law_X4_lacking : GoodIn vsL_law wsX4_lacking := goodIn_r _ [484, 79, 80, 154, 185, 328, 329, 330, 5, 331, 245, 246, 247, 248, 52, 53, 229, 230, 231, 232, 54, 56, 61, 55, 233, 234, 235, 236, 237, 238, 239, 240, 48, 49, 635, 636, 637, 638, 639, 640, 641, 642, 643, 644, 645, 646, 647, 648, 649, 650, 651, 652, 653, 654, 655, 656, 657, 658, 659, 660, 661] (by decide +kernel) (by decide +kernel)
set_option maxRecDepth 20000 in
theorem gL_law_X4_lacking : GoodIn vsL_law (wsV RL 96 RX4 yX4_lacking wsX4_lacking) := goodIn_app (goodIn_of _ (by decide +kernel)) ggL_law_X4_lacking
set_option maxRecDepth 20000 in
theorem ggL_law_X3_fewest : GoodIn vsL_law wsX3_fewest := goodIn_r _ [488, 26, 190, 489, 490, 491, 25, 492, 493, 149, 42, 494, 495, 496, 497, 40, 498, 115, 116, 117, 499, 500, 501, 502, 503, 504, 505, 506, 507, 508, 13, 509, 510, 511, 512, 513, 514, 515, 516, 626, 627, 628, 629, 630, 631, 632, 633, 634, 676, 677, 678, 679, 680, 681, 682, 683, 684, 685] (by decide +kernel) (by decide +kernel)
set_option maxRecDepth 20000 in
theorem gL_law_X3_fewest : GoodIn vsL_law (wsV RL 97 RX3 yX3_fewest wsX3_fewest) := goodIn_app (goodIn_of _ (by decide +kernel)) ggL_law_X3_fewest
set_option maxRecDepth 20000 in
theorem ggL_law_X4_fewest : GoodIn vsL_law wsX4_fewest := goodIn_r _ [520, 79, 219, 65, 521, 522, 523, 5, 524, 64, 154, 51, 525, 115, 116, 117, 635, 636, 637, 638, 639, 640, 641, 642, 643, 644, 645, 646, 647, 648, 649, 650, 651, 652, 653, 654, 655, 656, 657, 658, 659, 660, 661] (by decide +kernel) (by decide +kernel)
set_option maxRecDepth 20000 in
theorem gL_law_X4_fewest : GoodIn vsL_law (wsV RL 100 RX4 yX4_fewest wsX4_fewest) := goodIn_app (goodIn_of _ (by decide +kernel)) ggL_law_X4_fewest
set_option maxRecDepth 20000 in
theorem ggL_law_X3_lay : GoodIn vsL_law wsX3_lay := goodIn_r _ [529, 26, 190, 18, 530, 531, 532, 25, 533, 264, 534, 490, 491, 492, 493, 149, 42, 494, 495, 496, 497, 40, 498, 115, 116, 117, 499, 500, 501, 502, 503, 504, 505, 506, 507, 508, 13, 509, 510, 511, 512, 513, 514, 515, 516, 535, 536, 537, 538, 41, 539, 540, 541, 542, 543, 544, 545, 546, 547, 548, 549, 550, 626, 627, 628, 629, 630, 631, 632, 633, 634, 676, 677, 678, 679, 680, 681, 682, 683, 684, 685] (by decide +kernel) (by decide +kernel)
set_option maxRecDepth 20000 in
theorem gL_law_X3_lay : GoodIn vsL_law (wsV RL 101 RX3 yX3_lay wsX3_lay) := goodIn_app (goodIn_of _ (by decide +kernel)) ggL_law_X3_lay
set_option maxRecDepth 20000 in
theorem ggL_law_X4_lay : GoodIn vsL_law wsX4_lay := goodIn_r _ [554, 79, 219, 65, 59, 220, 60, 66, 521, 522, 523, 5, 524, 64, 154, 51, 525, 115, 116, 117, 555, 556, 557, 558, 635, 636, 637, 638, 639, 640, 641, 642, 643, 644, 645, 646, 647, 648, 649, 650, 651, 652, 653, 654, 655, 656, 657, 658, 659, 660, 661] (by decide +kernel) (by decide +kernel)
set_option maxRecDepth 20000 in
theorem gL_law_X4_lay : GoodIn vsL_law (wsV RL 104 RX4 yX4_lay wsX4_lay) := goodIn_app (goodIn_of _ (by decide +kernel)) ggL_law_X4_lay
set_option maxRecDepth 20000 in
theorem ggL_law_X3_page : GoodIn vsL_law wsX3_page := goodIn_r _ [562, 26, 563, 564, 565, 25, 566, 264, 626, 627, 628, 629, 630, 631, 632, 633, 634, 676, 677, 678, 679, 680, 681, 682, 683, 684, 685] (by decide +kernel) (by decide +kernel)
set_option maxRecDepth 20000 in
theorem gL_law_X3_page : GoodIn vsL_law (wsV RL 105 RX3 yX3_page wsX3_page) := goodIn_app (goodIn_of _ (by decide +kernel)) ggL_law_X3_page
set_option maxRecDepth 20000 in
theorem ggL_law_X4_page : GoodIn vsL_law wsX4_page := goodIn_r _ [570, 79, 220, 60, 81, 82, 5, 83, 635, 636, 637, 638, 639, 640, 641, 642, 643, 644, 645, 646, 647, 648, 649, 650, 651, 652, 653, 654, 655, 656, 657, 658, 659, 660, 661] (by decide +kernel) (by decide +kernel)
set_option maxRecDepth 20000 in
theorem gL_law_X4_page : GoodIn vsL_law (wsV RL 108 RX4 yX4_page wsX4_page) := goodIn_app (goodIn_of _ (by decide +kernel)) ggL_law_X4_page
set_option maxRecDepth 20000 in
theorem ggL_law_X3_left : GoodIn vsL_law wsX3_left := goodIn_r _ [574, 26, 563, 564, 565, 25, 566, 264, 575, 576, 577, 578, 149, 40, 626, 627, 628, 629, 630, 631, 632, 633, 634, 676, 677, 678, 679, 680, 681, 682, 683, 684, 685] (by decide +kernel) (by decide +kernel)
set_option maxRecDepth 20000 in
theorem gL_law_X3_left : GoodIn vsL_law (wsV RL 109 RX3 yX3_left wsX3_left) := goodIn_app (goodIn_of _ (by decide +kernel)) ggL_law_X3_left
set_option maxRecDepth 20000 in
theorem ggL_law_X4_left : GoodIn vsL_law wsX4_left := goodIn_r _ [582, 79, 220, 60, 81, 82, 5, 83, 583, 584, 585, 586, 154, 51, 635, 636, 637, 638, 639, 640, 641, 642, 643, 644, 645, 646, 647, 648, 649, 650, 651, 652, 653, 654, 655, 656, 657, 658, 659, 660, 661] (by decide +kernel) (by decide +kernel)
set_option maxRecDepth 20000 in
theorem gL_law_X4_left : GoodIn vsL_law (wsV RL 112 RX4 yX4_left wsX4_left) := goodIn_app (goodIn_of _ (by decide +kernel)) ggL_law_X4_left
set_option maxRecDepth 20000 in
theorem ggL_law_X3_late : GoodIn vsL_law wsX3_late := goodIn_r _ [590, 26, 18, 190, 93, 94, 95, 2, 96, 88, 17, 195, 196, 197, 198, 591, 592, 593, 25, 594, 264, 41, 595, 596, 597, 598, 599, 576, 577, 578, 149, 40, 600, 601, 602, 603, 534, 490, 491, 492, 493, 42, 494, 495, 496, 497, 498, 115, 116, 117, 499, 500, 501, 502, 503, 504, 505, 506, 507, 508, 13, 509, 510, 511, 512, 513, 514, 515, 516, 535, 536, 537, 538, 539, 540, 541, 542, 543, 544, 545, 546, 547, 548, 549, 550, 604, 294, 295, 296, 297, 298, 299, 626, 627, 628, 629, 630, 631, 632, 633, 634, 676, 677, 678, 679, 680, 681, 682, 683, 684, 685] (by decide +kernel) (by decide +kernel)
set_option maxRecDepth 20000 in
theorem gL_law_X3_late : GoodIn vsL_law (wsV RL 113 RX3 yX3_late wsX3_late) := goodIn_app (goodIn_of _ (by decide +kernel)) ggL_law_X3_late
set_option maxRecDepth 20000 in
theorem ggL_law_X4_late : GoodIn vsL_law wsX4_late := goodIn_r _ [608, 79, 219, 220, 65, 59, 60, 66, 171, 172, 173, 5, 174, 154, 81, 82, 83, 609, 610, 611, 612, 521, 522, 523, 524, 64, 51, 525, 115, 116, 117, 450, 294, 295, 296, 297, 298, 299, 555, 556, 557, 558, 635, 636, 637, 638, 639, 640, 641, 642, 643, 644, 645, 646, 647, 648, 649, 650, 651, 652, 653, 654, 655, 656, 657, 658, 659, 660, 661] (by decide +kernel) (by decide +kernel)
set_option maxRecDepth 20000 in
theorem gL_law_X4_late : GoodIn vsL_law (wsV RL 116 RX4 yX4_late wsX4_late) := goodIn_app (goodIn_of _ (by decide +kernel)) ggL_law_X4_late
set_option maxRecDepth 20000 in
theorem ggL_law_X3_drop : GoodIn vsL_law wsX3_drop := goodIn_r _ [616, 26, 190, 93, 94, 95, 2, 96, 88, 17, 617, 618, 619, 25, 620, 264, 41, 621, 261, 262, 263, 626, 627, 628, 629, 630, 631, 632, 633, 634, 676, 677, 678, 679, 680, 681, 682, 683, 684, 685] (by decide +kernel) (by decide +kernel)
set_option maxRecDepth 20000 in
theorem gL_law_X3_drop : GoodIn vsL_law (wsV RL 117 RX3 yX3_drop wsX3_drop) := goodIn_app (goodIn_of _ (by decide +kernel)) ggL_law_X3_drop
set_option maxRecDepth 20000 in
theorem ggL_law_X4_drop : GoodIn vsL_law wsX4_drop := goodIn_r _ [625, 79, 60, 219, 171, 172, 173, 5, 174, 154, 81, 82, 83, 273, 274, 275, 276, 220, 635, 636, 637, 638, 639, 640, 641, 642, 643, 644, 645, 646, 647, 648, 649, 650, 651, 652, 653, 654, 655, 656, 657, 658, 659, 660, 661] (by decide +kernel) (by decide +kernel)
set_option maxRecDepth 20000 in
theorem gL_law_X4_drop : GoodIn vsL_law (wsV RL 120 RX4 yX4_drop wsX4_drop) := goodIn_app (goodIn_of _ (by decide +kernel)) ggL_law_X4_drop
