set_option maxRecDepth 20000 in
theorem ggX2_init_Jx4a65c_init_da8c8 : GoodIn wsX2_init wsJx4a65c_init_da8c8 := goodIn_r _ [10, 11, 12, 13, 14, 15, 16, 17, 18, 19, 20, 21, 22, 2, 3, 23, 24, 25] (by decide +kernel) (by decide +kernel)
set_option maxRecDepth 20000 in
theorem gX2_init_Jx4a65c_init_da8c8 : GoodIn wsX2_init (wsJx4a65c_init_da8c8) := ggX2_init_Jx4a65c_init_da8c8
set_option maxRecDepth 20000 in
theorem ggX3_ownUrgency_X3_isTimed : GoodIn wsX3_ownUrgency wsX3_isTimed := goodIn_r _ [8, 9, 10, 11, 12, 13, 14, 15, 16, 17, 18, 19, 20, 21, 22, 23, 24, 25] (by decide +kernel) (by decide +kernel)
set_option maxRecDepth 20000 in
theorem gX3_ownUrgency_X3_isTimed : GoodIn wsX3_ownUrgency (wsV RX3 40 RX3 yX3_isTimed wsX3_isTimed) := goodIn_app (goodIn_of _ (by decide +kernel)) ggX3_ownUrgency_X3_isTimed
set_option maxRecDepth 20000 in
theorem ggX4_init_Jx4a65c_init_da8c8 : GoodIn wsX4_init wsJx4a65c_init_da8c8 := goodIn_r _ [26, 27, 28, 29, 30, 31, 32, 33, 34, 35, 36, 37, 38, 2, 3, 105, 106, 107] (by decide +kernel) (by decide +kernel)
set_option maxRecDepth 20000 in
theorem gX4_init_Jx4a65c_init_da8c8 : GoodIn wsX4_init (wsJx4a65c_init_da8c8) := ggX4_init_Jx4a65c_init_da8c8
set_option maxRecDepth 20000 in
theorem ggX4_init_X1_init : GoodIn wsX4_init wsX1_init := goodIn_r _ [40, 41, 2, 3, 42, 43, 44, 45, 119, 120, 121, 122, 123, 124] (by decide +kernel) (by decide +kernel)
set_option maxRecDepth 20000 in
theorem gX4_init_X1_init_n29 : GoodIn wsX4_init (wsX1_init) := ggX4_init_X1_init
set_option maxRecDepth 20000 in
theorem ggX4_init_Jx4a65c_add_9ea2d : GoodIn wsX4_init wsJx4a65c_add_9ea2d := goodIn_r _ [49, 50, 51, 28, 52, 53, 54, 55, 6, 56, 57, 58, 59, 60, 61, 62, 63, 64, 27, 65, 66, 67, 68, 69, 70, 71, 72, 73, 74, 75, 76, 77, 78, 79, 80, 81, 82, 83, 84, 85, 86, 87, 88, 89, 90, 91, 92, 93, 94, 95, 96, 97, 98, 105, 106, 107] (by decide +kernel) (by decide +kernel)
set_option maxRecDepth 20000 in
theorem gX4_init_Jx4a65c_add_9ea2d : GoodIn wsX4_init (wsV RX4 55 RJx4a65c yJx4a65c_add_9ea2d wsJx4a65c_add_9ea2d) := goodIn_app (goodIn_of _ (by decide +kernel)) ggX4_init_Jx4a65c_add_9ea2d
set_option maxRecDepth 20000 in
theorem ggX4_init_X2_init : GoodIn wsX4_init wsX2_init := goodIn_r _ [100, 101, 2, 3, 102, 5, 6, 103, 104, 25, 26, 27, 28, 29, 30, 31, 32, 33, 34, 35, 36, 37, 38, 105, 106, 107, 125, 126] (by decide +kernel) (by decide +kernel)
set_option maxRecDepth 20000 in
theorem gX4_init_X2_init_n61 : GoodIn wsX4_init (wsX2_init) := ggX4_init_X2_init
set_option maxRecDepth 20000 in
theorem ggX4_addCore_Jx4a65c_size_8abf5 : GoodIn wsX4_addCore wsJx4a65c_size_8abf5 := goodIn_r _ [13, 14, 89, 90, 91] (by decide +kernel) (by decide +kernel)
set_option maxRecDepth 20000 in
theorem gX4_addCore_Jx4a65c_size_8abf5 : GoodIn wsX4_addCore (wsV RX4 69 RJx4a65c yJx4a65c_size_8abf5 wsJx4a65c_size_8abf5) := goodIn_app (goodIn_of _ (by decide +kernel)) ggX4_addCore_Jx4a65c_size_8abf5
set_option maxRecDepth 20000 in
theorem ggX4_addCore_X0_init : GoodIn wsX4_addCore wsX0_init := goodIn_r _ [16, 17, 18, 19, 20, 86, 87, 88] (by decide +kernel) (by decide +kernel)
set_option maxRecDepth 20000 in
theorem gX4_addCore_X0_init_n80 : GoodIn wsX4_addCore (wsX0_init) := ggX4_addCore_X0_init
set_option maxRecDepth 20000 in
theorem ggX4_addCore_Jx4a65c_add_9ea2d : GoodIn wsX4_addCore wsJx4a65c_add_9ea2d := goodIn_r _ [24, 25, 26, 27, 14, 28, 29, 30, 12, 31, 32, 33, 34, 35, 36, 37, 38, 39, 40, 41, 42, 43, 44, 45, 46, 47, 48, 49, 50, 51, 52, 53, 54, 55, 56, 57, 58, 59, 60, 61, 62, 63, 64, 65, 66, 67, 68, 69, 70, 71, 72, 73, 74, 89, 90, 91] (by decide +kernel) (by decide +kernel)
set_option maxRecDepth 20000 in
theorem gX4_addCore_Jx4a65c_add_9ea2d : GoodIn wsX4_addCore (wsV RX4 55 RJx4a65c yJx4a65c_add_9ea2d wsJx4a65c_add_9ea2d) := goodIn_app (goodIn_of _ (by decide +kernel)) ggX4_addCore_Jx4a65c_add_9ea2d
set_option maxRecDepth 20000 in
theorem ggX4_heat_X4_coreAt : GoodIn wsX4_heat wsX4_coreAt := goodIn_r _ [7, 8, 9, 10, 11, 12, 13, 14, 15, 16, 17, 18, 19, 20, 21, 22, 23, 24, 25, 26, 27, 28, 29, 30, 31, 32, 36, 37, 38, 39, 40, 41, 42, 43, 44, 45, 46, 47, 48, 49] (by decide +kernel) (by decide +kernel)
set_option maxRecDepth 20000 in
theorem gX4_heat_X4_coreAt : GoodIn wsX4_heat (wsV RX4 87 RX4 yX4_coreAt wsX4_coreAt) := goodIn_app (goodIn_of _ (by decide +kernel)) ggX4_heat_X4_coreAt
set_option maxRecDepth 20000 in
theorem ggX4_pace_X4_coreAt : GoodIn wsX4_pace wsX4_coreAt := goodIn_r _ [8, 9, 10, 11, 12, 13, 14, 15, 16, 17, 18, 19, 20, 21, 22, 23, 24, 25, 26, 27, 28, 29, 30, 31, 32, 33, 40, 41, 42, 43, 44, 45, 46, 47, 48, 49, 50, 51, 52, 53] (by decide +kernel) (by decide +kernel)
set_option maxRecDepth 20000 in
theorem gX4_pace_X4_coreAt : GoodIn wsX4_pace (wsV RX4 87 RX4 yX4_coreAt wsX4_coreAt) := goodIn_app (goodIn_of _ (by decide +kernel)) ggX4_pace_X4_coreAt
set_option maxRecDepth 20000 in
theorem ggX4_pace_X0_paceUnder : GoodIn wsX4_pace wsX0_paceUnder := goodIn_r _ [37, 38, 39, 54, 55, 56] (by decide +kernel) (by decide +kernel)
set_option maxRecDepth 20000 in
theorem gX4_pace_X0_paceUnder_n99 : GoodIn wsX4_pace (wsX0_paceUnder) := ggX4_pace_X0_paceUnder
set_option maxRecDepth 20000 in
theorem ggX4_addGroup_X4_groupAt : GoodIn wsX4_addGroup wsX4_groupAt := goodIn_r _ [15, 7, 16, 17, 18, 19, 20, 21, 22, 23, 24, 25, 26, 27, 28, 29, 30, 31, 32, 33, 34, 35, 36, 37, 38, 39, 112, 113, 114, 115, 116, 117, 118, 119, 120, 121, 122, 129, 130, 131] (by decide +kernel) (by decide +kernel)
set_option maxRecDepth 20000 in
theorem gX4_addGroup_X4_groupAt : GoodIn wsX4_addGroup (wsV RX4 103 RX4 yX4_groupAt wsX4_groupAt) := goodIn_app (goodIn_of _ (by decide +kernel)) ggX4_addGroup_X4_groupAt
set_option maxRecDepth 20000 in
theorem ggX4_addGroup_Jx4a65c_size_8abf5 : GoodIn wsX4_addGroup wsJx4a65c_size_8abf5 := goodIn_r _ [21, 22, 129, 130, 131] (by decide +kernel) (by decide +kernel)
set_option maxRecDepth 20000 in
theorem gX4_addGroup_Jx4a65c_size_8abf5 : GoodIn wsX4_addGroup (wsV RX4 69 RJx4a65c yJx4a65c_size_8abf5 wsJx4a65c_size_8abf5) := goodIn_app (goodIn_of _ (by decide +kernel)) ggX4_addGroup_Jx4a65c_size_8abf5
set_option maxRecDepth 20000 in
theorem ggX4_addGroup_X4_leastTimeIn : GoodIn wsX4_addGroup wsX4_leastTimeIn := goodIn_r _ [43, 44, 7, 16, 45, 46, 47, 48, 49, 50, 17, 18, 19, 20, 21, 22, 23, 24, 25, 26, 27, 28, 29, 30, 31, 32, 33, 34, 35, 36, 37, 38, 39, 112, 113, 114, 115, 116, 117, 118, 119, 120, 121, 122, 123, 124, 125, 126, 127, 128, 132, 133, 134, 135, 136, 137, 138, 139, 140, 141, 142, 143, 144, 145, 146, 147, 129, 130, 131] (by decide +kernel) (by decide +kernel)
set_option maxRecDepth 20000 in
theorem gX4_addGroup_X4_leastTimeIn : GoodIn wsX4_addGroup (wsV RX4 113 RX4 yX4_leastTimeIn wsX4_leastTimeIn) := goodIn_app (goodIn_of _ (by decide +kernel)) ggX4_addGroup_X4_leastTimeIn
set_option maxRecDepth 20000 in
theorem ggX4_addGroup_X1_init : GoodIn wsX4_addGroup wsX1_init := goodIn_r _ [52, 53, 54, 55, 56, 57, 58, 59, 123, 124, 125, 126, 127, 128] (by decide +kernel) (by decide +kernel)
set_option maxRecDepth 20000 in
theorem gX4_addGroup_X1_init_n29 : GoodIn wsX4_addGroup (wsX1_init) := ggX4_addGroup_X1_init
set_option maxRecDepth 20000 in
theorem ggX4_addGroup_Jx4a65c_add_9ea2d : GoodIn wsX4_addGroup wsJx4a65c_add_9ea2d := goodIn_r _ [63, 64, 65, 39, 22, 66, 67, 68, 20, 69, 70, 71, 72, 73, 74, 75, 76, 77, 78, 79, 80, 47, 81, 82, 83, 84, 85, 86, 87, 88, 89, 90, 91, 92, 93, 94, 95, 96, 97, 98, 99, 100, 101, 102, 103, 104, 105, 106, 107, 108, 109, 110, 111, 129, 130, 131] (by decide +kernel) (by decide +kernel)
set_option maxRecDepth 20000 in
theorem gX4_addGroup_Jx4a65c_add_9ea2d : GoodIn wsX4_addGroup (wsV RX4 55 RJx4a65c yJx4a65c_add_9ea2d wsJx4a65c_add_9ea2d) := goodIn_app (goodIn_of _ (by decide +kernel)) ggX4_addGroup_Jx4a65c_add_9ea2d
set_option maxRecDepth 20000 in
theorem ggX4_addPlain_X4_groupAt : GoodIn wsX4_addPlain wsX4_groupAt := goodIn_r _ [15, 16, 17, 18, 19, 20, 21, 22, 23, 24, 25, 26, 27, 28, 29, 30, 31, 32, 33, 34, 35, 36, 37, 38, 39, 40, 113, 114, 115, 116, 117, 118, 119, 120, 121, 122, 123, 140, 141, 142] (by decide +kernel) (by decide +kernel)
set_option maxRecDepth 20000 in
theorem gX4_addPlain_X4_groupAt : GoodIn wsX4_addPlain (wsV RX4 103 RX4 yX4_groupAt wsX4_groupAt) := goodIn_app (goodIn_of _ (by decide +kernel)) ggX4_addPlain_X4_groupAt
set_option maxRecDepth 20000 in
theorem ggX4_addPlain_Jx4a65c_size_8abf5 : GoodIn wsX4_addPlain wsJx4a65c_size_8abf5 := goodIn_r _ [22, 23, 140, 141, 142] (by decide +kernel) (by decide +kernel)
set_option maxRecDepth 20000 in
theorem gX4_addPlain_Jx4a65c_size_8abf5 : GoodIn wsX4_addPlain (wsV RX4 69 RJx4a65c yJx4a65c_size_8abf5 wsJx4a65c_size_8abf5) := goodIn_app (goodIn_of _ (by decide +kernel)) ggX4_addPlain_Jx4a65c_size_8abf5
set_option maxRecDepth 20000 in
theorem ggX4_addPlain_X4_leastTimeIn : GoodIn wsX4_addPlain wsX4_leastTimeIn := goodIn_r _ [44, 45, 16, 17, 46, 47, 48, 49, 7, 50, 18, 19, 20, 21, 22, 23, 24, 25, 26, 27, 28, 29, 30, 31, 32, 33, 34, 35, 36, 37, 38, 39, 40, 113, 114, 115, 116, 117, 118, 119, 120, 121, 122, 123, 143, 144, 145, 146, 147, 148, 124, 125, 126, 127, 128, 129, 130, 131, 132, 133, 134, 135, 136, 137, 138, 139, 140, 141, 142] (by decide +kernel) (by decide +kernel)
set_option maxRecDepth 20000 in
theorem gX4_addPlain_X4_leastTimeIn : GoodIn wsX4_addPlain (wsV RX4 113 RX4 yX4_leastTimeIn wsX4_leastTimeIn) := goodIn_app (goodIn_of _ (by decide +kernel)) ggX4_addPlain_X4_leastTimeIn
set_option maxRecDepth 20000 in
theorem ggX4_addPlain_X3_init : GoodIn wsX4_addPlain wsX3_init := goodIn_r _ [52, 53, 54, 55, 56, 57, 58, 59, 60, 124, 125, 126, 127, 128, 129, 130, 131, 132, 133, 134, 135, 136, 137, 138, 139] (by decide +kernel) (by decide +kernel)
set_option maxRecDepth 20000 in
theorem gX4_addPlain_X3_init_n123 : GoodIn wsX4_addPlain (wsX3_init) := ggX4_addPlain_X3_init
set_option maxRecDepth 20000 in
theorem ggX4_addPlain_Jx4a65c_add_9ea2d : GoodIn wsX4_addPlain wsJx4a65c_add_9ea2d := goodIn_r _ [64, 65, 66, 40, 23, 67, 68, 69, 21, 70, 71, 72, 73, 74, 75, 76, 77, 78, 79, 80, 81, 48, 82, 83, 84, 85, 86, 87, 88, 89, 90, 91, 92, 93, 94, 95, 96, 97, 98, 99, 100, 101, 102, 103, 104, 105, 106, 107, 108, 109, 110, 111, 112, 140, 141, 142] (by decide +kernel) (by decide +kernel)
set_option maxRecDepth 20000 in
theorem gX4_addPlain_Jx4a65c_add_9ea2d : GoodIn wsX4_addPlain (wsV RX4 55 RJx4a65c yJx4a65c_add_9ea2d wsJx4a65c_add_9ea2d) := goodIn_app (goodIn_of _ (by decide +kernel)) ggX4_addPlain_Jx4a65c_add_9ea2d
set_option maxRecDepth 20000 in
theorem ggX4_addTimed_X4_groupAt : GoodIn wsX4_addTimed wsX4_groupAt := goodIn_r _ [18, 19, 20, 21, 22, 23, 24, 25, 26, 27, 28, 29, 30, 31, 32, 33, 34, 35, 36, 37, 38, 39, 40, 41, 42, 43, 128, 129, 130, 131, 132, 133, 134, 135, 136, 137, 138, 155, 156, 157] (by decide +kernel) (by decide +kernel)
set_option maxRecDepth 20000 in
theorem gX4_addTimed_X4_groupAt : GoodIn wsX4_addTimed (wsV RX4 103 RX4 yX4_groupAt wsX4_groupAt) := goodIn_app (goodIn_of _ (by decide +kernel)) ggX4_addTimed_X4_groupAt
set_option maxRecDepth 20000 in
theorem ggX4_addTimed_X4_admitted : GoodIn wsX4_addTimed wsX4_admitted := goodIn_r _ [47, 9, 48, 21, 22, 23, 24, 25, 26, 27, 28, 29, 30, 31, 32, 33, 34, 35, 36, 37, 38, 39, 40, 41, 42, 43, 128, 129, 130, 131, 132, 133, 134, 135, 136, 137, 138, 139, 140, 141, 142, 143, 144, 145, 146, 147, 148, 149, 150, 151, 152, 153, 154, 155, 156, 157] (by decide +kernel) (by decide +kernel)
set_option maxRecDepth 20000 in
theorem gX4_addTimed_X4_admitted : GoodIn wsX4_addTimed (wsV RX4 126 RX4 yX4_admitted wsX4_admitted) := goodIn_app (goodIn_of _ (by decide +kernel)) ggX4_addTimed_X4_admitted
set_option maxRecDepth 20000 in
theorem ggX4_addTimed_X4_promise : GoodIn wsX4_addTimed wsX4_promise := goodIn_r _ [52, 53, 54, 55, 56, 57, 58, 59, 21, 22, 23, 24, 25, 26, 27, 28, 29, 30, 31, 32, 33, 34, 35, 36, 37, 38, 39, 40, 41, 42, 43, 128, 129, 130, 131, 132, 133, 134, 135, 136, 137, 138, 158, 159, 160, 155, 156, 157] (by decide +kernel) (by decide +kernel)
set_option maxRecDepth 20000 in
theorem gX4_addTimed_X4_promise : GoodIn wsX4_addTimed (wsV RX4 129 RX4 yX4_promise wsX4_promise) := goodIn_app (goodIn_of _ (by decide +kernel)) ggX4_addTimed_X4_promise
set_option maxRecDepth 20000 in
theorem ggX4_addTimed_Jx4a65c_size_8abf5 : GoodIn wsX4_addTimed wsJx4a65c_size_8abf5 := goodIn_r _ [25, 26, 155, 156, 157] (by decide +kernel) (by decide +kernel)
set_option maxRecDepth 20000 in
theorem gX4_addTimed_Jx4a65c_size_8abf5 : GoodIn wsX4_addTimed (wsV RX4 69 RJx4a65c yJx4a65c_size_8abf5 wsJx4a65c_size_8abf5) := goodIn_app (goodIn_of _ (by decide +kernel)) ggX4_addTimed_Jx4a65c_size_8abf5
set_option maxRecDepth 20000 in
theorem ggX4_addTimed_X4_leastTimeIn : GoodIn wsX4_addTimed wsX4_leastTimeIn := goodIn_r _ [63, 64, 19, 20, 65, 66, 58, 67, 9, 48, 21, 22, 23, 24, 25, 26, 27, 28, 29, 30, 31, 32, 33, 34, 35, 36, 37, 38, 39, 40, 41, 42, 43, 128, 129, 130, 131, 132, 133, 134, 135, 136, 137, 138, 161, 162, 163, 164, 165, 166, 139, 140, 141, 142, 143, 144, 145, 146, 147, 148, 149, 150, 151, 152, 153, 154, 155, 156, 157] (by decide +kernel) (by decide +kernel)
set_option maxRecDepth 20000 in
theorem gX4_addTimed_X4_leastTimeIn : GoodIn wsX4_addTimed (wsV RX4 113 RX4 yX4_leastTimeIn wsX4_leastTimeIn) := goodIn_app (goodIn_of _ (by decide +kernel)) ggX4_addTimed_X4_leastTimeIn
set_option maxRecDepth 20000 in
theorem ggX4_addTimed_X3_init : GoodIn wsX4_addTimed wsX3_init := goodIn_r _ [69, 70, 71, 72, 73, 74, 75, 76, 77, 139, 140, 141, 142, 143, 144, 145, 146, 147, 148, 149, 150, 151, 152, 153, 154] (by decide +kernel) (by decide +kernel)
set_option maxRecDepth 20000 in
theorem gX4_addTimed_X3_init_n123 : GoodIn wsX4_addTimed (wsX3_init) := ggX4_addTimed_X3_init
set_option maxRecDepth 20000 in
theorem ggX4_addTimed_Jx4a65c_add_9ea2d : GoodIn wsX4_addTimed wsJx4a65c_add_9ea2d := goodIn_r _ [81, 82, 83, 43, 26, 84, 85, 86, 24, 87, 88, 89, 90, 91, 92, 93, 94, 95, 96, 97, 98, 58, 99, 100, 101, 102, 103, 104, 105, 106, 107, 108, 109, 110, 111, 112, 113, 114, 115, 116, 117, 118, 119, 120, 121, 122, 123, 57, 59, 124, 125, 126, 127, 155, 156, 157] (by decide +kernel) (by decide +kernel)
set_option maxRecDepth 20000 in
theorem gX4_addTimed_Jx4a65c_add_9ea2d : GoodIn wsX4_addTimed (wsV RX4 55 RJx4a65c yJx4a65c_add_9ea2d wsJx4a65c_add_9ea2d) := goodIn_app (goodIn_of _ (by decide +kernel)) ggX4_addTimed_Jx4a65c_add_9ea2d
set_option maxRecDepth 20000 in
theorem ggX4_end_X4_taskAt : GoodIn wsX4_end wsX4_taskAt := goodIn_r _ [11, 12, 13, 14, 15, 16, 17, 18, 19, 20, 21, 22, 23, 24, 25, 26, 27, 28, 29, 30, 31, 32, 33, 34, 35, 36, 77, 78, 79, 80, 81, 82, 83, 84, 85, 86, 87, 90, 91, 92] (by decide +kernel) (by decide +kernel)
set_option maxRecDepth 20000 in
theorem gX4_end_X4_taskAt : GoodIn wsX4_end (wsV RX4 149 RX4 yX4_taskAt wsX4_taskAt) := goodIn_app (goodIn_of _ (by decide +kernel)) ggX4_end_X4_taskAt
set_option maxRecDepth 20000 in
theorem ggX4_end_X4_stopWaiting : GoodIn wsX4_end wsX4_stopWaiting := goodIn_r _ [39, 14, 15, 16, 17, 18, 19, 20, 21, 22, 23, 24, 25, 26, 27, 28, 29, 30, 31, 32, 33, 34, 35, 36, 40, 41, 42, 43, 44, 45, 46, 47, 48, 49, 50, 51, 52, 53, 61, 62, 63, 64, 65, 66, 67, 68, 69, 70, 71, 72, 73, 74, 75, 76, 88, 89, 90, 91, 92] (by decide +kernel) (by decide +kernel)
set_option maxRecDepth 20000 in
theorem gX4_end_X4_stopWaiting : GoodIn wsX4_end (va_wsS RX4 167 yX4_stopWaiting wsX4_stopWaiting) := goodIn_app (goodIn_of _ (by decide +kernel)) ggX4_end_X4_stopWaiting
set_option maxRecDepth 20000 in
theorem ggX4_end_Jx4a65c_size_8abf5 : GoodIn wsX4_end wsJx4a65c_size_8abf5 := goodIn_r _ [18, 19, 90, 91, 92] (by decide +kernel) (by decide +kernel)
set_option maxRecDepth 20000 in
theorem gX4_end_Jx4a65c_size_8abf5 : GoodIn wsX4_end (wsV RX4 69 RJx4a65c yJx4a65c_size_8abf5 wsJx4a65c_size_8abf5) := goodIn_app (goodIn_of _ (by decide +kernel)) ggX4_end_Jx4a65c_size_8abf5
set_option maxRecDepth 20000 in
theorem ggX4_end_Jx4a65c_get_915e3 : GoodIn wsX4_end wsJx4a65c_get_915e3 := goodIn_r _ [23, 19, 24, 25, 26, 27, 28, 29, 30, 31, 32, 33, 34, 17, 35, 36, 90, 91, 92] (by decide +kernel) (by decide +kernel)
set_option maxRecDepth 20000 in
theorem gX4_end_Jx4a65c_get_915e3 : GoodIn wsX4_end (wsV RX4 171 RJx4a65c yJx4a65c_get_915e3 wsJx4a65c_get_915e3) := goodIn_app (goodIn_of _ (by decide +kernel)) ggX4_end_Jx4a65c_get_915e3
set_option maxRecDepth 20000 in
theorem ggX4_end_X4_passOn : GoodIn wsX4_end wsX4_passOn := goodIn_r _ [56, 13, 57, 58, 59, 17, 60, 19, 40, 41, 42, 43, 36, 24, 25, 26, 27, 28, 29, 30, 31, 44, 45, 46, 47, 48, 49, 50, 51, 52, 53, 88, 89, 61, 62, 63, 64, 65, 66, 67, 68, 69, 70, 71, 72, 73, 74, 75, 76, 90, 91, 92] (by decide +kernel) (by decide +kernel)
set_option maxRecDepth 20000 in
theorem gX4_end_X4_passOn : GoodIn wsX4_end (va_wsS RX4 179 yX4_passOn wsX4_passOn) := goodIn_app (goodIn_of _ (by decide +kernel)) ggX4_end_X4_passOn
set_option maxRecDepth 20000 in
theorem ggX4_left_X4_taskAt : GoodIn wsX4_left wsX4_taskAt := goodIn_r _ [7, 8, 9, 10, 11, 12, 13, 14, 15, 16, 17, 18, 19, 20, 21, 22, 23, 24, 25, 26, 27, 28, 29, 30, 31, 32, 49, 50, 51, 52, 53, 54, 55, 56, 57, 58, 59, 60, 61, 62] (by decide +kernel) (by decide +kernel)
set_option maxRecDepth 20000 in
theorem gX4_left_X4_taskAt : GoodIn wsX4_left (wsV RX4 149 RX4 yX4_taskAt wsX4_taskAt) := goodIn_app (goodIn_of _ (by decide +kernel)) ggX4_left_X4_taskAt
set_option maxRecDepth 20000 in
theorem ggX4_stateOf_X4_taskAt : GoodIn wsX4_stateOf wsX4_taskAt := goodIn_r _ [7, 8, 9, 10, 11, 12, 13, 14, 15, 16, 17, 18, 19, 20, 21, 22, 23, 24, 25, 26, 27, 28, 29, 30, 31, 32, 56, 57, 58, 59, 60, 61, 62, 63, 64, 65, 66, 67, 68, 69] (by decide +kernel) (by decide +kernel)
set_option maxRecDepth 20000 in
theorem gX4_stateOf_X4_taskAt : GoodIn wsX4_stateOf (wsV RX4 149 RX4 yX4_taskAt wsX4_taskAt) := goodIn_app (goodIn_of _ (by decide +kernel)) ggX4_stateOf_X4_taskAt
set_option maxRecDepth 20000 in
theorem ggX4_stateOf_X3_isReady : GoodIn wsX4_stateOf wsX3_isReady := goodIn_r _ [36, 37, 38, 39, 40, 41, 42, 43, 44, 45, 46, 47, 48, 49, 50, 51, 52, 53, 54, 55] (by decide +kernel) (by decide +kernel)
set_option maxRecDepth 20000 in
theorem gX4_stateOf_X3_isReady_n187 : GoodIn wsX4_stateOf (wsX3_isReady) := ggX4_stateOf_X3_isReady
set_option maxRecDepth 20000 in
theorem ggX4_timeOf_X4_taskAt : GoodIn wsX4_timeOf wsX4_taskAt := goodIn_r _ [7, 8, 9, 10, 11, 12, 13, 14, 15, 16, 17, 18, 19, 20, 21, 22, 23, 24, 25, 26, 27, 28, 29, 30, 31, 32, 49, 50, 51, 52, 53, 54, 55, 56, 57, 58, 59, 60, 61, 62] (by decide +kernel) (by decide +kernel)
set_option maxRecDepth 20000 in
theorem gX4_timeOf_X4_taskAt : GoodIn wsX4_timeOf (wsV RX4 149 RX4 yX4_taskAt wsX4_taskAt) := goodIn_app (goodIn_of _ (by decide +kernel)) ggX4_timeOf_X4_taskAt
set_option maxRecDepth 20000 in
theorem ggX4_timeOfGroup_X4_groupAt : GoodIn wsX4_timeOfGroup wsX4_groupAt := goodIn_r _ [8, 9, 10, 11, 12, 13, 14, 15, 16, 17, 18, 19, 20, 21, 22, 23, 24, 25, 26, 27, 28, 29, 30, 31, 32, 33, 34, 35, 36, 37, 38, 39, 40, 41, 42, 43, 44, 51, 52, 53] (by decide +kernel) (by decide +kernel)
set_option maxRecDepth 20000 in
theorem gX4_timeOfGroup_X4_groupAt : GoodIn wsX4_timeOfGroup (wsV RX4 103 RX4 yX4_groupAt wsX4_groupAt) := goodIn_app (goodIn_of _ (by decide +kernel)) ggX4_timeOfGroup_X4_groupAt
set_option maxRecDepth 20000 in
theorem ggX4_doneBy_X4_taskAt : GoodIn wsX4_doneBy wsX4_taskAt := goodIn_r _ [7, 8, 9, 10, 11, 12, 13, 14, 15, 16, 17, 18, 19, 20, 21, 22, 23, 24, 25, 26, 27, 28, 29, 30, 31, 32, 49, 50, 51, 52, 53, 54, 55, 56, 57, 58, 59, 60, 61, 62] (by decide +kernel) (by decide +kernel)
set_option maxRecDepth 20000 in
theorem gX4_doneBy_X4_taskAt : GoodIn wsX4_doneBy (wsV RX4 149 RX4 yX4_taskAt wsX4_taskAt) := goodIn_app (goodIn_of _ (by decide +kernel)) ggX4_doneBy_X4_taskAt
set_option maxRecDepth 20000 in
theorem ggX4_doneIn_X4_groupAt : GoodIn wsX4_doneIn wsX4_groupAt := goodIn_r _ [7, 8, 9, 10, 11, 12, 13, 14, 15, 16, 17, 18, 19, 20, 21, 22, 23, 24, 25, 26, 27, 28, 29, 30, 31, 32, 39, 40, 41, 42, 43, 44, 45, 46, 47, 48, 49, 50, 51, 52] (by decide +kernel) (by decide +kernel)
set_option maxRecDepth 20000 in
theorem gX4_doneIn_X4_groupAt : GoodIn wsX4_doneIn (wsV RX4 103 RX4 yX4_groupAt wsX4_groupAt) := goodIn_app (goodIn_of _ (by decide +kernel)) ggX4_doneIn_X4_groupAt
set_option maxRecDepth 20000 in
theorem ggX4_admitted_Jx4a65c_size_8abf5 : GoodIn wsX4_admitted wsJx4a65c_size_8abf5 := goodIn_r _ [7, 8, 53, 54, 55] (by decide +kernel) (by decide +kernel)
set_option maxRecDepth 20000 in
theorem gX4_admitted_Jx4a65c_size_8abf5 : GoodIn wsX4_admitted (wsV RX4 69 RJx4a65c yJx4a65c_size_8abf5 wsJx4a65c_size_8abf5) := goodIn_app (goodIn_of _ (by decide +kernel)) ggX4_admitted_Jx4a65c_size_8abf5
set_option maxRecDepth 20000 in
theorem ggX4_admitted_Jx4a65c_get_915e3 : GoodIn wsX4_admitted wsJx4a65c_get_915e3 := goodIn_r _ [12, 8, 13, 14, 15, 16, 17, 18, 19, 20, 21, 22, 23, 6, 24, 25, 53, 54, 55] (by decide +kernel) (by decide +kernel)
set_option maxRecDepth 20000 in
theorem gX4_admitted_Jx4a65c_get_915e3 : GoodIn wsX4_admitted (wsV RX4 171 RJx4a65c yJx4a65c_get_915e3 wsJx4a65c_get_915e3) := goodIn_app (goodIn_of _ (by decide +kernel)) ggX4_admitted_Jx4a65c_get_915e3
set_option maxRecDepth 20000 in
theorem ggX4_promise_Jx4a65c_size_8abf5 : GoodIn wsX4_promise wsJx4a65c_size_8abf5 := goodIn_r _ [12, 13, 45, 46, 47] (by decide +kernel) (by decide +kernel)
set_option maxRecDepth 20000 in
theorem gX4_promise_Jx4a65c_size_8abf5 : GoodIn wsX4_promise (wsV RX4 69 RJx4a65c yJx4a65c_size_8abf5 wsJx4a65c_size_8abf5) := goodIn_app (goodIn_of _ (by decide +kernel)) ggX4_promise_Jx4a65c_size_8abf5
set_option maxRecDepth 20000 in
theorem ggX4_promise_Jx4a65c_get_915e3 : GoodIn wsX4_promise wsJx4a65c_get_915e3 := goodIn_r _ [17, 13, 18, 19, 20, 21, 22, 23, 24, 25, 26, 27, 28, 11, 29, 30, 45, 46, 47] (by decide +kernel) (by decide +kernel)
set_option maxRecDepth 20000 in
theorem gX4_promise_Jx4a65c_get_915e3 : GoodIn wsX4_promise (wsV RX4 171 RJx4a65c yJx4a65c_get_915e3 wsJx4a65c_get_915e3) := goodIn_app (goodIn_of _ (by decide +kernel)) ggX4_promise_Jx4a65c_get_915e3
set_option maxRecDepth 20000 in
theorem ggX4_deadlineOf_X4_taskAt : GoodIn wsX4_deadlineOf wsX4_taskAt := goodIn_r _ [9, 10, 11, 12, 13, 14, 15, 16, 17, 18, 19, 20, 21, 22, 23, 24, 25, 26, 27, 28, 29, 30, 31, 32, 33, 34, 56, 57, 58, 59, 60, 61, 62, 63, 64, 65, 66, 67, 68, 69] (by decide +kernel) (by decide +kernel)
set_option maxRecDepth 20000 in
theorem gX4_deadlineOf_X4_taskAt : GoodIn wsX4_deadlineOf (wsV RX4 149 RX4 yX4_taskAt wsX4_taskAt) := goodIn_app (goodIn_of _ (by decide +kernel)) ggX4_deadlineOf_X4_taskAt
set_option maxRecDepth 20000 in
theorem ggX4_deadlineOf_X3_isTimed : GoodIn wsX4_deadlineOf wsX3_isTimed := goodIn_r _ [38, 39, 40, 41, 42, 43, 44, 45, 46, 47, 48, 49, 50, 51, 52, 53, 54, 55] (by decide +kernel) (by decide +kernel)
set_option maxRecDepth 20000 in
theorem gX4_deadlineOf_X3_isTimed_n211 : GoodIn wsX4_deadlineOf (wsX3_isTimed) := ggX4_deadlineOf_X3_isTimed
set_option maxRecDepth 20000 in
theorem ggX4_urgencyOf_X4_taskAt : GoodIn wsX4_urgencyOf wsX4_taskAt := goodIn_r _ [8, 9, 10, 11, 12, 13, 14, 15, 16, 17, 18, 19, 20, 21, 22, 23, 24, 25, 26, 27, 28, 29, 30, 31, 32, 33, 76, 77, 78, 79, 80, 81, 82, 83, 84, 85, 86, 87, 88, 89] (by decide +kernel) (by decide +kernel)
set_option maxRecDepth 20000 in
theorem gX4_urgencyOf_X4_taskAt : GoodIn wsX4_urgencyOf (wsV RX4 149 RX4 yX4_taskAt wsX4_taskAt) := goodIn_app (goodIn_of _ (by decide +kernel)) ggX4_urgencyOf_X4_taskAt
set_option maxRecDepth 20000 in
theorem ggX4_urgencyOf_X4_lendUrgencies : GoodIn wsX4_urgencyOf wsX4_lendUrgencies := goodIn_r _ [37, 9, 10, 11, 12, 13, 14, 15, 16, 17, 18, 19, 20, 21, 22, 23, 24, 25, 26, 27, 28, 29, 30, 31, 32, 33, 38, 39, 40, 41, 42, 43, 44, 45, 46, 47, 48, 49, 50, 51, 7, 52, 53, 54, 55, 56, 57, 58, 59, 76, 77, 78, 79, 80, 81, 82, 83, 84, 85, 86, 60, 61, 62, 63, 64, 65, 66, 67, 68, 69, 70, 71, 72, 73, 74, 75, 87, 88, 89, 90, 91] (by decide +kernel) (by decide +kernel)
set_option maxRecDepth 20000 in
theorem gX4_urgencyOf_X4_lendUrgencies : GoodIn wsX4_urgencyOf (wsV RX4 216 RX4 yX4_lendUrgencies wsX4_lendUrgencies) := goodIn_app (goodIn_of _ (by decide +kernel)) ggX4_urgencyOf_X4_lendUrgencies
set_option maxRecDepth 20000 in
theorem ggX4_missesOf_X4_taskAt : GoodIn wsX4_missesOf wsX4_taskAt := goodIn_r _ [7, 8, 9, 10, 11, 12, 13, 14, 15, 16, 17, 18, 19, 20, 21, 22, 23, 24, 25, 26, 27, 28, 29, 30, 31, 32, 49, 50, 51, 52, 53, 54, 55, 56, 57, 58, 59, 60, 61, 62] (by decide +kernel) (by decide +kernel)
set_option maxRecDepth 20000 in
theorem gX4_missesOf_X4_taskAt : GoodIn wsX4_missesOf (wsV RX4 149 RX4 yX4_taskAt wsX4_taskAt) := goodIn_app (goodIn_of _ (by decide +kernel)) ggX4_missesOf_X4_taskAt
set_option maxRecDepth 20000 in
theorem ggX4_misses_Jx4a65c_size_8abf5 : GoodIn wsX4_misses wsJx4a65c_size_8abf5 := goodIn_r _ [7, 8, 53, 54, 55] (by decide +kernel) (by decide +kernel)
set_option maxRecDepth 20000 in
theorem gX4_misses_Jx4a65c_size_8abf5 : GoodIn wsX4_misses (wsV RX4 69 RJx4a65c yJx4a65c_size_8abf5 wsJx4a65c_size_8abf5) := goodIn_app (goodIn_of _ (by decide +kernel)) ggX4_misses_Jx4a65c_size_8abf5
set_option maxRecDepth 20000 in
theorem ggX4_misses_Jx4a65c_get_915e3 : GoodIn wsX4_misses wsJx4a65c_get_915e3 := goodIn_r _ [12, 8, 13, 14, 15, 16, 17, 18, 19, 20, 21, 22, 23, 6, 24, 25, 53, 54, 55] (by decide +kernel) (by decide +kernel)
set_option maxRecDepth 20000 in
theorem gX4_misses_Jx4a65c_get_915e3 : GoodIn wsX4_misses (wsV RX4 171 RJx4a65c yJx4a65c_get_915e3 wsJx4a65c_get_915e3) := goodIn_app (goodIn_of _ (by decide +kernel)) ggX4_misses_Jx4a65c_get_915e3
set_option maxRecDepth 20000 in
theorem ggX4_take_X4_taskAt : GoodIn wsX4_take wsX4_taskAt := goodIn_r _ [13, 14, 15, 16, 17, 18, 19, 20, 21, 22, 23, 24, 25, 26, 27, 28, 29, 30, 31, 32, 33, 34, 35, 36, 37, 38, 122, 123, 124, 125, 126, 127, 128, 129, 130, 131, 132, 133, 134, 135] (by decide +kernel) (by decide +kernel)
set_option maxRecDepth 20000 in
theorem gX4_take_X4_taskAt : GoodIn wsX4_take (wsV RX4 149 RX4 yX4_taskAt wsX4_taskAt) := goodIn_app (goodIn_of _ (by decide +kernel)) ggX4_take_X4_taskAt
set_option maxRecDepth 20000 in
theorem ggX4_take_X4_lockAt : GoodIn wsX4_take wsX4_lockAt := goodIn_r _ [42, 43, 44, 16, 17, 18, 19, 20, 21, 22, 23, 24, 25, 26, 27, 28, 29, 30, 31, 32, 33, 34, 35, 36, 37, 38, 122, 123, 124, 125, 126, 127, 128, 129, 130, 131, 132, 133, 134, 135] (by decide +kernel) (by decide +kernel)
set_option maxRecDepth 20000 in
theorem gX4_take_X4_lockAt : GoodIn wsX4_take (wsV RX4 228 RX4 yX4_lockAt wsX4_lockAt) := goodIn_app (goodIn_of _ (by decide +kernel)) ggX4_take_X4_lockAt
set_option maxRecDepth 20000 in
theorem ggX4_take_X4_waitsInTheEndFor : GoodIn wsX4_take wsX4_waitsInTheEndFor := goodIn_r _ [47, 48, 49, 12, 50, 104, 105, 106, 107, 108, 109, 110, 111, 112, 113, 114, 115, 116, 117, 118, 119, 120, 121] (by decide +kernel) (by decide +kernel)
set_option maxRecDepth 20000 in
theorem gX4_take_X4_waitsInTheEndFor : GoodIn wsX4_take (va_wsS RX4 236 yX4_waitsInTheEndFor wsX4_waitsInTheEndFor) := goodIn_app (goodIn_of _ (by decide +kernel)) ggX4_take_X4_waitsInTheEndFor
set_option maxRecDepth 20000 in
theorem ggX4_take_Jx4a65c_add_9ea2d : GoodIn wsX4_take wsJx4a65c_add_9ea2d := goodIn_r _ [54, 55, 56, 38, 21, 57, 58, 59, 19, 60, 61, 62, 63, 64, 65, 66, 67, 68, 69, 70, 71, 72, 73, 74, 75, 76, 77, 78, 79, 80, 81, 82, 83, 84, 85, 86, 87, 88, 89, 90, 91, 92, 93, 94, 95, 96, 97, 98, 99, 100, 101, 102, 103, 133, 134, 135] (by decide +kernel) (by decide +kernel)
set_option maxRecDepth 20000 in
theorem gX4_take_Jx4a65c_add_9ea2d : GoodIn wsX4_take (wsV RX4 55 RJx4a65c yJx4a65c_add_9ea2d wsJx4a65c_add_9ea2d) := goodIn_app (goodIn_of _ (by decide +kernel)) ggX4_take_Jx4a65c_add_9ea2d
set_option maxRecDepth 20000 in
theorem ggX4_release_X4_lockAt : GoodIn wsX4_release wsX4_lockAt := goodIn_r _ [9, 10, 11, 12, 13, 14, 15, 16, 17, 18, 19, 20, 21, 22, 23, 24, 25, 26, 27, 28, 29, 30, 31, 32, 33, 34, 62, 63, 64, 65, 66, 67, 68, 69, 70, 71, 72, 73, 74, 75] (by decide +kernel) (by decide +kernel)
set_option maxRecDepth 20000 in
theorem gX4_release_X4_lockAt : GoodIn wsX4_release (wsV RX4 228 RX4 yX4_lockAt wsX4_lockAt) := goodIn_app (goodIn_of _ (by decide +kernel)) ggX4_release_X4_lockAt
set_option maxRecDepth 20000 in
theorem ggX4_release_X4_passOn : GoodIn wsX4_release wsX4_passOn := goodIn_r _ [37, 38, 39, 40, 41, 15, 42, 17, 43, 44, 45, 46, 34, 22, 23, 24, 25, 26, 27, 28, 29, 47, 48, 49, 50, 51, 52, 53, 54, 55, 56, 60, 61, 76, 77, 78, 79, 80, 81, 82, 83, 84, 85, 86, 87, 88, 89, 90, 91, 73, 74, 75] (by decide +kernel) (by decide +kernel)
set_option maxRecDepth 20000 in
theorem gX4_release_X4_passOn : GoodIn wsX4_release (va_wsS RX4 179 yX4_passOn wsX4_passOn) := goodIn_app (goodIn_of _ (by decide +kernel)) ggX4_release_X4_passOn
set_option maxRecDepth 20000 in
theorem ggX4_release_X4_numberOf : GoodIn wsX4_release wsX4_numberOf := goodIn_r _ [59, 76, 77, 78, 79, 80, 81, 82, 83, 84, 85, 86, 87, 88, 89, 90, 91] (by decide +kernel) (by decide +kernel)
set_option maxRecDepth 20000 in
theorem gX4_release_X4_numberOf : GoodIn wsX4_release (va_wsS RX4 247 yX4_numberOf wsX4_numberOf) := goodIn_app (goodIn_of _ (by decide +kernel)) ggX4_release_X4_numberOf
set_option maxRecDepth 20000 in
theorem ggX4_holderOf_X4_lockAt : GoodIn wsX4_holderOf wsX4_lockAt := goodIn_r _ [7, 8, 9, 10, 11, 12, 13, 14, 15, 16, 17, 18, 19, 20, 21, 22, 23, 24, 25, 26, 27, 28, 29, 30, 31, 32, 38, 39, 40, 41, 42, 43, 44, 45, 46, 47, 48, 49, 50, 51] (by decide +kernel) (by decide +kernel)
set_option maxRecDepth 20000 in
theorem gX4_holderOf_X4_lockAt : GoodIn wsX4_holderOf (wsV RX4 228 RX4 yX4_lockAt wsX4_lockAt) := goodIn_app (goodIn_of _ (by decide +kernel)) ggX4_holderOf_X4_lockAt
set_option maxRecDepth 20000 in
theorem ggX4_holderOf_X4_numberOf : GoodIn wsX4_holderOf wsX4_numberOf := goodIn_r _ [35, 52, 53, 54, 55, 56, 57, 58, 59, 60, 61, 62, 63, 64, 65, 66, 67] (by decide +kernel) (by decide +kernel)
set_option maxRecDepth 20000 in
theorem gX4_holderOf_X4_numberOf : GoodIn wsX4_holderOf (va_wsS RX4 247 yX4_numberOf wsX4_numberOf) := goodIn_app (goodIn_of _ (by decide +kernel)) ggX4_holderOf_X4_numberOf
set_option maxRecDepth 20000 in
theorem ggX4_waiterAt_X4_lockAt : GoodIn wsX4_waiterAt wsX4_lockAt := goodIn_r _ [10, 11, 12, 13, 14, 15, 16, 17, 18, 19, 20, 21, 22, 23, 24, 25, 26, 27, 28, 29, 30, 31, 32, 33, 34, 35, 41, 42, 43, 44, 45, 46, 47, 48, 49, 50, 51, 52, 53, 54] (by decide +kernel) (by decide +kernel)
set_option maxRecDepth 20000 in
theorem gX4_waiterAt_X4_lockAt : GoodIn wsX4_waiterAt (wsV RX4 228 RX4 yX4_lockAt wsX4_lockAt) := goodIn_app (goodIn_of _ (by decide +kernel)) ggX4_waiterAt_X4_lockAt
set_option maxRecDepth 20000 in
theorem ggX4_waiterAt_Jx4a65c_size_8abf5 : GoodIn wsX4_waiterAt wsJx4a65c_size_8abf5 := goodIn_r _ [17, 18, 52, 53, 54] (by decide +kernel) (by decide +kernel)
set_option maxRecDepth 20000 in
theorem gX4_waiterAt_Jx4a65c_size_8abf5 : GoodIn wsX4_waiterAt (wsV RX4 69 RJx4a65c yJx4a65c_size_8abf5 wsJx4a65c_size_8abf5) := goodIn_app (goodIn_of _ (by decide +kernel)) ggX4_waiterAt_Jx4a65c_size_8abf5
set_option maxRecDepth 20000 in
theorem ggX4_waiterAt_Jx4a65c_get_915e3 : GoodIn wsX4_waiterAt wsJx4a65c_get_915e3 := goodIn_r _ [22, 18, 23, 24, 25, 26, 27, 28, 29, 30, 31, 32, 33, 16, 34, 35, 52, 53, 54] (by decide +kernel) (by decide +kernel)
set_option maxRecDepth 20000 in
theorem gX4_waiterAt_Jx4a65c_get_915e3 : GoodIn wsX4_waiterAt (wsV RX4 171 RJx4a65c yJx4a65c_get_915e3 wsJx4a65c_get_915e3) := goodIn_app (goodIn_of _ (by decide +kernel)) ggX4_waiterAt_Jx4a65c_get_915e3
set_option maxRecDepth 20000 in
theorem ggX4_waiterAt_X4_numberOf : GoodIn wsX4_waiterAt wsX4_numberOf := goodIn_r _ [38, 55, 56, 57, 58, 59, 60, 61, 62, 63, 64, 65, 66, 67, 68, 69, 70] (by decide +kernel) (by decide +kernel)
set_option maxRecDepth 20000 in
theorem gX4_waiterAt_X4_numberOf : GoodIn wsX4_waiterAt (va_wsS RX4 247 yX4_numberOf wsX4_numberOf) := goodIn_app (goodIn_of _ (by decide +kernel)) ggX4_waiterAt_X4_numberOf
set_option maxRecDepth 20000 in
theorem ggX4_choice_X4_coreAt : GoodIn wsX4_choice wsX4_coreAt := goodIn_r _ [7, 8, 9, 10, 11, 12, 13, 14, 15, 16, 17, 18, 19, 20, 21, 22, 23, 24, 25, 26, 27, 28, 29, 30, 31, 32, 118, 119, 120, 121, 122, 123, 124, 125, 126, 127, 128, 129, 130, 131] (by decide +kernel) (by decide +kernel)
set_option maxRecDepth 20000 in
theorem gX4_choice_X4_coreAt : GoodIn wsX4_choice (wsV RX4 87 RX4 yX4_coreAt wsX4_coreAt) := goodIn_app (goodIn_of _ (by decide +kernel)) ggX4_choice_X4_coreAt
set_option maxRecDepth 20000 in
theorem ggX4_choice_X4_chooseForAllCores : GoodIn wsX4_choice wsX4_chooseForAllCores := goodIn_r _ [36, 37, 38, 8, 9, 39, 40, 41, 42, 43, 6, 44, 10, 11, 12, 13, 14, 15, 16, 17, 18, 19, 20, 21, 22, 23, 24, 25, 26, 27, 28, 29, 30, 31, 32, 45, 46, 47, 48, 49, 50, 51, 52, 53, 54, 55, 56, 57, 58, 59, 60, 61, 62, 63, 64, 65, 66, 67, 68, 69, 70, 71, 72, 73, 74, 75, 76, 77, 78, 79, 80, 81, 82, 83, 84, 85, 86, 87, 88, 89, 90, 91, 92, 93, 94, 95, 96, 97, 98, 99, 100, 101, 102, 103, 104, 105, 106, 107, 108, 109, 110, 111, 118, 119, 120, 121, 122, 123, 124, 125, 126, 127, 128, 132, 133, 134, 135, 136, 137, 138, 139, 140, 141, 142, 143, 144, 145, 146, 147, 115, 116, 117, 129, 130, 131, 148, 149, 150, 151, 152, 153, 154, 155] (by decide +kernel) (by decide +kernel)
set_option maxRecDepth 20000 in
theorem gX4_choice_X4_chooseForAllCores : GoodIn wsX4_choice (wsV RX4 253 RX4 yX4_chooseForAllCores wsX4_chooseForAllCores) := goodIn_app (goodIn_of _ (by decide +kernel)) ggX4_choice_X4_chooseForAllCores
set_option maxRecDepth 20000 in
theorem ggX4_choice_X4_numberOf : GoodIn wsX4_choice wsX4_numberOf := goodIn_r _ [114, 132, 133, 134, 135, 136, 137, 138, 139, 140, 141, 142, 143, 144, 145, 146, 147] (by decide +kernel) (by decide +kernel)
set_option maxRecDepth 20000 in
theorem gX4_choice_X4_numberOf : GoodIn wsX4_choice (va_wsS RX4 247 yX4_numberOf wsX4_numberOf) := goodIn_app (goodIn_of _ (by decide +kernel)) ggX4_choice_X4_numberOf
set_option maxRecDepth 20000 in
theorem ggX4_choiceByComparing_X4_coreAt : GoodIn wsX4_choiceByComparing wsX4_coreAt := goodIn_r _ [7, 8, 9, 10, 11, 12, 13, 14, 15, 16, 17, 18, 19, 20, 21, 22, 23, 24, 25, 26, 27, 28, 29, 30, 31, 32, 118, 119, 120, 121, 122, 123, 124, 125, 126, 127, 128, 129, 130, 131] (by decide +kernel) (by decide +kernel)
set_option maxRecDepth 20000 in
theorem gX4_choiceByComparing_X4_coreAt : GoodIn wsX4_choiceByComparing (wsV RX4 87 RX4 yX4_coreAt wsX4_coreAt) := goodIn_app (goodIn_of _ (by decide +kernel)) ggX4_choiceByComparing_X4_coreAt
set_option maxRecDepth 20000 in
theorem ggX4_choiceByComparing_X4_chooseForAllCores : GoodIn wsX4_choiceByComparing wsX4_chooseForAllCores := goodIn_r _ [36, 37, 38, 8, 9, 39, 40, 41, 42, 43, 6, 44, 10, 11, 12, 13, 14, 15, 16, 17, 18, 19, 20, 21, 22, 23, 24, 25, 26, 27, 28, 29, 30, 31, 32, 45, 46, 47, 48, 49, 50, 51, 52, 53, 54, 55, 56, 57, 58, 59, 60, 61, 62, 63, 64, 65, 66, 67, 68, 69, 70, 71, 72, 73, 74, 75, 76, 77, 78, 79, 80, 81, 82, 83, 84, 85, 86, 87, 88, 89, 90, 91, 92, 93, 94, 95, 96, 97, 98, 99, 100, 101, 102, 103, 104, 105, 106, 107, 108, 109, 110, 111, 118, 119, 120, 121, 122, 123, 124, 125, 126, 127, 128, 132, 133, 134, 135, 136, 137, 138, 139, 140, 141, 142, 143, 144, 145, 146, 147, 115, 116, 117, 129, 130, 131, 148, 149, 150, 151, 152, 153, 154, 155] (by decide +kernel) (by decide +kernel)
set_option maxRecDepth 20000 in
theorem gX4_choiceByComparing_X4_chooseForAllCores : GoodIn wsX4_choiceByComparing (wsV RX4 253 RX4 yX4_chooseForAllCores wsX4_chooseForAllCores) := goodIn_app (goodIn_of _ (by decide +kernel)) ggX4_choiceByComparing_X4_chooseForAllCores
set_option maxRecDepth 20000 in
theorem ggX4_choiceByComparing_X4_numberOf : GoodIn wsX4_choiceByComparing wsX4_numberOf := goodIn_r _ [114, 132, 133, 134, 135, 136, 137, 138, 139, 140, 141, 142, 143, 144, 145, 146, 147] (by decide +kernel) (by decide +kernel)
set_option maxRecDepth 20000 in
theorem gX4_choiceByComparing_X4_numberOf : GoodIn wsX4_choiceByComparing (va_wsS RX4 247 yX4_numberOf wsX4_numberOf) := goodIn_app (goodIn_of _ (by decide +kernel)) ggX4_choiceByComparing_X4_numberOf
set_option maxRecDepth 20000 in
theorem ggX4_pass_X4_passOneTick : GoodIn wsX4_pass wsX4_passOneTick := goodIn_r _ [11, 12, 13, 14, 5, 15, 16, 17, 10, 18, 19, 20, 21, 22, 23, 24, 25, 26, 27, 28, 29, 30, 31, 32, 33, 34, 35, 36, 37, 38, 39, 40, 41, 42, 43, 44, 45, 46, 47, 48, 49, 50, 51, 52, 53, 54, 55, 56, 57, 58, 59, 60, 61, 62, 63, 64, 65, 66, 67, 68, 69, 70, 71, 72, 73, 74, 75, 76, 77, 78, 79, 80, 81, 82, 83, 84, 85, 86, 87, 88, 89, 90, 6, 91, 92, 93, 94, 95, 96, 97, 98, 99, 100, 101, 102, 103, 104, 105, 106, 107, 108, 109, 110, 111, 112, 113, 114, 115, 116, 117, 118, 119, 120, 121, 122, 123, 124, 125, 126, 127, 128, 129, 130, 131, 132, 133, 134, 135, 136, 137, 138, 139, 140, 141, 142, 143, 150, 151, 152, 153, 154, 155, 156, 157, 158, 159, 160, 161, 162, 163, 164, 165, 166, 167, 168, 169, 170, 171, 172, 173, 144, 145, 146, 147, 148, 149] (by decide +kernel) (by decide +kernel)
set_option maxRecDepth 20000 in
theorem gX4_pass_X4_passOneTick : GoodIn wsX4_pass (wsV RX4 264 RX4 yX4_passOneTick wsX4_passOneTick) := goodIn_app (goodIn_of _ (by decide +kernel)) ggX4_pass_X4_passOneTick
set_option maxRecDepth 20000 in
theorem ggX4_meanHeat_Jx4a65c_size_8abf5 : GoodIn wsX4_meanHeat wsJx4a65c_size_8abf5 := goodIn_r _ [9, 10, 42, 43, 44] (by decide +kernel) (by decide +kernel)
set_option maxRecDepth 20000 in
theorem gX4_meanHeat_Jx4a65c_size_8abf5 : GoodIn wsX4_meanHeat (wsV RX4 69 RJx4a65c yJx4a65c_size_8abf5 wsJx4a65c_size_8abf5) := goodIn_app (goodIn_of _ (by decide +kernel)) ggX4_meanHeat_Jx4a65c_size_8abf5
set_option maxRecDepth 20000 in
theorem ggX4_meanHeat_Jx4a65c_get_915e3 : GoodIn wsX4_meanHeat wsJx4a65c_get_915e3 := goodIn_r _ [14, 10, 15, 16, 17, 18, 19, 20, 21, 22, 23, 24, 25, 8, 26, 27, 42, 43, 44] (by decide +kernel) (by decide +kernel)
set_option maxRecDepth 20000 in
theorem gX4_meanHeat_Jx4a65c_get_915e3 : GoodIn wsX4_meanHeat (wsV RX4 171 RJx4a65c yJx4a65c_get_915e3 wsJx4a65c_get_915e3) := goodIn_app (goodIn_of _ (by decide +kernel)) ggX4_meanHeat_Jx4a65c_get_915e3
set_option maxRecDepth 20000 in
theorem ggX4_isSound_X4_bothWaysChooseAlike : GoodIn wsX4_isSound wsX4_bothWaysChooseAlike := goodIn_ca (goodIn_r _ [5, 6, 7, 8, 9, 10, 11, 12, 13, 14, 15, 4, 16, 17, 18, 19, 20, 21, 22, 23, 24, 25, 26, 27, 28, 29, 30, 31, 32, 33, 34, 35, 36, 37, 38, 39, 40, 41, 42, 43, 44, 45, 46, 47, 48, 49, 50, 51, 52, 53, 54, 55, 56, 57, 58, 59, 60, 61, 62, 63, 64, 65, 66, 67, 68, 69, 70, 71, 72, 73, 74, 75, 76, 77, 78, 79, 80, 81, 82, 83, 84, 85, 86, 87, 88, 89, 90, 91, 92, 93, 94, 95, 96, 97, 98, 99, 100, 101, 102, 103, 104, 105, 106, 107, 108, 109, 110, 111, 112, 113, 114, 115, 116, 117, 118, 119, 120, 121, 122, 123, 124, 125, 126, 135, 136, 137, 138, 139, 140, 141, 142, 143, 144, 145, 146, 147, 148, 149, 150, 151, 152, 153, 154, 155, 156, 157, 158, 159, 160, 161, 162, 163, 164, 165, 166, 167, 168, 169, 170, 171, 172, 173, 174, 175] (by decide +kernel) (by decide +kernel)) (goodIn_sub (fun _ h => List.mem_cons_of_mem _ (List.mem_append_right _ h)) (by decide +kernel))
set_option maxRecDepth 20000 in
theorem gX4_isSound_X4_bothWaysChooseAlike : GoodIn wsX4_isSound (wsV RX4 274 RX4 yX4_bothWaysChooseAlike wsX4_bothWaysChooseAlike) := goodIn_app (goodIn_of _ (by decide +kernel)) ggX4_isSound_X4_bothWaysChooseAlike
set_option maxRecDepth 20000 in
theorem ggX4_isSound_X4_doneAddsUp : GoodIn wsX4_isSound wsX4_doneAddsUp := goodIn_r _ [130, 45, 46, 90, 7, 8, 9, 10, 11, 12, 24, 25, 26, 27, 28, 29, 30, 31, 32, 33, 34, 35, 36, 37, 38, 39, 40, 135, 136, 137, 138, 139, 140, 141, 142, 143, 144, 145, 152, 153, 154, 155, 156, 157, 158, 159, 160, 161, 162, 163, 164, 165, 166, 167, 170, 171, 172, 173, 174, 175, 146, 147, 148] (by decide +kernel) (by decide +kernel)
set_option maxRecDepth 20000 in
theorem gX4_isSound_X4_doneAddsUp : GoodIn wsX4_isSound (wsV RX4 277 RX4 yX4_doneAddsUp wsX4_doneAddsUp) := goodIn_app (goodIn_of _ (by decide +kernel)) ggX4_isSound_X4_doneAddsUp
set_option maxRecDepth 20000 in
theorem ggX4_isSound_X4_noneWaitsForItself : GoodIn wsX4_isSound wsX4_noneWaitsForItself := goodIn_r _ [134, 45, 46, 7, 8, 9, 10, 11, 12, 24, 25, 26, 27, 28, 29, 30, 31, 32, 33, 34, 35, 36, 37, 38, 39, 40, 135, 136, 137, 138, 139, 140, 141, 142, 143, 144, 145, 152, 153, 154, 155, 156, 157, 158, 159, 160, 161, 162, 163, 164, 165, 166, 167, 168, 169, 146, 147, 148] (by decide +kernel) (by decide +kernel)
set_option maxRecDepth 20000 in
theorem gX4_isSound_X4_noneWaitsForItself : GoodIn wsX4_isSound (wsV RX4 280 RX4 yX4_noneWaitsForItself wsX4_noneWaitsForItself) := goodIn_app (goodIn_of _ (by decide +kernel)) ggX4_isSound_X4_noneWaitsForItself
set_option maxRecDepth 20000 in
theorem ggX4_coreAt_Jx4a65c_size_8abf5 : GoodIn wsX4_coreAt wsJx4a65c_size_8abf5 := goodIn_r _ [7, 8, 37, 38, 39] (by decide +kernel) (by decide +kernel)
set_option maxRecDepth 20000 in
theorem gX4_coreAt_Jx4a65c_size_8abf5 : GoodIn wsX4_coreAt (wsV RX4 69 RJx4a65c yJx4a65c_size_8abf5 wsJx4a65c_size_8abf5) := goodIn_app (goodIn_of _ (by decide +kernel)) ggX4_coreAt_Jx4a65c_size_8abf5
set_option maxRecDepth 20000 in
theorem ggX4_coreAt_Jx4a65c_get_915e3 : GoodIn wsX4_coreAt wsJx4a65c_get_915e3 := goodIn_r _ [12, 8, 13, 14, 15, 16, 17, 18, 19, 20, 21, 22, 23, 6, 24, 25, 37, 38, 39] (by decide +kernel) (by decide +kernel)
set_option maxRecDepth 20000 in
theorem gX4_coreAt_Jx4a65c_get_915e3 : GoodIn wsX4_coreAt (wsV RX4 171 RJx4a65c yJx4a65c_get_915e3 wsJx4a65c_get_915e3) := goodIn_app (goodIn_of _ (by decide +kernel)) ggX4_coreAt_Jx4a65c_get_915e3
set_option maxRecDepth 20000 in
theorem ggX4_groupAt_Jx4a65c_size_8abf5 : GoodIn wsX4_groupAt wsJx4a65c_size_8abf5 := goodIn_r _ [7, 8, 37, 38, 39] (by decide +kernel) (by decide +kernel)
set_option maxRecDepth 20000 in
theorem gX4_groupAt_Jx4a65c_size_8abf5 : GoodIn wsX4_groupAt (wsV RX4 69 RJx4a65c yJx4a65c_size_8abf5 wsJx4a65c_size_8abf5) := goodIn_app (goodIn_of _ (by decide +kernel)) ggX4_groupAt_Jx4a65c_size_8abf5
set_option maxRecDepth 20000 in
theorem ggX4_groupAt_Jx4a65c_get_915e3 : GoodIn wsX4_groupAt wsJx4a65c_get_915e3 := goodIn_r _ [12, 8, 13, 14, 15, 16, 17, 18, 19, 20, 21, 22, 23, 6, 24, 25, 37, 38, 39] (by decide +kernel) (by decide +kernel)
set_option maxRecDepth 20000 in
theorem gX4_groupAt_Jx4a65c_get_915e3 : GoodIn wsX4_groupAt (wsV RX4 171 RJx4a65c yJx4a65c_get_915e3 wsJx4a65c_get_915e3) := goodIn_app (goodIn_of _ (by decide +kernel)) ggX4_groupAt_Jx4a65c_get_915e3
set_option maxRecDepth 20000 in
theorem ggX4_taskAt_Jx4a65c_size_8abf5 : GoodIn wsX4_taskAt wsJx4a65c_size_8abf5 := goodIn_r _ [7, 8, 37, 38, 39] (by decide +kernel) (by decide +kernel)
set_option maxRecDepth 20000 in
theorem gX4_taskAt_Jx4a65c_size_8abf5 : GoodIn wsX4_taskAt (wsV RX4 69 RJx4a65c yJx4a65c_size_8abf5 wsJx4a65c_size_8abf5) := goodIn_app (goodIn_of _ (by decide +kernel)) ggX4_taskAt_Jx4a65c_size_8abf5
set_option maxRecDepth 20000 in
theorem ggX4_taskAt_Jx4a65c_get_915e3 : GoodIn wsX4_taskAt wsJx4a65c_get_915e3 := goodIn_r _ [12, 8, 13, 14, 15, 16, 17, 18, 19, 20, 21, 22, 23, 6, 24, 25, 37, 38, 39] (by decide +kernel) (by decide +kernel)
set_option maxRecDepth 20000 in
theorem gX4_taskAt_Jx4a65c_get_915e3 : GoodIn wsX4_taskAt (wsV RX4 171 RJx4a65c yJx4a65c_get_915e3 wsJx4a65c_get_915e3) := goodIn_app (goodIn_of _ (by decide +kernel)) ggX4_taskAt_Jx4a65c_get_915e3
set_option maxRecDepth 20000 in
theorem ggX4_lockAt_Jx4a65c_size_8abf5 : GoodIn wsX4_lockAt wsJx4a65c_size_8abf5 := goodIn_r _ [7, 8, 37, 38, 39] (by decide +kernel) (by decide +kernel)
set_option maxRecDepth 20000 in
theorem gX4_lockAt_Jx4a65c_size_8abf5 : GoodIn wsX4_lockAt (wsV RX4 69 RJx4a65c yJx4a65c_size_8abf5 wsJx4a65c_size_8abf5) := goodIn_app (goodIn_of _ (by decide +kernel)) ggX4_lockAt_Jx4a65c_size_8abf5
set_option maxRecDepth 20000 in
theorem ggX4_lockAt_Jx4a65c_get_915e3 : GoodIn wsX4_lockAt wsJx4a65c_get_915e3 := goodIn_r _ [12, 8, 13, 14, 15, 16, 17, 18, 19, 20, 21, 22, 23, 6, 24, 25, 37, 38, 39] (by decide +kernel) (by decide +kernel)
set_option maxRecDepth 20000 in
theorem gX4_lockAt_Jx4a65c_get_915e3 : GoodIn wsX4_lockAt (wsV RX4 171 RJx4a65c yJx4a65c_get_915e3 wsJx4a65c_get_915e3) := goodIn_app (goodIn_of _ (by decide +kernel)) ggX4_lockAt_Jx4a65c_get_915e3
set_option maxRecDepth 20000 in
theorem ggX4_leastTimeIn_Jx4a65c_size_8abf5 : GoodIn wsX4_leastTimeIn wsJx4a65c_size_8abf5 := goodIn_r _ [14, 15, 66, 67, 68] (by decide +kernel) (by decide +kernel)
set_option maxRecDepth 20000 in
theorem gX4_leastTimeIn_Jx4a65c_size_8abf5 : GoodIn wsX4_leastTimeIn (wsV RX4 69 RJx4a65c yJx4a65c_size_8abf5 wsJx4a65c_size_8abf5) := goodIn_app (goodIn_of _ (by decide +kernel)) ggX4_leastTimeIn_Jx4a65c_size_8abf5
set_option maxRecDepth 20000 in
theorem ggX4_leastTimeIn_Jx4a65c_get_915e3 : GoodIn wsX4_leastTimeIn wsJx4a65c_get_915e3 := goodIn_r _ [19, 15, 20, 21, 22, 23, 24, 25, 26, 27, 28, 29, 30, 13, 31, 32, 66, 67, 68] (by decide +kernel) (by decide +kernel)
set_option maxRecDepth 20000 in
theorem gX4_leastTimeIn_Jx4a65c_get_915e3 : GoodIn wsX4_leastTimeIn (wsV RX4 171 RJx4a65c yJx4a65c_get_915e3 wsJx4a65c_get_915e3) := goodIn_app (goodIn_of _ (by decide +kernel)) ggX4_leastTimeIn_Jx4a65c_get_915e3
set_option maxRecDepth 20000 in
theorem ggX4_stopWaiting_Jx4a65c_size_8abf5 : GoodIn wsX4_stopWaiting wsJx4a65c_size_8abf5 := goodIn_r _ [5, 6, 56, 57, 58] (by decide +kernel) (by decide +kernel)
set_option maxRecDepth 20000 in
theorem gX4_stopWaiting_Jx4a65c_size_8abf5 : GoodIn wsX4_stopWaiting (wsV RX4 69 RJx4a65c yJx4a65c_size_8abf5 wsJx4a65c_size_8abf5) := goodIn_app (goodIn_of _ (by decide +kernel)) ggX4_stopWaiting_Jx4a65c_size_8abf5
set_option maxRecDepth 20000 in
theorem ggX4_stopWaiting_Jx4a65c_get_915e3 : GoodIn wsX4_stopWaiting wsJx4a65c_get_915e3 := goodIn_r _ [10, 6, 11, 12, 13, 14, 15, 16, 17, 18, 19, 20, 21, 4, 22, 23, 56, 57, 58] (by decide +kernel) (by decide +kernel)
set_option maxRecDepth 20000 in
theorem gX4_stopWaiting_Jx4a65c_get_915e3 : GoodIn wsX4_stopWaiting (wsV RX4 171 RJx4a65c yJx4a65c_get_915e3 wsJx4a65c_get_915e3) := goodIn_app (goodIn_of _ (by decide +kernel)) ggX4_stopWaiting_Jx4a65c_get_915e3
set_option maxRecDepth 20000 in
theorem ggX4_stopWaiting_Jx4a65c_remove_915e3 : GoodIn wsX4_stopWaiting wsJx4a65c_remove_915e3 := goodIn_r _ [27, 6, 23, 11, 12, 13, 14, 15, 16, 17, 18, 28, 29, 30, 4, 31, 32, 33, 34, 35, 36, 37, 56, 57, 58] (by decide +kernel) (by decide +kernel)
set_option maxRecDepth 20000 in
theorem gX4_stopWaiting_Jx4a65c_remove_915e3 : GoodIn wsX4_stopWaiting (wsV RX4 299 RJx4a65c yJx4a65c_remove_915e3 wsJx4a65c_remove_915e3) := goodIn_app (goodIn_of _ (by decide +kernel)) ggX4_stopWaiting_Jx4a65c_remove_915e3
set_option maxRecDepth 20000 in
theorem ggX4_passOn_Jx4a65c_isEmpty_aae02 : GoodIn wsX4_passOn wsJx4a65c_isEmpty_aae02 := goodIn_r _ [6, 7, 49, 50, 51] (by decide +kernel) (by decide +kernel)
set_option maxRecDepth 20000 in
theorem gX4_passOn_Jx4a65c_isEmpty_aae02 : GoodIn wsX4_passOn (wsV RX4 302 RJx4a65c yJx4a65c_isEmpty_aae02 wsJx4a65c_isEmpty_aae02) := goodIn_app (goodIn_of _ (by decide +kernel)) ggX4_passOn_Jx4a65c_isEmpty_aae02
set_option maxRecDepth 20000 in
theorem ggX4_passOn_Jx4a65c_remove_915e3 : GoodIn wsX4_passOn wsJx4a65c_remove_915e3 := goodIn_r _ [11, 7, 12, 13, 14, 15, 16, 17, 18, 19, 20, 21, 22, 23, 5, 24, 25, 26, 27, 28, 29, 30, 49, 50, 51] (by decide +kernel) (by decide +kernel)
set_option maxRecDepth 20000 in
theorem gX4_passOn_Jx4a65c_remove_915e3 : GoodIn wsX4_passOn (wsV RX4 299 RJx4a65c yJx4a65c_remove_915e3 wsJx4a65c_remove_915e3) := goodIn_app (goodIn_of _ (by decide +kernel)) ggX4_passOn_Jx4a65c_remove_915e3
set_option maxRecDepth 20000 in
theorem ggX4_waitsInTheEndFor_X4_holderBefore : GoodIn wsX4_waitsInTheEndFor wsX4_holderBefore := goodIn_r _ [4, 5, 6, 7, 8, 9, 10, 11, 12, 13, 14, 15, 16, 17, 18, 19, 20, 21, 22] (by decide +kernel) (by decide +kernel)
set_option maxRecDepth 20000 in
theorem gX4_waitsInTheEndFor_X4_holderBefore : GoodIn wsX4_waitsInTheEndFor (va_wsS RX4 305 yX4_holderBefore wsX4_holderBefore) := goodIn_app (goodIn_of _ (by decide +kernel)) ggX4_waitsInTheEndFor_X4_holderBefore
set_option maxRecDepth 20000 in
theorem ggX4_lendUrgencies_Jx4a65c_size_8abf5 : GoodIn wsX4_lendUrgencies wsJx4a65c_size_8abf5 := goodIn_r _ [7, 8, 76, 77, 78] (by decide +kernel) (by decide +kernel)
set_option maxRecDepth 20000 in
theorem gX4_lendUrgencies_Jx4a65c_size_8abf5 : GoodIn wsX4_lendUrgencies (wsV RX4 69 RJx4a65c yJx4a65c_size_8abf5 wsJx4a65c_size_8abf5) := goodIn_app (goodIn_of _ (by decide +kernel)) ggX4_lendUrgencies_Jx4a65c_size_8abf5
set_option maxRecDepth 20000 in
theorem ggX4_lendUrgencies_Jx4a65c_get_915e3 : GoodIn wsX4_lendUrgencies wsJx4a65c_get_915e3 := goodIn_r _ [12, 8, 13, 14, 15, 16, 17, 18, 19, 20, 21, 22, 23, 6, 24, 25, 76, 77, 78] (by decide +kernel) (by decide +kernel)
set_option maxRecDepth 20000 in
theorem gX4_lendUrgencies_Jx4a65c_get_915e3 : GoodIn wsX4_lendUrgencies (wsV RX4 171 RJx4a65c yJx4a65c_get_915e3 wsJx4a65c_get_915e3) := goodIn_app (goodIn_of _ (by decide +kernel)) ggX4_lendUrgencies_Jx4a65c_get_915e3
set_option maxRecDepth 20000 in
theorem ggX4_lendUrgencies_X3_ownUrgency : GoodIn wsX4_lendUrgencies wsX3_ownUrgency := goodIn_r _ [29, 30, 31, 32, 33, 34, 35, 27, 36, 37, 60, 61, 62, 63, 64, 65, 66, 67, 68, 69, 70, 71, 72, 73, 74, 75] (by decide +kernel) (by decide +kernel)
set_option maxRecDepth 20000 in
theorem gX4_lendUrgencies_X3_ownUrgency_n309 : GoodIn wsX4_lendUrgencies (wsX3_ownUrgency) := ggX4_lendUrgencies_X3_ownUrgency
set_option maxRecDepth 20000 in
theorem ggX4_lendUrgencies_X4_lendAlong : GoodIn wsX4_lendUrgencies wsX4_lendAlong := goodIn_r _ [41, 42, 43, 44, 45, 46, 47, 40, 48, 60, 61, 62, 63, 64, 65, 66, 67, 68, 69, 70, 71, 72, 73, 74, 75, 79, 80] (by decide +kernel) (by decide +kernel)
set_option maxRecDepth 20000 in
theorem gX4_lendUrgencies_X4_lendAlong : GoodIn wsX4_lendUrgencies (va_wsS RX4 312 yX4_lendAlong wsX4_lendAlong) := goodIn_app (goodIn_of _ (by decide +kernel)) ggX4_lendUrgencies_X4_lendAlong
set_option maxRecDepth 20000 in
theorem ggX4_lendAlong_X4_holderBefore : GoodIn wsX4_lendAlong wsX4_holderBefore := goodIn_r _ [8, 9, 10, 11, 12, 13, 14, 15, 16, 17, 18, 19, 20, 21, 22, 23, 24, 25, 26] (by decide +kernel) (by decide +kernel)
set_option maxRecDepth 20000 in
theorem gX4_lendAlong_X4_holderBefore : GoodIn wsX4_lendAlong (va_wsS RX4 305 yX4_holderBefore wsX4_holderBefore) := goodIn_app (goodIn_of _ (by decide +kernel)) ggX4_lendAlong_X4_holderBefore
set_option maxRecDepth 20000 in
theorem ggX4_chooseForAllCores_X4_lendUrgencies : GoodIn wsX4_chooseForAllCores wsX4_lendUrgencies := goodIn_r _ [11, 1, 2, 12, 13, 14, 15, 16, 17, 18, 19, 20, 21, 22, 23, 24, 25, 26, 27, 28, 29, 30, 31, 32, 33, 34, 35, 36, 37, 38, 39, 40, 41, 42, 43, 44, 45, 46, 47, 48, 10, 49, 50, 51, 52, 53, 54, 55, 56, 102, 103, 104, 105, 106, 107, 108, 109, 110, 111, 112, 113, 114, 115, 116, 117, 118, 119, 120, 121, 122, 123, 124, 125, 126, 127, 128, 132, 133, 134, 135, 136] (by decide +kernel) (by decide +kernel)
set_option maxRecDepth 20000 in
theorem gX4_chooseForAllCores_X4_lendUrgencies : GoodIn wsX4_chooseForAllCores (wsV RX4 216 RX4 yX4_lendUrgencies wsX4_lendUrgencies) := goodIn_app (goodIn_of _ (by decide +kernel)) ggX4_chooseForAllCores_X4_lendUrgencies
set_option maxRecDepth 20000 in
theorem ggX4_chooseForAllCores_Jx4a65c_size_8abf5 : GoodIn wsX4_chooseForAllCores wsJx4a65c_size_8abf5 := goodIn_r _ [16, 17, 132, 133, 134] (by decide +kernel) (by decide +kernel)
set_option maxRecDepth 20000 in
theorem gX4_chooseForAllCores_Jx4a65c_size_8abf5 : GoodIn wsX4_chooseForAllCores (wsV RX4 69 RJx4a65c yJx4a65c_size_8abf5 wsJx4a65c_size_8abf5) := goodIn_app (goodIn_of _ (by decide +kernel)) ggX4_chooseForAllCores_Jx4a65c_size_8abf5
set_option maxRecDepth 20000 in
theorem ggX4_chooseForAllCores_Jx4a65c_get_915e3 : GoodIn wsX4_chooseForAllCores wsJx4a65c_get_915e3 := goodIn_r _ [21, 17, 22, 23, 24, 25, 26, 27, 28, 29, 30, 31, 32, 15, 33, 34, 132, 133, 134] (by decide +kernel) (by decide +kernel)
set_option maxRecDepth 20000 in
theorem gX4_chooseForAllCores_Jx4a65c_get_915e3 : GoodIn wsX4_chooseForAllCores (wsV RX4 171 RJx4a65c yJx4a65c_get_915e3 wsJx4a65c_get_915e3) := goodIn_app (goodIn_of _ (by decide +kernel)) ggX4_chooseForAllCores_Jx4a65c_get_915e3
set_option maxRecDepth 20000 in
theorem ggX4_chooseForAllCores_X3_isReady : GoodIn wsX4_chooseForAllCores wsX3_isReady := goodIn_r _ [59, 60, 61, 39, 113, 114, 115, 116, 117, 118, 119, 120, 121, 122, 123, 124, 125, 126, 127, 128] (by decide +kernel) (by decide +kernel)
set_option maxRecDepth 20000 in
theorem gX4_chooseForAllCores_X3_isReady_n187 : GoodIn wsX4_chooseForAllCores (wsX3_isReady) := ggX4_chooseForAllCores_X3_isReady
set_option maxRecDepth 20000 in
theorem ggX4_chooseForAllCores_X0_paceUnder : GoodIn wsX4_chooseForAllCores wsX0_paceUnder := goodIn_r _ [65, 66, 67, 129, 130, 131] (by decide +kernel) (by decide +kernel)
set_option maxRecDepth 20000 in
theorem gX4_chooseForAllCores_X0_paceUnder_n99 : GoodIn wsX4_chooseForAllCores (wsX0_paceUnder) := ggX4_chooseForAllCores_X0_paceUnder
set_option maxRecDepth 20000 in
theorem ggX4_chooseForAllCores_X4_pickDownTheTree : GoodIn wsX4_chooseForAllCores wsX4_pickDownTheTree := goodIn_r _ [71, 72, 73, 74, 75, 10, 76, 77, 1, 2, 12, 13, 14, 15, 16, 17, 18, 19, 20, 21, 22, 23, 24, 25, 26, 27, 28, 29, 30, 31, 32, 33, 34, 78, 79, 80, 81, 82, 83, 84, 85, 86, 87, 88, 89, 90, 91, 102, 103, 104, 105, 106, 107, 108, 109, 110, 111, 112, 113, 114, 115, 116, 117, 118, 119, 120, 121, 122, 123, 124, 125, 126, 127, 128, 137, 138, 139, 140, 141, 142, 132, 133, 134] (by decide +kernel) (by decide +kernel)
set_option maxRecDepth 20000 in
theorem gX4_chooseForAllCores_X4_pickDownTheTree : GoodIn wsX4_chooseForAllCores (wsV RX4 319 RX4 yX4_pickDownTheTree wsX4_pickDownTheTree) := goodIn_app (goodIn_of _ (by decide +kernel)) ggX4_chooseForAllCores_X4_pickDownTheTree
set_option maxRecDepth 20000 in
theorem ggX4_chooseForAllCores_X4_pickByComparing : GoodIn wsX4_chooseForAllCores wsX4_pickByComparing := goodIn_r _ [95, 1, 2, 12, 13, 14, 15, 16, 17, 18, 19, 20, 21, 22, 23, 24, 25, 26, 27, 28, 29, 30, 31, 32, 33, 34, 96, 97, 10, 98, 77, 99, 100, 101, 102, 103, 104, 105, 106, 107, 108, 109, 110, 111, 112, 113, 114, 115, 116, 117, 118, 119, 120, 121, 122, 123, 124, 125, 126, 127, 128, 132, 133, 134, 137, 138, 139, 140, 141, 142] (by decide +kernel) (by decide +kernel)
set_option maxRecDepth 20000 in
theorem gX4_chooseForAllCores_X4_pickByComparing : GoodIn wsX4_chooseForAllCores (wsV RX4 323 RX4 yX4_pickByComparing wsX4_pickByComparing) := goodIn_app (goodIn_of _ (by decide +kernel)) ggX4_chooseForAllCores_X4_pickByComparing
set_option maxRecDepth 20000 in
theorem ggX4_pickDownTheTree_X4_mostUrgent : GoodIn wsX4_pickDownTheTree wsX4_mostUrgent := goodIn_r _ [6, 7, 8, 9, 10, 11, 12, 13, 14, 15, 16, 17, 18, 19, 20, 21, 22, 23, 24, 25, 26, 27, 28, 29, 30, 31, 32, 47, 48, 49, 50, 51, 52, 53, 54, 55, 56, 57, 58, 59, 60, 61, 62, 63, 64, 65, 66, 67, 68, 69, 70, 71, 72, 73, 80, 81, 82] (by decide +kernel) (by decide +kernel)
set_option maxRecDepth 20000 in
theorem gX4_pickDownTheTree_X4_mostUrgent : GoodIn wsX4_pickDownTheTree (wsV RX4 326 RX4 yX4_mostUrgent wsX4_mostUrgent) := goodIn_app (goodIn_of _ (by decide +kernel)) ggX4_pickDownTheTree_X4_mostUrgent
set_option maxRecDepth 20000 in
theorem ggX4_pickDownTheTree_X4_markLiveGroups : GoodIn wsX4_pickDownTheTree wsX4_markLiveGroups := goodIn_r _ [36, 37, 38, 8, 9, 10, 11, 12, 13, 14, 15, 16, 17, 18, 19, 20, 21, 22, 23, 24, 25, 26, 27, 28, 29, 30, 31, 32, 47, 48, 49, 50, 51, 52, 53, 54, 55, 56, 57, 74, 75, 76, 77, 78, 79, 58, 59, 60, 61, 62, 63, 64, 65, 66, 67, 68, 69, 70, 71, 72, 73, 80, 81, 82] (by decide +kernel) (by decide +kernel)
set_option maxRecDepth 20000 in
theorem gX4_pickDownTheTree_X4_markLiveGroups : GoodIn wsX4_pickDownTheTree (wsV RX4 329 RX4 yX4_markLiveGroups wsX4_markLiveGroups) := goodIn_app (goodIn_of _ (by decide +kernel)) ggX4_pickDownTheTree_X4_markLiveGroups
set_option maxRecDepth 20000 in
theorem ggX4_pickDownTheTree_X4_leastLiveGroupIn : GoodIn wsX4_pickDownTheTree wsX4_leastLiveGroupIn := goodIn_r _ [42, 37, 38, 10, 11, 12, 13, 14, 15, 16, 17, 18, 19, 20, 21, 22, 23, 24, 25, 26, 27, 28, 29, 30, 31, 32, 47, 48, 49, 50, 51, 52, 53, 54, 55, 56, 57, 74, 75, 76, 77, 78, 79, 80, 81, 82] (by decide +kernel) (by decide +kernel)
set_option maxRecDepth 20000 in
theorem gX4_pickDownTheTree_X4_leastLiveGroupIn : GoodIn wsX4_pickDownTheTree (wsV RX4 332 RX4 yX4_leastLiveGroupIn wsX4_leastLiveGroupIn) := goodIn_app (goodIn_of _ (by decide +kernel)) ggX4_pickDownTheTree_X4_leastLiveGroupIn
set_option maxRecDepth 20000 in
theorem ggX4_pickDownTheTree_X4_leastTaskIn : GoodIn wsX4_pickDownTheTree wsX4_leastTaskIn := goodIn_r _ [46, 8, 9, 10, 11, 12, 13, 14, 15, 16, 17, 18, 19, 20, 21, 22, 23, 24, 25, 26, 27, 28, 29, 30, 31, 32, 47, 48, 49, 50, 51, 52, 53, 54, 55, 56, 57, 58, 59, 60, 61, 62, 63, 64, 65, 66, 67, 68, 69, 70, 71, 72, 73, 80, 81, 82] (by decide +kernel) (by decide +kernel)
set_option maxRecDepth 20000 in
theorem gX4_pickDownTheTree_X4_leastTaskIn : GoodIn wsX4_pickDownTheTree (wsV RX4 336 RX4 yX4_leastTaskIn wsX4_leastTaskIn) := goodIn_app (goodIn_of _ (by decide +kernel)) ggX4_pickDownTheTree_X4_leastTaskIn
set_option maxRecDepth 20000 in
theorem ggX4_mostUrgent_Jx4a65c_size_8abf5 : GoodIn wsX4_mostUrgent wsJx4a65c_size_8abf5 := goodIn_r _ [8, 9, 54, 55, 56] (by decide +kernel) (by decide +kernel)
set_option maxRecDepth 20000 in
theorem gX4_mostUrgent_Jx4a65c_size_8abf5 : GoodIn wsX4_mostUrgent (wsV RX4 69 RJx4a65c yJx4a65c_size_8abf5 wsJx4a65c_size_8abf5) := goodIn_app (goodIn_of _ (by decide +kernel)) ggX4_mostUrgent_Jx4a65c_size_8abf5
set_option maxRecDepth 20000 in
theorem ggX4_mostUrgent_Jx4a65c_get_915e3 : GoodIn wsX4_mostUrgent wsJx4a65c_get_915e3 := goodIn_r _ [13, 9, 14, 15, 16, 17, 18, 19, 20, 21, 22, 23, 24, 7, 25, 26, 54, 55, 56] (by decide +kernel) (by decide +kernel)
set_option maxRecDepth 20000 in
theorem gX4_mostUrgent_Jx4a65c_get_915e3 : GoodIn wsX4_mostUrgent (wsV RX4 171 RJx4a65c yJx4a65c_get_915e3 wsJx4a65c_get_915e3) := goodIn_app (goodIn_of _ (by decide +kernel)) ggX4_mostUrgent_Jx4a65c_get_915e3
set_option maxRecDepth 20000 in
theorem ggX4_markLiveGroups_Jx4a65c_size_8abf5 : GoodIn wsX4_markLiveGroups wsJx4a65c_size_8abf5 := goodIn_r _ [9, 10, 61, 62, 63] (by decide +kernel) (by decide +kernel)
set_option maxRecDepth 20000 in
theorem gX4_markLiveGroups_Jx4a65c_size_8abf5 : GoodIn wsX4_markLiveGroups (wsV RX4 69 RJx4a65c yJx4a65c_size_8abf5 wsJx4a65c_size_8abf5) := goodIn_app (goodIn_of _ (by decide +kernel)) ggX4_markLiveGroups_Jx4a65c_size_8abf5
set_option maxRecDepth 20000 in
theorem ggX4_markLiveGroups_Jx4a65c_get_915e3 : GoodIn wsX4_markLiveGroups wsJx4a65c_get_915e3 := goodIn_r _ [14, 10, 15, 16, 17, 18, 19, 20, 21, 22, 23, 24, 25, 8, 26, 27, 61, 62, 63] (by decide +kernel) (by decide +kernel)
set_option maxRecDepth 20000 in
theorem gX4_markLiveGroups_Jx4a65c_get_915e3 : GoodIn wsX4_markLiveGroups (wsV RX4 171 RJx4a65c yJx4a65c_get_915e3 wsJx4a65c_get_915e3) := goodIn_app (goodIn_of _ (by decide +kernel)) ggX4_markLiveGroups_Jx4a65c_get_915e3
set_option maxRecDepth 20000 in
theorem ggX4_leastLiveGroupIn_Jx4a65c_size_8abf5 : GoodIn wsX4_leastLiveGroupIn wsJx4a65c_size_8abf5 := goodIn_r _ [7, 8, 43, 44, 45] (by decide +kernel) (by decide +kernel)
set_option maxRecDepth 20000 in
theorem gX4_leastLiveGroupIn_Jx4a65c_size_8abf5 : GoodIn wsX4_leastLiveGroupIn (wsV RX4 69 RJx4a65c yJx4a65c_size_8abf5 wsJx4a65c_size_8abf5) := goodIn_app (goodIn_of _ (by decide +kernel)) ggX4_leastLiveGroupIn_Jx4a65c_size_8abf5
set_option maxRecDepth 20000 in
theorem ggX4_leastLiveGroupIn_Jx4a65c_get_915e3 : GoodIn wsX4_leastLiveGroupIn wsJx4a65c_get_915e3 := goodIn_r _ [12, 8, 13, 14, 15, 16, 17, 18, 19, 20, 21, 22, 23, 6, 24, 25, 43, 44, 45] (by decide +kernel) (by decide +kernel)
set_option maxRecDepth 20000 in
theorem gX4_leastLiveGroupIn_Jx4a65c_get_915e3 : GoodIn wsX4_leastLiveGroupIn (wsV RX4 171 RJx4a65c yJx4a65c_get_915e3 wsJx4a65c_get_915e3) := goodIn_app (goodIn_of _ (by decide +kernel)) ggX4_leastLiveGroupIn_Jx4a65c_get_915e3
set_option maxRecDepth 20000 in
theorem ggX4_leastTaskIn_Jx4a65c_size_8abf5 : GoodIn wsX4_leastTaskIn wsJx4a65c_size_8abf5 := goodIn_r _ [7, 8, 53, 54, 55] (by decide +kernel) (by decide +kernel)
set_option maxRecDepth 20000 in
theorem gX4_leastTaskIn_Jx4a65c_size_8abf5 : GoodIn wsX4_leastTaskIn (wsV RX4 69 RJx4a65c yJx4a65c_size_8abf5 wsJx4a65c_size_8abf5) := goodIn_app (goodIn_of _ (by decide +kernel)) ggX4_leastTaskIn_Jx4a65c_size_8abf5
set_option maxRecDepth 20000 in
theorem ggX4_leastTaskIn_Jx4a65c_get_915e3 : GoodIn wsX4_leastTaskIn wsJx4a65c_get_915e3 := goodIn_r _ [12, 8, 13, 14, 15, 16, 17, 18, 19, 20, 21, 22, 23, 6, 24, 25, 53, 54, 55] (by decide +kernel) (by decide +kernel)
set_option maxRecDepth 20000 in
theorem gX4_leastTaskIn_Jx4a65c_get_915e3 : GoodIn wsX4_leastTaskIn (wsV RX4 171 RJx4a65c yJx4a65c_get_915e3 wsJx4a65c_get_915e3) := goodIn_app (goodIn_of _ (by decide +kernel)) ggX4_leastTaskIn_Jx4a65c_get_915e3
set_option maxRecDepth 20000 in
theorem ggX4_pickByComparing_Jx4a65c_size_8abf5 : GoodIn wsX4_pickByComparing wsJx4a65c_size_8abf5 := goodIn_r _ [7, 8, 61, 62, 63] (by decide +kernel) (by decide +kernel)
set_option maxRecDepth 20000 in
theorem gX4_pickByComparing_Jx4a65c_size_8abf5 : GoodIn wsX4_pickByComparing (wsV RX4 69 RJx4a65c yJx4a65c_size_8abf5 wsJx4a65c_size_8abf5) := goodIn_app (goodIn_of _ (by decide +kernel)) ggX4_pickByComparing_Jx4a65c_size_8abf5
set_option maxRecDepth 20000 in
theorem ggX4_pickByComparing_Jx4a65c_get_915e3 : GoodIn wsX4_pickByComparing wsJx4a65c_get_915e3 := goodIn_r _ [12, 8, 13, 14, 15, 16, 17, 18, 19, 20, 21, 22, 23, 6, 24, 25, 61, 62, 63] (by decide +kernel) (by decide +kernel)
set_option maxRecDepth 20000 in
theorem gX4_pickByComparing_Jx4a65c_get_915e3 : GoodIn wsX4_pickByComparing (wsV RX4 171 RJx4a65c yJx4a65c_get_915e3 wsJx4a65c_get_915e3) := goodIn_app (goodIn_of _ (by decide +kernel)) ggX4_pickByComparing_Jx4a65c_get_915e3
set_option maxRecDepth 20000 in
theorem ggX4_pickByComparing_X4_goesBefore : GoodIn wsX4_pickByComparing wsX4_goesBefore := goodIn_r _ [29, 30, 31, 32, 28, 33, 45, 46, 47, 48, 49, 50, 51, 52, 53, 54, 55, 56, 57, 58, 59, 60, 64, 65, 66, 67, 68, 69] (by decide +kernel) (by decide +kernel)
set_option maxRecDepth 20000 in
theorem gX4_pickByComparing_X4_goesBefore : GoodIn wsX4_pickByComparing (va_wsS RX4 343 yX4_goesBefore wsX4_goesBefore) := goodIn_app (goodIn_of _ (by decide +kernel)) ggX4_pickByComparing_X4_goesBefore
set_option maxRecDepth 20000 in
theorem ggX4_goesBefore_X4_goesBeforeInTheTree : GoodIn wsX4_goesBefore wsX4_goesBeforeInTheTree := goodIn_r _ [5, 6, 7, 8, 9, 10, 11, 12, 13, 14, 15, 16, 17, 18, 19, 20, 21, 22, 23, 24, 25, 26, 27] (by decide +kernel) (by decide +kernel)
set_option maxRecDepth 20000 in
theorem gX4_goesBefore_X4_goesBeforeInTheTree : GoodIn wsX4_goesBefore (va_wsS RX4 346 yX4_goesBeforeInTheTree wsX4_goesBeforeInTheTree) := goodIn_app (goodIn_of _ (by decide +kernel)) ggX4_goesBefore_X4_goesBeforeInTheTree
set_option maxRecDepth 20000 in
theorem ggX4_passOneTick_X4_releaseTimedTasks : GoodIn wsX4_passOneTick wsX4_releaseTimedTasks := goodIn_r _ [9, 10, 11, 4, 12, 13, 14, 15, 16, 17, 18, 19, 20, 21, 22, 23, 24, 25, 26, 27, 28, 29, 30, 31, 32, 33, 34, 35, 36, 37, 38, 39, 125, 126, 127, 128, 129, 130, 131, 132, 133, 134, 135, 139, 140, 141, 142, 143, 144, 145, 146, 147, 148, 149, 150, 151, 152, 153, 154, 155, 156, 157] (by decide +kernel) (by decide +kernel)
set_option maxRecDepth 20000 in
theorem gX4_passOneTick_X4_releaseTimedTasks : GoodIn wsX4_passOneTick (wsV RX4 350 RX4 yX4_releaseTimedTasks wsX4_releaseTimedTasks) := goodIn_app (goodIn_of _ (by decide +kernel)) ggX4_passOneTick_X4_releaseTimedTasks
set_option maxRecDepth 20000 in
theorem ggX4_passOneTick_X4_chooseForAllCores : GoodIn wsX4_passOneTick wsX4_chooseForAllCores := goodIn_r _ [43, 10, 11, 1, 2, 44, 45, 46, 47, 48, 8, 49, 12, 13, 14, 15, 16, 17, 18, 19, 20, 21, 22, 23, 24, 25, 26, 27, 28, 29, 30, 31, 32, 33, 34, 50, 36, 51, 52, 53, 54, 55, 56, 35, 37, 38, 39, 57, 58, 59, 60, 61, 62, 63, 64, 65, 66, 67, 68, 69, 70, 71, 72, 73, 74, 75, 76, 77, 78, 79, 80, 81, 82, 83, 84, 85, 86, 87, 88, 89, 90, 91, 92, 93, 94, 95, 96, 97, 98, 99, 100, 101, 102, 103, 104, 105, 106, 107, 108, 109, 110, 111, 125, 126, 127, 128, 129, 130, 131, 132, 133, 134, 135, 139, 140, 141, 142, 143, 144, 145, 146, 147, 148, 149, 150, 151, 152, 153, 154, 136, 137, 138, 155, 156, 157, 158, 159, 160, 161, 162, 163, 164, 165] (by decide +kernel) (by decide +kernel)
set_option maxRecDepth 20000 in
theorem gX4_passOneTick_X4_chooseForAllCores : GoodIn wsX4_passOneTick (wsV RX4 253 RX4 yX4_chooseForAllCores wsX4_chooseForAllCores) := goodIn_app (goodIn_of _ (by decide +kernel)) ggX4_passOneTick_X4_chooseForAllCores
set_option maxRecDepth 20000 in
theorem ggX4_passOneTick_Jx4a65c_size_8abf5 : GoodIn wsX4_passOneTick wsJx4a65c_size_8abf5 := goodIn_r _ [16, 17, 155, 156, 157] (by decide +kernel) (by decide +kernel)
set_option maxRecDepth 20000 in
theorem gX4_passOneTick_Jx4a65c_size_8abf5 : GoodIn wsX4_passOneTick (wsV RX4 69 RJx4a65c yJx4a65c_size_8abf5 wsJx4a65c_size_8abf5) := goodIn_app (goodIn_of _ (by decide +kernel)) ggX4_passOneTick_Jx4a65c_size_8abf5
set_option maxRecDepth 20000 in
theorem ggX4_passOneTick_Jx4a65c_get_915e3 : GoodIn wsX4_passOneTick wsJx4a65c_get_915e3 := goodIn_r _ [21, 17, 22, 23, 24, 25, 26, 27, 28, 29, 30, 31, 32, 15, 33, 34, 155, 156, 157] (by decide +kernel) (by decide +kernel)
set_option maxRecDepth 20000 in
theorem gX4_passOneTick_Jx4a65c_get_915e3 : GoodIn wsX4_passOneTick (wsV RX4 171 RJx4a65c yJx4a65c_get_915e3 wsJx4a65c_get_915e3) := goodIn_app (goodIn_of _ (by decide +kernel)) ggX4_passOneTick_Jx4a65c_get_915e3
set_option maxRecDepth 20000 in
theorem ggX4_passOneTick_X4_work : GoodIn wsX4_passOneTick wsX4_work := goodIn_r _ [115, 44, 116, 117, 60, 61, 62, 63, 72, 73, 74, 75, 76, 77, 125, 126, 127, 128, 129, 130, 131, 132, 133, 134, 135, 139, 140, 141, 142, 143, 144, 145, 146, 147, 148, 149, 150, 151, 152, 153, 154, 160, 161, 162, 163, 164, 165, 136, 137, 138] (by decide +kernel) (by decide +kernel)
set_option maxRecDepth 20000 in
theorem gX4_passOneTick_X4_work : GoodIn wsX4_passOneTick (wsV RX4 353 RX4 yX4_work wsX4_work) := goodIn_app (goodIn_of _ (by decide +kernel)) ggX4_passOneTick_X4_work
set_option maxRecDepth 20000 in
theorem ggX4_passOneTick_X4_changeHeat : GoodIn wsX4_passOneTick wsX4_changeHeat := goodIn_r _ [121, 44, 122, 123, 62, 124, 72, 73, 74, 75, 76, 77, 136, 137, 138, 125, 126, 127, 128, 129, 130, 131, 132, 133, 134, 135] (by decide +kernel) (by decide +kernel)
set_option maxRecDepth 20000 in
theorem gX4_passOneTick_X4_changeHeat : GoodIn wsX4_passOneTick (wsV RX4 357 RX4 yX4_changeHeat wsX4_changeHeat) := goodIn_app (goodIn_of _ (by decide +kernel)) ggX4_passOneTick_X4_changeHeat
set_option maxRecDepth 20000 in
theorem ggX4_releaseTimedTasks_Jx4a65c_size_8abf5 : GoodIn wsX4_releaseTimedTasks wsJx4a65c_size_8abf5 := goodIn_r _ [8, 9, 59, 60, 61] (by decide +kernel) (by decide +kernel)
set_option maxRecDepth 20000 in
theorem gX4_releaseTimedTasks_Jx4a65c_size_8abf5 : GoodIn wsX4_releaseTimedTasks (wsV RX4 69 RJx4a65c yJx4a65c_size_8abf5 wsJx4a65c_size_8abf5) := goodIn_app (goodIn_of _ (by decide +kernel)) ggX4_releaseTimedTasks_Jx4a65c_size_8abf5
set_option maxRecDepth 20000 in
theorem ggX4_releaseTimedTasks_Jx4a65c_get_915e3 : GoodIn wsX4_releaseTimedTasks wsJx4a65c_get_915e3 := goodIn_r _ [13, 9, 14, 15, 16, 17, 18, 19, 20, 21, 22, 23, 24, 7, 25, 26, 59, 60, 61] (by decide +kernel) (by decide +kernel)
set_option maxRecDepth 20000 in
theorem gX4_releaseTimedTasks_Jx4a65c_get_915e3 : GoodIn wsX4_releaseTimedTasks (wsV RX4 171 RJx4a65c yJx4a65c_get_915e3 wsJx4a65c_get_915e3) := goodIn_app (goodIn_of _ (by decide +kernel)) ggX4_releaseTimedTasks_Jx4a65c_get_915e3
set_option maxRecDepth 20000 in
theorem ggX4_releaseTimedTasks_X3_isTimed : GoodIn wsX4_releaseTimedTasks wsX3_isTimed := goodIn_r _ [30, 31, 43, 44, 45, 46, 47, 48, 49, 50, 51, 52, 53, 54, 55, 56, 57, 58] (by decide +kernel) (by decide +kernel)
set_option maxRecDepth 20000 in
theorem gX4_releaseTimedTasks_X3_isTimed_n211 : GoodIn wsX4_releaseTimedTasks (wsX3_isTimed) := ggX4_releaseTimedTasks_X3_isTimed
set_option maxRecDepth 20000 in
theorem ggX4_work_X0_paceUnder : GoodIn wsX4_work wsX0_paceUnder := goodIn_r _ [11, 12, 13, 47, 48, 49] (by decide +kernel) (by decide +kernel)
set_option maxRecDepth 20000 in
theorem gX4_work_X0_paceUnder_n99 : GoodIn wsX4_work (wsX0_paceUnder) := ggX4_work_X0_paceUnder
set_option maxRecDepth 20000 in
theorem ggX4_changeHeat_X0_paceUnder : GoodIn wsX4_changeHeat wsX0_paceUnder := goodIn_r _ [9, 10, 11, 12, 13, 14] (by decide +kernel) (by decide +kernel)
set_option maxRecDepth 20000 in
theorem gX4_changeHeat_X0_paceUnder_n99 : GoodIn wsX4_changeHeat (wsX0_paceUnder) := ggX4_changeHeat_X0_paceUnder
set_option maxRecDepth 20000 in
theorem ggX4_bothWaysChooseAlike_Jx4a65c_size_8abf5 : GoodIn wsX4_bothWaysChooseAlike wsJx4a65c_size_8abf5 := goodIn_r _ [6, 7, 134, 135, 136] (by decide +kernel) (by decide +kernel)
set_option maxRecDepth 20000 in
theorem gX4_bothWaysChooseAlike_Jx4a65c_size_8abf5 : GoodIn wsX4_bothWaysChooseAlike (wsV RX4 69 RJx4a65c yJx4a65c_size_8abf5 wsJx4a65c_size_8abf5) := goodIn_app (goodIn_of _ (by decide +kernel)) ggX4_bothWaysChooseAlike_Jx4a65c_size_8abf5
set_option maxRecDepth 20000 in
theorem ggX4_bothWaysChooseAlike_X4_choice : GoodIn wsX4_bothWaysChooseAlike wsX4_choice := goodIn_ca (goodIn_r _ [12, 13, 14, 15, 16, 17, 11, 18, 1, 19, 2, 3, 4, 5, 6, 7, 20, 21, 22, 23, 24, 25, 26, 27, 28, 29, 30, 31, 32, 33, 34, 35, 36, 37, 38, 39, 40, 41, 42, 43, 44, 45, 46, 47, 48, 49, 50, 51, 52, 53, 54, 55, 56, 57, 58, 59, 60, 61, 62, 63, 64, 65, 66, 67, 68, 69, 70, 71, 72, 73, 74, 75, 76, 77, 78, 79, 80, 81, 82, 83, 84, 85, 86, 87, 88, 89, 90, 91, 92, 93, 94, 95, 96, 97, 98, 99, 100, 101, 102, 103, 104, 105, 106, 107, 108, 109, 110, 111, 112, 113, 114, 115, 116, 117, 118, 137, 138, 139, 123, 124, 125, 126, 127, 128, 129, 130, 131, 132, 133, 134, 135, 136, 140, 141, 142, 143, 144, 145, 146, 147, 148, 149, 150, 151, 152, 153, 154, 155, 156, 157, 158, 159, 160, 161, 162, 163] (by decide +kernel) (by decide +kernel)) (goodIn_sub (fun _ h => List.mem_cons_of_mem _ (List.mem_append_right _ h)) (by decide +kernel))
set_option maxRecDepth 20000 in
theorem gX4_bothWaysChooseAlike_X4_choice : GoodIn wsX4_bothWaysChooseAlike (wsV RX4 372 RX4 yX4_choice wsX4_choice) := goodIn_app (goodIn_of _ (by decide +kernel)) ggX4_bothWaysChooseAlike_X4_choice
set_option maxRecDepth 20000 in
theorem ggX4_bothWaysChooseAlike_X4_choiceByComparing : GoodIn wsX4_bothWaysChooseAlike wsX4_choiceByComparing := goodIn_ca (goodIn_r _ [122, 13, 14, 15, 16, 17, 11, 18, 1, 19, 2, 3, 4, 5, 6, 7, 20, 21, 22, 23, 24, 25, 26, 27, 28, 29, 30, 31, 32, 33, 34, 35, 36, 37, 38, 39, 40, 41, 42, 43, 44, 45, 46, 47, 48, 49, 50, 51, 52, 53, 54, 55, 56, 57, 58, 59, 60, 61, 62, 63, 64, 65, 66, 67, 68, 69, 70, 71, 72, 73, 74, 75, 76, 77, 78, 79, 80, 81, 82, 83, 84, 85, 86, 87, 88, 89, 90, 91, 92, 93, 94, 95, 96, 97, 98, 99, 100, 101, 102, 103, 104, 105, 106, 107, 108, 109, 110, 111, 112, 113, 114, 115, 116, 117, 118, 137, 138, 139, 123, 124, 125, 126, 127, 128, 129, 130, 131, 132, 133, 134, 135, 136, 140, 141, 142, 143, 144, 145, 146, 147, 148, 149, 150, 151, 152, 153, 154, 155, 156, 157, 158, 159, 160, 161, 162, 163] (by decide +kernel) (by decide +kernel)) (goodIn_sub (fun _ h => List.mem_cons_of_mem _ (List.mem_append_right _ h)) (by decide +kernel))
set_option maxRecDepth 20000 in
theorem gX4_bothWaysChooseAlike_X4_choiceByComparing : GoodIn wsX4_bothWaysChooseAlike (wsV RX4 375 RX4 yX4_choiceByComparing wsX4_choiceByComparing) := goodIn_app (goodIn_of _ (by decide +kernel)) ggX4_bothWaysChooseAlike_X4_choiceByComparing
set_option maxRecDepth 20000 in
theorem ggX4_doneAddsUp_Jx4a65c_size_8abf5 : GoodIn wsX4_doneAddsUp wsJx4a65c_size_8abf5 := goodIn_r _ [8, 9, 60, 61, 62] (by decide +kernel) (by decide +kernel)
set_option maxRecDepth 20000 in
theorem gX4_doneAddsUp_Jx4a65c_size_8abf5 : GoodIn wsX4_doneAddsUp (wsV RX4 69 RJx4a65c yJx4a65c_size_8abf5 wsJx4a65c_size_8abf5) := goodIn_app (goodIn_of _ (by decide +kernel)) ggX4_doneAddsUp_Jx4a65c_size_8abf5
set_option maxRecDepth 20000 in
theorem ggX4_doneAddsUp_Jx4a65c_get_915e3 : GoodIn wsX4_doneAddsUp wsJx4a65c_get_915e3 := goodIn_r _ [13, 9, 14, 15, 16, 17, 18, 19, 20, 21, 22, 23, 24, 7, 25, 26, 60, 61, 62] (by decide +kernel) (by decide +kernel)
set_option maxRecDepth 20000 in
theorem gX4_doneAddsUp_Jx4a65c_get_915e3 : GoodIn wsX4_doneAddsUp (wsV RX4 171 RJx4a65c yJx4a65c_get_915e3 wsJx4a65c_get_915e3) := goodIn_app (goodIn_of _ (by decide +kernel)) ggX4_doneAddsUp_Jx4a65c_get_915e3
set_option maxRecDepth 20000 in
theorem ggX4_noneWaitsForItself_Jx4a65c_size_8abf5 : GoodIn wsX4_noneWaitsForItself wsJx4a65c_size_8abf5 := goodIn_r _ [7, 8, 55, 56, 57] (by decide +kernel) (by decide +kernel)
set_option maxRecDepth 20000 in
theorem gX4_noneWaitsForItself_Jx4a65c_size_8abf5 : GoodIn wsX4_noneWaitsForItself (wsV RX4 69 RJx4a65c yJx4a65c_size_8abf5 wsJx4a65c_size_8abf5) := goodIn_app (goodIn_of _ (by decide +kernel)) ggX4_noneWaitsForItself_Jx4a65c_size_8abf5
set_option maxRecDepth 20000 in
theorem ggX4_noneWaitsForItself_Jx4a65c_get_915e3 : GoodIn wsX4_noneWaitsForItself wsJx4a65c_get_915e3 := goodIn_r _ [12, 8, 13, 14, 15, 16, 17, 18, 19, 20, 21, 22, 23, 6, 24, 25, 55, 56, 57] (by decide +kernel) (by decide +kernel)
set_option maxRecDepth 20000 in
theorem gX4_noneWaitsForItself_Jx4a65c_get_915e3 : GoodIn wsX4_noneWaitsForItself (wsV RX4 171 RJx4a65c yJx4a65c_get_915e3 wsJx4a65c_get_915e3) := goodIn_app (goodIn_of _ (by decide +kernel)) ggX4_noneWaitsForItself_Jx4a65c_get_915e3
set_option maxRecDepth 20000 in
theorem ggX5_addCore_X5_in : GoodIn wsX5_addCore wsX5_in := goodIn_r _ [8] (by decide +kernel) (by decide +kernel)
set_option maxRecDepth 20000 in
theorem gX5_addCore_X5_in : GoodIn wsX5_addCore (va_wsS RX5 96 yX5_in wsX5_in) := goodIn_app (goodIn_of _ (by decide +kernel)) ggX5_addCore_X5_in
set_option maxRecDepth 20000 in
theorem ggX5_setLimit_X5_in : GoodIn wsX5_setLimit wsX5_in := goodIn_r _ [7] (by decide +kernel) (by decide +kernel)
set_option maxRecDepth 20000 in
theorem gX5_setLimit_X5_in : GoodIn wsX5_setLimit (va_wsS RX5 96 yX5_in wsX5_in) := goodIn_app (goodIn_of _ (by decide +kernel)) ggX5_setLimit_X5_in
set_option maxRecDepth 20000 in
theorem ggX5_setCap_X5_in : GoodIn wsX5_setCap wsX5_in := goodIn_r _ [7] (by decide +kernel) (by decide +kernel)
set_option maxRecDepth 20000 in
theorem gX5_setCap_X5_in : GoodIn wsX5_setCap (va_wsS RX5 96 yX5_in wsX5_in) := goodIn_app (goodIn_of _ (by decide +kernel)) ggX5_setCap_X5_in
set_option maxRecDepth 20000 in
theorem ggX5_isCore_X5_in : GoodIn wsX5_isCore wsX5_in := goodIn_r _ [6] (by decide +kernel) (by decide +kernel)
set_option maxRecDepth 20000 in
theorem gX5_isCore_X5_in : GoodIn wsX5_isCore (va_wsS RX5 96 yX5_in wsX5_in) := goodIn_app (goodIn_of _ (by decide +kernel)) ggX5_isCore_X5_in
set_option maxRecDepth 20000 in
theorem ggX5_heat_X5_isCore : GoodIn wsX5_heat wsX5_isCore := goodIn_r _ [6, 7, 8, 9, 10, 5, 11, 12, 13, 14, 15, 16, 17, 18, 19, 20, 21, 22, 23, 24, 25, 26, 27, 28, 29, 30, 31, 32, 33, 34, 35, 36, 37, 38, 39, 40, 41, 42, 43, 44, 45] (by decide +kernel) (by decide +kernel)
set_option maxRecDepth 20000 in
theorem gX5_heat_X5_isCore : GoodIn wsX5_heat (wsV RX5 107 RX5 yX5_isCore wsX5_isCore) := goodIn_app (goodIn_of _ (by decide +kernel)) ggX5_heat_X5_isCore
set_option maxRecDepth 20000 in
theorem ggX5_pace_X5_isCore : GoodIn wsX5_pace wsX5_isCore := goodIn_r _ [5, 6, 7, 8, 9, 4, 10, 18, 19, 20, 21, 22, 23, 24, 25, 26, 27, 28, 29, 30, 31, 32, 33, 34, 35, 36, 37, 38, 39, 40, 41, 42, 43, 44, 45, 46, 47, 48, 49, 50, 51] (by decide +kernel) (by decide +kernel)
set_option maxRecDepth 20000 in
theorem gX5_pace_X5_isCore : GoodIn wsX5_pace (wsV RX5 107 RX5 yX5_isCore wsX5_isCore) := goodIn_app (goodIn_of _ (by decide +kernel)) ggX5_pace_X5_isCore
set_option maxRecDepth 20000 in
theorem ggX5_pace_X5_paceOf : GoodIn wsX5_pace wsX5_paceOf := goodIn_ca (goodIn_r _ [14, 15, 16, 17, 18, 19, 20, 21, 22, 23, 24, 25, 26, 27, 28, 29, 30, 31, 32, 33, 34, 35, 36, 37, 38, 39, 40, 41, 42, 43, 44, 45, 46, 47, 48, 49, 50, 51] (by decide +kernel) (by decide +kernel)) (goodIn_sub (fun _ h => List.mem_cons_of_mem _ (List.mem_append_right _ h)) (by decide +kernel))
set_option maxRecDepth 20000 in
theorem gX5_pace_X5_paceOf : GoodIn wsX5_pace (wsV RX5 111 RX5 yX5_paceOf wsX5_paceOf) := goodIn_app (goodIn_of _ (by decide +kernel)) ggX5_pace_X5_paceOf
set_option maxRecDepth 20000 in
theorem ggX5_isGroup_X5_in : GoodIn wsX5_isGroup wsX5_in := goodIn_r _ [5] (by decide +kernel) (by decide +kernel)
set_option maxRecDepth 20000 in
theorem gX5_isGroup_X5_in : GoodIn wsX5_isGroup (va_wsS RX5 96 yX5_in wsX5_in) := goodIn_app (goodIn_of _ (by decide +kernel)) ggX5_isGroup_X5_in
set_option maxRecDepth 20000 in
theorem ggX5_addGroup_X5_isGroup : GoodIn wsX5_addGroup wsX5_isGroup := goodIn_r _ [11, 2, 12, 13, 10, 14, 23, 24, 25, 26, 27, 28, 29, 30, 31, 32, 33, 34, 35, 36, 37, 38, 39, 40, 41, 42, 43, 44, 45, 46, 47, 48, 49, 50, 51, 52, 53, 54, 55, 56] (by decide +kernel) (by decide +kernel)
set_option maxRecDepth 20000 in
theorem gX5_addGroup_X5_isGroup : GoodIn wsX5_addGroup (wsV RX5 120 RX5 yX5_isGroup wsX5_isGroup) := goodIn_app (goodIn_of _ (by decide +kernel)) ggX5_addGroup_X5_isGroup
set_option maxRecDepth 20000 in
theorem ggX5_addGroup_X5_in : GoodIn wsX5_addGroup wsX5_in := goodIn_r _ [14] (by decide +kernel) (by decide +kernel)
set_option maxRecDepth 20000 in
theorem gX5_addGroup_X5_in : GoodIn wsX5_addGroup (va_wsS RX5 96 yX5_in wsX5_in) := goodIn_app (goodIn_of _ (by decide +kernel)) ggX5_addGroup_X5_in
set_option maxRecDepth 20000 in
theorem ggX5_addGroup_X5_leastIn : GoodIn wsX5_addGroup wsX5_leastIn := goodIn_ca (goodIn_r _ [18, 19, 2, 5, 4, 20, 21, 22, 23, 24, 25, 26, 27, 28, 29, 30, 31, 32, 33, 34, 35, 36, 37, 38, 39, 40, 41, 42, 43, 44, 45, 46, 47, 48, 49, 50, 51, 52, 53, 54, 55, 56] (by decide +kernel) (by decide +kernel)) (goodIn_sub (fun _ h => List.mem_cons_of_mem _ (List.mem_append_right _ h)) (by decide +kernel))
set_option maxRecDepth 20000 in
theorem gX5_addGroup_X5_leastIn : GoodIn wsX5_addGroup (wsV RX5 125 RX5 yX5_leastIn wsX5_leastIn) := goodIn_app (goodIn_of _ (by decide +kernel)) ggX5_addGroup_X5_leastIn
set_option maxRecDepth 20000 in
theorem ggX5_adds_X5_leastIn : GoodIn wsX5_adds wsX5_leastIn := goodIn_ca (goodIn_r _ [20, 21, 22, 23, 24, 1, 3, 2, 25, 26, 27, 28, 29, 30, 31, 32, 33, 34, 35, 36, 37, 38, 39, 40, 41, 42, 43, 44, 45, 46, 47, 48, 49, 50, 51, 52, 53, 54, 55, 56, 57, 58] (by decide +kernel) (by decide +kernel)) (goodIn_sub (fun _ h => List.mem_cons_of_mem _ (List.mem_append_right _ h)) (by decide +kernel))
set_option maxRecDepth 20000 in
theorem gX5_adds_X5_leastIn : GoodIn wsX5_adds (wsV RX5 125 RX5 yX5_leastIn wsX5_leastIn) := goodIn_app (goodIn_of _ (by decide +kernel)) ggX5_adds_X5_leastIn
set_option maxRecDepth 20000 in
theorem ggX5_addPlain_X5_in : GoodIn wsX5_addPlain wsX5_in := goodIn_r _ [8] (by decide +kernel) (by decide +kernel)
set_option maxRecDepth 20000 in
theorem gX5_addPlain_X5_in : GoodIn wsX5_addPlain (va_wsS RX5 96 yX5_in wsX5_in) := goodIn_app (goodIn_of _ (by decide +kernel)) ggX5_addPlain_X5_in
set_option maxRecDepth 20000 in
theorem ggX5_addPlain_X5_isGroup : GoodIn wsX5_addPlain wsX5_isGroup := goodIn_r _ [12, 13, 5, 6, 7, 8, 39, 40, 41, 42, 43, 44, 45, 46, 47, 48, 49, 50, 51, 52, 53, 54, 55, 56, 57, 58, 59, 60, 61, 62, 63, 64, 65, 66, 67, 68, 69, 70, 71, 72] (by decide +kernel) (by decide +kernel)
set_option maxRecDepth 20000 in
theorem gX5_addPlain_X5_isGroup : GoodIn wsX5_addPlain (wsV RX5 120 RX5 yX5_isGroup wsX5_isGroup) := goodIn_app (goodIn_of _ (by decide +kernel)) ggX5_addPlain_X5_isGroup
set_option maxRecDepth 20000 in
theorem ggX5_addPlain_X5_adds : GoodIn wsX5_addPlain wsX5_adds := goodIn_ca (goodIn_r _ [17, 3, 18, 19, 20, 21, 22, 23, 24, 25, 26, 27, 28, 29, 30, 31, 32, 33, 34, 7, 35, 36, 13, 37, 38, 39, 40, 41, 42, 43, 44, 45, 46, 47, 48, 49, 50, 51, 52, 53, 54, 55, 56, 57, 58, 59, 60, 61, 62, 63, 64, 65, 66, 67, 68, 69, 70, 71, 72] (by decide +kernel) (by decide +kernel)) (goodIn_sub (fun _ h => List.mem_cons_of_mem _ (List.mem_append_right _ h)) (by decide +kernel))
set_option maxRecDepth 20000 in
theorem gX5_addPlain_X5_adds : GoodIn wsX5_addPlain (wsV RX5 134 RX5 yX5_adds wsX5_adds) := goodIn_app (goodIn_of _ (by decide +kernel)) ggX5_addPlain_X5_adds
set_option maxRecDepth 20000 in
theorem ggX5_shares_X5_share : GoodIn wsX5_shares wsX5_share := goodIn_ca (goodIn_r _ [8] (by decide +kernel) (by decide +kernel)) (goodIn_sub (fun _ h => List.mem_cons_of_mem _ (List.mem_append_right _ h)) (by decide +kernel))
set_option maxRecDepth 20000 in
theorem gX5_shares_X5_share : GoodIn wsX5_shares (va_wsS RX5 138 yX5_share wsX5_share) := goodIn_app (goodIn_of _ (by decide +kernel)) ggX5_shares_X5_share
set_option maxRecDepth 20000 in
theorem ggX5_addTimed_X5_in : GoodIn wsX5_addTimed wsX5_in := goodIn_r _ [10] (by decide +kernel) (by decide +kernel)
set_option maxRecDepth 20000 in
theorem gX5_addTimed_X5_in : GoodIn wsX5_addTimed (va_wsS RX5 96 yX5_in wsX5_in) := goodIn_app (goodIn_of _ (by decide +kernel)) ggX5_addTimed_X5_in
set_option maxRecDepth 20000 in
theorem ggX5_addTimed_X5_isGroup : GoodIn wsX5_addTimed wsX5_isGroup := goodIn_r _ [14, 15, 7, 8, 9, 10, 55, 56, 57, 58, 59, 60, 61, 62, 63, 64, 65, 66, 67, 68, 69, 70, 71, 72, 73, 74, 75, 76, 77, 78, 79, 80, 81, 82, 83, 84, 85, 86, 87, 88] (by decide +kernel) (by decide +kernel)
set_option maxRecDepth 20000 in
theorem gX5_addTimed_X5_isGroup : GoodIn wsX5_addTimed (wsV RX5 120 RX5 yX5_isGroup wsX5_isGroup) := goodIn_app (goodIn_of _ (by decide +kernel)) ggX5_addTimed_X5_isGroup
set_option maxRecDepth 20000 in
theorem ggX5_addTimed_X5_shares : GoodIn wsX5_addTimed wsX5_shares := goodIn_ca (goodIn_ca (goodIn_r _ [19, 6, 20, 21, 22, 23, 24, 9, 25, 55, 56, 57, 58, 59, 60, 61, 62, 63, 64, 65, 66, 67, 68, 69, 70, 71, 72, 73, 74, 75, 76, 77, 78, 79, 80, 81, 82, 83, 84, 85, 86, 87, 88] (by decide +kernel) (by decide +kernel)) (goodIn_sub (fun _ h => List.mem_cons_of_mem _ (List.mem_append_left _ (List.mem_append_right _ h))) (by decide +kernel))) (goodIn_sub (fun _ h => List.mem_cons_of_mem _ (List.mem_append_right _ h)) (by decide +kernel))
set_option maxRecDepth 20000 in
theorem gX5_addTimed_X5_shares : GoodIn wsX5_addTimed (wsV RX5 148 RX5 yX5_shares wsX5_shares) := goodIn_app (goodIn_of _ (by decide +kernel)) ggX5_addTimed_X5_shares
set_option maxRecDepth 20000 in
theorem ggX5_addTimed_X5_share : GoodIn wsX5_addTimed wsX5_share := goodIn_ca (goodIn_r _ [25] (by decide +kernel) (by decide +kernel)) (goodIn_sub (fun _ h => List.mem_cons_of_mem _ (List.mem_append_right _ h)) (by decide +kernel))
set_option maxRecDepth 20000 in
theorem gX5_addTimed_X5_share : GoodIn wsX5_addTimed (va_wsS RX5 138 yX5_share wsX5_share) := goodIn_app (goodIn_of _ (by decide +kernel)) ggX5_addTimed_X5_share
set_option maxRecDepth 20000 in
theorem ggX5_addTimed_X5_promised : GoodIn wsX5_addTimed wsX5_promised := goodIn_ca (goodIn_r _ [29, 30, 31, 32, 55, 56, 57, 58, 59, 60, 61, 62, 63, 64, 65, 66, 67, 68, 69, 70, 71, 72, 73, 74, 75, 76, 77, 78, 79, 80, 81, 82, 83, 84, 85, 86, 87, 88] (by decide +kernel) (by decide +kernel)) (goodIn_sub (fun _ h => List.mem_cons_of_mem _ (List.mem_append_left _ (List.mem_append_right _ h))) (by decide +kernel))
set_option maxRecDepth 20000 in
theorem gX5_addTimed_X5_promised : GoodIn wsX5_addTimed (wsV RX5 152 RX5 yX5_promised wsX5_promised) := goodIn_app (goodIn_of _ (by decide +kernel)) ggX5_addTimed_X5_promised
set_option maxRecDepth 20000 in
theorem ggX5_addTimed_X5_adds : GoodIn wsX5_addTimed wsX5_adds := goodIn_ca (goodIn_r _ [36, 6, 37, 38, 39, 40, 20, 22, 41, 42, 43, 44, 45, 46, 21, 47, 48, 49, 50, 9, 51, 52, 15, 53, 54, 55, 56, 57, 58, 59, 60, 61, 62, 63, 64, 65, 66, 67, 68, 69, 70, 71, 72, 73, 74, 75, 76, 77, 78, 79, 80, 81, 82, 83, 84, 85, 86, 87, 88] (by decide +kernel) (by decide +kernel)) (goodIn_sub (fun _ h => List.mem_cons_of_mem _ (List.mem_append_left _ (List.mem_append_right _ h))) (by decide +kernel))
set_option maxRecDepth 20000 in
theorem gX5_addTimed_X5_adds : GoodIn wsX5_addTimed (wsV RX5 134 RX5 yX5_adds wsX5_adds) := goodIn_app (goodIn_of _ (by decide +kernel)) ggX5_addTimed_X5_adds
set_option maxRecDepth 20000 in
theorem ggX5_isTask_X5_in : GoodIn wsX5_isTask wsX5_in := goodIn_r _ [5] (by decide +kernel) (by decide +kernel)
set_option maxRecDepth 20000 in
theorem gX5_isTask_X5_in : GoodIn wsX5_isTask (va_wsS RX5 96 yX5_in wsX5_in) := goodIn_app (goodIn_of _ (by decide +kernel)) ggX5_isTask_X5_in
set_option maxRecDepth 20000 in
theorem ggX5_asks_X5_isTask : GoodIn wsX5_asks wsX5_isTask := goodIn_r _ [6, 7, 8, 9, 5, 10, 11, 12, 13, 14, 15, 16, 17, 18, 19, 20, 21, 22, 23, 24, 25, 26, 27, 28, 29, 30, 31, 32, 33, 34, 35, 36, 37, 38, 39, 40, 41, 42, 43, 44] (by decide +kernel) (by decide +kernel)
set_option maxRecDepth 20000 in
theorem gX5_asks_X5_isTask : GoodIn wsX5_asks (wsV RX5 155 RX5 yX5_isTask wsX5_isTask) := goodIn_app (goodIn_of _ (by decide +kernel)) ggX5_asks_X5_isTask
set_option maxRecDepth 20000 in
theorem ggX5_end_X5_isTask : GoodIn wsX5_end wsX5_isTask := goodIn_r _ [10, 11, 12, 13, 9, 14, 24, 25, 26, 27, 28, 29, 30, 31, 32, 33, 34, 35, 36, 37, 38, 39, 40, 41, 42, 43, 44, 45, 46, 47, 48, 49, 50, 51, 52, 53, 54, 55, 56, 57] (by decide +kernel) (by decide +kernel)
set_option maxRecDepth 20000 in
theorem gX5_end_X5_isTask : GoodIn wsX5_end (wsV RX5 155 RX5 yX5_isTask wsX5_isTask) := goodIn_app (goodIn_of _ (by decide +kernel)) ggX5_end_X5_isTask
set_option maxRecDepth 20000 in
theorem ggX5_end_X5_passesOn : GoodIn wsX5_end wsX5_passesOn := goodIn_ca (goodIn_r _ [18, 5, 4, 19, 20, 21, 9, 22, 11, 23, 24, 25, 26, 27, 28, 29, 30, 31, 32, 33, 34, 35, 36, 37, 38, 39, 40, 41, 42, 43, 44, 45, 46, 47, 48, 49, 50, 51, 52, 53, 54, 55, 56, 57] (by decide +kernel) (by decide +kernel)) (goodIn_sub (fun _ h => List.mem_cons_of_mem _ (List.mem_append_right _ h)) (by decide +kernel))
set_option maxRecDepth 20000 in
theorem gX5_end_X5_passesOn : GoodIn wsX5_end (wsV RX5 158 RX5 yX5_passesOn wsX5_passesOn) := goodIn_app (goodIn_of _ (by decide +kernel)) ggX5_end_X5_passesOn
set_option maxRecDepth 20000 in
theorem ggX5_left_X5_asks : GoodIn wsX5_left wsX5_asks := goodIn_r _ [6, 7, 8, 9, 10, 5, 11, 12, 13, 14, 15, 16, 17, 18, 19, 20, 21, 22, 23, 24, 25, 26, 27, 28, 29, 30, 31, 32, 33, 34, 35, 36, 37, 38, 39, 40, 41, 42, 43, 44, 45, 46, 47, 48, 49] (by decide +kernel) (by decide +kernel)
set_option maxRecDepth 20000 in
theorem gX5_left_X5_asks : GoodIn wsX5_left (wsV RX5 162 RX5 yX5_asks wsX5_asks) := goodIn_app (goodIn_of _ (by decide +kernel)) ggX5_left_X5_asks
set_option maxRecDepth 20000 in
theorem ggX5_stateOf_X5_asks : GoodIn wsX5_stateOf wsX5_asks := goodIn_r _ [8, 9, 10, 11, 12, 7, 13, 14, 15, 16, 17, 18, 19, 20, 21, 22, 23, 24, 25, 26, 27, 28, 29, 30, 31, 32, 33, 34, 35, 36, 37, 38, 39, 40, 41, 42, 43, 44, 45, 46, 47, 48, 49, 50, 51] (by decide +kernel) (by decide +kernel)
set_option maxRecDepth 20000 in
theorem gX5_stateOf_X5_asks : GoodIn wsX5_stateOf (wsV RX5 162 RX5 yX5_asks wsX5_asks) := goodIn_app (goodIn_of _ (by decide +kernel)) ggX5_stateOf_X5_asks
set_option maxRecDepth 20000 in
theorem ggX5_timeOf_X5_asks : GoodIn wsX5_timeOf wsX5_asks := goodIn_r _ [7, 8, 9, 10, 11, 6, 12, 13, 14, 15, 16, 17, 18, 19, 20, 21, 22, 23, 24, 25, 26, 27, 28, 29, 30, 31, 32, 33, 34, 35, 36, 37, 38, 39, 40, 41, 42, 43, 44, 45, 46, 47, 48, 49, 50] (by decide +kernel) (by decide +kernel)
set_option maxRecDepth 20000 in
theorem gX5_timeOf_X5_asks : GoodIn wsX5_timeOf (wsV RX5 162 RX5 yX5_asks wsX5_asks) := goodIn_app (goodIn_of _ (by decide +kernel)) ggX5_timeOf_X5_asks
set_option maxRecDepth 20000 in
theorem ggX5_timeOfGroup_X5_in : GoodIn wsX5_timeOfGroup wsX5_in := goodIn_r _ [8] (by decide +kernel) (by decide +kernel)
set_option maxRecDepth 20000 in
theorem gX5_timeOfGroup_X5_in : GoodIn wsX5_timeOfGroup (va_wsS RX5 96 yX5_in wsX5_in) := goodIn_app (goodIn_of _ (by decide +kernel)) ggX5_timeOfGroup_X5_in
set_option maxRecDepth 20000 in
theorem ggX5_doneBy_X5_asks : GoodIn wsX5_doneBy wsX5_asks := goodIn_r _ [6, 7, 8, 9, 10, 5, 11, 12, 13, 14, 15, 16, 17, 18, 19, 20, 21, 22, 23, 24, 25, 26, 27, 28, 29, 30, 31, 32, 33, 34, 35, 36, 37, 38, 39, 40, 41, 42, 43, 44, 45, 46, 47, 48, 49] (by decide +kernel) (by decide +kernel)
set_option maxRecDepth 20000 in
theorem gX5_doneBy_X5_asks : GoodIn wsX5_doneBy (wsV RX5 162 RX5 yX5_asks wsX5_asks) := goodIn_app (goodIn_of _ (by decide +kernel)) ggX5_doneBy_X5_asks
set_option maxRecDepth 20000 in
theorem ggX5_doneIn_X5_isGroup : GoodIn wsX5_doneIn wsX5_isGroup := goodIn_r _ [9, 10, 11, 12, 8, 13, 19, 20, 21, 22, 23, 24, 25, 26, 27, 28, 29, 30, 31, 32, 33, 34, 35, 36, 37, 38, 39, 40, 41, 42, 43, 44, 45, 46, 47, 48, 49, 50, 51, 52] (by decide +kernel) (by decide +kernel)
set_option maxRecDepth 20000 in
theorem gX5_doneIn_X5_isGroup : GoodIn wsX5_doneIn (wsV RX5 120 RX5 yX5_isGroup wsX5_isGroup) := goodIn_app (goodIn_of _ (by decide +kernel)) ggX5_doneIn_X5_isGroup
set_option maxRecDepth 20000 in
theorem ggX5_doneIn_X5_isUnder : GoodIn wsX5_doneIn wsX5_isUnder := goodIn_ca (goodIn_r _ [17, 18, 19, 20, 21, 22, 23, 24, 25, 26, 27, 28, 29, 30, 31, 32, 33, 34, 35, 36, 37, 38, 39, 40, 41, 42, 43, 44, 45, 46, 47, 48, 49, 50, 51, 52] (by decide +kernel) (by decide +kernel)) (goodIn_sub (fun _ h => List.mem_cons_of_mem _ (List.mem_append_right _ h)) (by decide +kernel))
set_option maxRecDepth 20000 in
theorem gX5_doneIn_X5_isUnder : GoodIn wsX5_doneIn (wsV RX5 165 RX5 yX5_isUnder wsX5_isUnder) := goodIn_app (goodIn_of _ (by decide +kernel)) ggX5_doneIn_X5_isUnder
set_option maxRecDepth 20000 in
theorem ggX5_admitted_X5_shares : GoodIn wsX5_admitted wsX5_shares := goodIn_ca (goodIn_ca (goodIn_r _ [6, 7, 8, 9, 10, 11, 12, 5, 13, 14, 15, 16, 17, 18, 19, 20, 21, 22, 23, 24, 25, 26, 27, 28, 29, 30, 31, 32, 33, 34, 35, 36, 37, 38, 39, 40, 41, 42, 43, 44, 45, 46, 47] (by decide +kernel) (by decide +kernel)) (goodIn_sub (fun _ h => List.mem_cons_of_mem _ (List.mem_append_left _ (List.mem_append_right _ h))) (by decide +kernel))) (goodIn_sub (fun _ h => List.mem_cons_of_mem _ (List.mem_append_right _ h)) (by decide +kernel))
set_option maxRecDepth 20000 in
theorem gX5_admitted_X5_shares : GoodIn wsX5_admitted (wsV RX5 148 RX5 yX5_shares wsX5_shares) := goodIn_app (goodIn_of _ (by decide +kernel)) ggX5_admitted_X5_shares
set_option maxRecDepth 20000 in
theorem ggX5_promise_X5_promised : GoodIn wsX5_promise wsX5_promised := goodIn_ca (goodIn_r _ [6, 7, 8, 9, 10, 11, 12, 13, 14, 15, 16, 17, 18, 19, 20, 21, 22, 23, 24, 25, 26, 27, 28, 29, 30, 31, 32, 33, 34, 35, 36, 37, 38, 39, 40, 41, 42, 43] (by decide +kernel) (by decide +kernel)) (goodIn_sub (fun _ h => List.mem_cons_of_mem _ (List.mem_append_right _ h)) (by decide +kernel))
set_option maxRecDepth 20000 in
theorem gX5_promise_X5_promised : GoodIn wsX5_promise (wsV RX5 152 RX5 yX5_promised wsX5_promised) := goodIn_app (goodIn_of _ (by decide +kernel)) ggX5_promise_X5_promised
set_option maxRecDepth 20000 in
theorem ggX5_deadlineOf_X5_isTask : GoodIn wsX5_deadlineOf wsX5_isTask := goodIn_r _ [8, 9, 10, 11, 7, 12, 13, 14, 15, 16, 17, 18, 19, 20, 21, 22, 23, 24, 25, 26, 27, 28, 29, 30, 31, 32, 33, 34, 35, 36, 37, 38, 39, 40, 41, 42, 43, 44, 45, 46] (by decide +kernel) (by decide +kernel)
set_option maxRecDepth 20000 in
theorem gX5_deadlineOf_X5_isTask : GoodIn wsX5_deadlineOf (wsV RX5 155 RX5 yX5_isTask wsX5_isTask) := goodIn_app (goodIn_of _ (by decide +kernel)) ggX5_deadlineOf_X5_isTask
set_option maxRecDepth 20000 in
theorem ggX5_urgencyOf_X5_findsUrgencies : GoodIn wsX5_urgencyOf wsX5_findsUrgencies := goodIn_ca (goodIn_r _ [8, 9, 1, 10, 11, 12, 2, 13, 14, 22, 23, 24, 25, 26, 27, 28, 29, 30, 31, 32, 33, 34, 35, 36, 37, 38, 39, 40, 41, 42, 43, 44, 45, 46, 47, 48, 49, 50, 51, 52, 53, 54, 55] (by decide +kernel) (by decide +kernel)) (goodIn_sub (fun _ h => List.mem_cons_of_mem _ (List.mem_append_right _ h)) (by decide +kernel))
set_option maxRecDepth 20000 in
theorem gX5_urgencyOf_X5_findsUrgencies : GoodIn wsX5_urgencyOf (wsV RX5 170 RX5 yX5_findsUrgencies wsX5_findsUrgencies) := goodIn_app (goodIn_of _ (by decide +kernel)) ggX5_urgencyOf_X5_findsUrgencies
set_option maxRecDepth 20000 in
theorem ggX5_urgencyOf_X5_isTask : GoodIn wsX5_urgencyOf wsX5_isTask := goodIn_r _ [18, 9, 19, 20, 7, 21, 22, 23, 24, 25, 26, 27, 28, 29, 30, 31, 32, 33, 34, 35, 36, 37, 38, 39, 40, 41, 42, 43, 44, 45, 46, 47, 48, 49, 50, 51, 52, 53, 54, 55] (by decide +kernel) (by decide +kernel)
set_option maxRecDepth 20000 in
theorem gX5_urgencyOf_X5_isTask : GoodIn wsX5_urgencyOf (wsV RX5 155 RX5 yX5_isTask wsX5_isTask) := goodIn_app (goodIn_of _ (by decide +kernel)) ggX5_urgencyOf_X5_isTask
set_option maxRecDepth 20000 in
theorem ggX5_missesOf_X5_asks : GoodIn wsX5_missesOf wsX5_asks := goodIn_r _ [6, 7, 8, 9, 10, 5, 11, 12, 13, 14, 15, 16, 17, 18, 19, 20, 21, 22, 23, 24, 25, 26, 27, 28, 29, 30, 31, 32, 33, 34, 35, 36, 37, 38, 39, 40, 41, 42, 43, 44, 45, 46, 47, 48, 49] (by decide +kernel) (by decide +kernel)
set_option maxRecDepth 20000 in
theorem gX5_missesOf_X5_asks : GoodIn wsX5_missesOf (wsV RX5 162 RX5 yX5_asks wsX5_asks) := goodIn_app (goodIn_of _ (by decide +kernel)) ggX5_missesOf_X5_asks
set_option maxRecDepth 20000 in
theorem ggX5_isLock_X5_in : GoodIn wsX5_isLock wsX5_in := goodIn_r _ [5] (by decide +kernel) (by decide +kernel)
set_option maxRecDepth 20000 in
theorem gX5_isLock_X5_in : GoodIn wsX5_isLock (va_wsS RX5 96 yX5_in wsX5_in) := goodIn_app (goodIn_of _ (by decide +kernel)) ggX5_isLock_X5_in
set_option maxRecDepth 20000 in
theorem ggX5_passesOn_X5_waiter : GoodIn wsX5_passesOn wsX5_waiter := goodIn_ca (goodIn_r _ [7, 8, 2, 9, 10, 11, 12, 13, 14, 15, 16, 17, 18, 19, 20, 21, 22, 23, 24, 25, 26, 27, 28, 29, 30, 31, 32, 33, 34, 35, 36, 37, 38, 39, 40, 41, 42, 43] (by decide +kernel) (by decide +kernel)) (goodIn_sub (fun _ h => List.mem_cons_of_mem _ (List.mem_append_right _ h)) (by decide +kernel))
set_option maxRecDepth 20000 in
theorem gX5_passesOn_X5_waiter : GoodIn wsX5_passesOn (wsV RX5 175 RX5 yX5_waiter wsX5_waiter) := goodIn_app (goodIn_of _ (by decide +kernel)) ggX5_passesOn_X5_waiter
set_option maxRecDepth 20000 in
theorem ggX5_take_X5_isTask : GoodIn wsX5_take wsX5_isTask := goodIn_r _ [11, 12, 13, 14, 10, 15, 24, 25, 26, 27, 28, 29, 30, 31, 32, 33, 34, 35, 36, 37, 38, 39, 40, 41, 42, 43, 44, 45, 46, 47, 48, 49, 50, 51, 52, 53, 54, 55, 56, 57] (by decide +kernel) (by decide +kernel)
set_option maxRecDepth 20000 in
theorem gX5_take_X5_isTask : GoodIn wsX5_take (wsV RX5 155 RX5 yX5_isTask wsX5_isTask) := goodIn_app (goodIn_of _ (by decide +kernel)) ggX5_take_X5_isTask
set_option maxRecDepth 20000 in
theorem ggX5_take_X5_isLock : GoodIn wsX5_take wsX5_isLock := goodIn_r _ [18, 19, 13, 14, 10, 15] (by decide +kernel) (by decide +kernel)
set_option maxRecDepth 20000 in
theorem gX5_take_X5_isLock : GoodIn wsX5_take (va_wsS RX5 178 yX5_isLock wsX5_isLock) := goodIn_app (goodIn_of _ (by decide +kernel)) ggX5_take_X5_isLock
set_option maxRecDepth 20000 in
theorem ggX5_take_X5_closesRing : GoodIn wsX5_take wsX5_closesRing := goodIn_ca (goodIn_r _ [23, 4, 3, 24, 25, 26, 27, 28, 29, 30, 31, 32, 33, 34, 35, 36, 37, 38, 39, 40, 41, 42, 43, 44, 45, 46, 47, 48, 49, 50, 51, 52, 53, 54, 55, 56, 57] (by decide +kernel) (by decide +kernel)) (goodIn_sub (fun _ h => List.mem_cons_of_mem _ (List.mem_append_right _ h)) (by decide +kernel))
set_option maxRecDepth 20000 in
theorem gX5_take_X5_closesRing : GoodIn wsX5_take (wsV RX5 181 RX5 yX5_closesRing wsX5_closesRing) := goodIn_app (goodIn_of _ (by decide +kernel)) ggX5_take_X5_closesRing
set_option maxRecDepth 20000 in
theorem ggX5_release_X5_isLock : GoodIn wsX5_release wsX5_isLock := goodIn_r _ [6, 7, 8, 9, 5, 10] (by decide +kernel) (by decide +kernel)
set_option maxRecDepth 20000 in
theorem gX5_release_X5_isLock : GoodIn wsX5_release (va_wsS RX5 178 yX5_isLock wsX5_isLock) := goodIn_app (goodIn_of _ (by decide +kernel)) ggX5_release_X5_isLock
set_option maxRecDepth 20000 in
theorem ggX5_release_X5_passesOn : GoodIn wsX5_release wsX5_passesOn := goodIn_ca (goodIn_r _ [14, 1, 15, 16, 17, 18, 5, 19, 20, 21, 22, 23, 24, 25, 26, 27, 28, 29, 30, 31, 32, 33, 34, 35, 36, 37, 38, 39, 40, 41, 42, 43, 44, 45, 46, 47, 48, 49, 50, 51, 52, 53, 54, 55] (by decide +kernel) (by decide +kernel)) (goodIn_sub (fun _ h => List.mem_cons_of_mem _ (List.mem_append_right _ h)) (by decide +kernel))
set_option maxRecDepth 20000 in
theorem gX5_release_X5_passesOn : GoodIn wsX5_release (wsV RX5 158 RX5 yX5_passesOn wsX5_passesOn) := goodIn_app (goodIn_of _ (by decide +kernel)) ggX5_release_X5_passesOn
set_option maxRecDepth 20000 in
theorem ggX5_holderOf_X5_isLock : GoodIn wsX5_holderOf wsX5_isLock := goodIn_r _ [6, 7, 8, 9, 5, 10] (by decide +kernel) (by decide +kernel)
set_option maxRecDepth 20000 in
theorem gX5_holderOf_X5_isLock : GoodIn wsX5_holderOf (va_wsS RX5 178 yX5_isLock wsX5_isLock) := goodIn_app (goodIn_of _ (by decide +kernel)) ggX5_holderOf_X5_isLock
set_option maxRecDepth 20000 in
theorem ggX5_waiterAt_X5_isLock : GoodIn wsX5_waiterAt wsX5_isLock := goodIn_r _ [5, 6, 7, 8, 4, 9] (by decide +kernel) (by decide +kernel)
set_option maxRecDepth 20000 in
theorem gX5_waiterAt_X5_isLock : GoodIn wsX5_waiterAt (va_wsS RX5 178 yX5_isLock wsX5_isLock) := goodIn_app (goodIn_of _ (by decide +kernel)) ggX5_waiterAt_X5_isLock
set_option maxRecDepth 20000 in
theorem ggX5_waiterAt_X5_waiter : GoodIn wsX5_waiterAt wsX5_waiter := goodIn_ca (goodIn_r _ [13, 14, 15, 16, 17, 18, 19, 20, 21, 22, 23, 24, 25, 26, 27, 28, 29, 30, 31, 32, 33, 34, 35, 36, 37, 38, 39, 40, 41, 42, 43, 44, 45, 46, 47, 48, 49, 50] (by decide +kernel) (by decide +kernel)) (goodIn_sub (fun _ h => List.mem_cons_of_mem _ (List.mem_append_right _ h)) (by decide +kernel))
set_option maxRecDepth 20000 in
theorem gX5_waiterAt_X5_waiter : GoodIn wsX5_waiterAt (wsV RX5 175 RX5 yX5_waiter wsX5_waiter) := goodIn_app (goodIn_of _ (by decide +kernel)) ggX5_waiterAt_X5_waiter
set_option maxRecDepth 20000 in
theorem ggX5_hasUnder_X5_isUnder : GoodIn wsX5_hasUnder wsX5_isUnder := goodIn_ca (goodIn_r _ [8, 9, 10, 11, 12, 13, 14, 15, 16, 17, 18, 19, 20, 21, 22, 23, 24, 25, 26, 27, 28, 29, 30, 31, 32, 33, 34, 35, 36, 37, 38, 39, 40, 41, 42, 43] (by decide +kernel) (by decide +kernel)) (goodIn_sub (fun _ h => List.mem_cons_of_mem _ (List.mem_append_right _ h)) (by decide +kernel))
set_option maxRecDepth 20000 in
theorem gX5_hasUnder_X5_isUnder : GoodIn wsX5_hasUnder (wsV RX5 165 RX5 yX5_isUnder wsX5_isUnder) := goodIn_app (goodIn_of _ (by decide +kernel)) ggX5_hasUnder_X5_isUnder
set_option maxRecDepth 20000 in
theorem ggX5_down_X5_hasUnder : GoodIn wsX5_down wsX5_hasUnder := goodIn_ca (goodIn_r _ [13, 5, 6, 7, 14, 15, 16, 12, 17, 3, 21, 22, 23, 24, 25, 26, 27, 28, 29, 30, 31, 32, 33, 34, 35, 36, 37, 38, 39, 40, 41, 42, 43, 44, 45, 46, 47, 48, 49, 50, 51, 52, 53, 54] (by decide +kernel) (by decide +kernel)) (goodIn_sub (fun _ h => List.mem_cons_of_mem _ (List.mem_append_right _ h)) (by decide +kernel))
set_option maxRecDepth 20000 in
theorem gX5_down_X5_hasUnder : GoodIn wsX5_down (wsV RX5 187 RX5 yX5_hasUnder wsX5_hasUnder) := goodIn_app (goodIn_of _ (by decide +kernel)) ggX5_down_X5_hasUnder
set_option maxRecDepth 20000 in
theorem ggX5_down_X5_down : GoodIn wsX5_down wsX5_down := goodIn_ca (goodIn_r _ [0, 1, 2, 3, 4, 5, 6, 7, 8, 9, 10, 11, 12, 13, 14, 15, 16, 17, 18, 19, 20, 21, 22, 23, 24, 25, 26, 27, 28, 29, 30, 31, 32, 33, 34, 35, 36, 37, 38, 39, 40, 41, 42, 43, 44, 45, 46, 47, 48, 49, 50, 51, 52, 53, 54] (by decide +kernel) (by decide +kernel)) (goodIn_sub (fun _ h => List.mem_cons_of_mem _ (List.mem_append_right _ h)) (by decide +kernel))
set_option maxRecDepth 20000 in
theorem gX5_down_X5_down : GoodIn wsX5_down (wsV RX5 190 RX5 yX5_down wsX5_down) := goodIn_app (goodIn_of _ (by decide +kernel)) ggX5_down_X5_down
set_option maxRecDepth 20000 in
theorem ggX5_choose_X5_down : GoodIn wsX5_choose wsX5_down := goodIn_ca (goodIn_r _ [9, 10, 11, 12, 13, 1, 2, 14, 15, 16, 17, 18, 8, 19, 20, 21, 22, 23, 5, 6, 7, 24, 25, 26, 27, 28, 29, 30, 31, 32, 33, 34, 35, 36, 37, 38, 39, 40, 41, 42, 43, 44, 45, 46, 47, 48, 49, 50, 51, 52, 53, 54, 55, 56, 57] (by decide +kernel) (by decide +kernel)) (goodIn_sub (fun _ h => List.mem_cons_of_mem _ (List.mem_append_right _ h)) (by decide +kernel))
set_option maxRecDepth 20000 in
theorem gX5_choose_X5_down : GoodIn wsX5_choose (wsV RX5 190 RX5 yX5_down wsX5_down) := goodIn_app (goodIn_of _ (by decide +kernel)) ggX5_choose_X5_down
set_option maxRecDepth 20000 in
theorem ggX5_chooses_X5_findsUrgencies : GoodIn wsX5_chooses wsX5_findsUrgencies := goodIn_ca (goodIn_r _ [10, 1, 11, 12, 13, 14, 15, 16, 17, 52, 53, 54, 55, 56, 57, 58, 59, 60, 61, 62, 63, 64, 65, 66, 67, 68, 69, 70, 71, 72, 73, 74, 75, 76, 77, 78, 79, 80, 81, 82, 83, 84, 85] (by decide +kernel) (by decide +kernel)) (goodIn_sub (fun _ h => List.mem_cons_of_mem _ (List.mem_append_right _ h)) (by decide +kernel))
set_option maxRecDepth 20000 in
theorem gX5_chooses_X5_findsUrgencies : GoodIn wsX5_chooses (wsV RX5 170 RX5 yX5_findsUrgencies wsX5_findsUrgencies) := goodIn_app (goodIn_of _ (by decide +kernel)) ggX5_chooses_X5_findsUrgencies
set_option maxRecDepth 20000 in
theorem ggX5_chooses_X5_isReady : GoodIn wsX5_chooses wsX5_isReady := goodIn_ca (goodIn_r _ [21, 22, 16, 13, 52, 53, 54, 55, 56, 57, 58, 59, 60, 61, 62, 63, 64, 65, 66, 67, 68, 69, 70, 71, 72, 73, 74, 75, 76, 77, 78, 79, 80, 81, 82, 83, 84, 85] (by decide +kernel) (by decide +kernel)) (goodIn_sub (fun _ h => List.mem_cons_of_mem _ (List.mem_append_right _ h)) (by decide +kernel))
set_option maxRecDepth 20000 in
theorem gX5_chooses_X5_isReady : GoodIn wsX5_chooses (wsV RX5 193 RX5 yX5_isReady wsX5_isReady) := goodIn_app (goodIn_of _ (by decide +kernel)) ggX5_chooses_X5_isReady
set_option maxRecDepth 20000 in
theorem ggX5_chooses_X5_paceOf : GoodIn wsX5_chooses wsX5_paceOf := goodIn_ca (goodIn_r _ [26, 27, 28, 29, 52, 53, 54, 55, 56, 57, 58, 59, 60, 61, 62, 63, 64, 65, 66, 67, 68, 69, 70, 71, 72, 73, 74, 75, 76, 77, 78, 79, 80, 81, 82, 83, 84, 85] (by decide +kernel) (by decide +kernel)) (goodIn_sub (fun _ h => List.mem_cons_of_mem _ (List.mem_append_right _ h)) (by decide +kernel))
set_option maxRecDepth 20000 in
theorem gX5_chooses_X5_paceOf : GoodIn wsX5_chooses (wsV RX5 111 RX5 yX5_paceOf wsX5_paceOf) := goodIn_app (goodIn_of _ (by decide +kernel)) ggX5_chooses_X5_paceOf
set_option maxRecDepth 20000 in
theorem ggX5_chooses_X5_choose : GoodIn wsX5_chooses wsX5_choose := goodIn_ca (goodIn_r _ [33, 1, 2, 11, 15, 34, 35, 36, 9, 37, 38, 39, 40, 41, 42, 43, 44, 45, 46, 47, 48, 49, 50, 51, 52, 53, 54, 55, 56, 57, 58, 59, 60, 61, 62, 63, 64, 65, 66, 67, 68, 69, 70, 71, 72, 73, 74, 75, 76, 77, 78, 79, 80, 81, 82, 83, 84, 85] (by decide +kernel) (by decide +kernel)) (goodIn_sub (fun _ h => List.mem_cons_of_mem _ (List.mem_append_right _ h)) (by decide +kernel))
set_option maxRecDepth 20000 in
theorem gX5_chooses_X5_choose : GoodIn wsX5_chooses (wsV RX5 196 RX5 yX5_choose wsX5_choose) := goodIn_app (goodIn_of _ (by decide +kernel)) ggX5_chooses_X5_choose
set_option maxRecDepth 20000 in
theorem ggX5_choice_X5_isCore : GoodIn wsX5_choice wsX5_isCore := goodIn_r _ [6, 7, 8, 9, 10, 5, 11, 64, 65, 66, 67, 68, 69, 70, 71, 72, 73, 74, 75, 76, 77, 78, 79, 80, 81, 82, 83, 84, 85, 86, 87, 88, 89, 90, 91, 92, 93, 94, 95, 96, 97] (by decide +kernel) (by decide +kernel)
set_option maxRecDepth 20000 in
theorem gX5_choice_X5_isCore : GoodIn wsX5_choice (wsV RX5 107 RX5 yX5_isCore wsX5_isCore) := goodIn_app (goodIn_of _ (by decide +kernel)) ggX5_choice_X5_isCore
set_option maxRecDepth 20000 in
theorem ggX5_choice_X5_chooses : GoodIn wsX5_choice wsX5_chooses := goodIn_ca (goodIn_r _ [15, 16, 17, 7, 1, 18, 19, 20, 21, 5, 22, 23, 24, 25, 26, 27, 28, 29, 30, 31, 32, 33, 34, 35, 36, 37, 38, 39, 40, 41, 42, 43, 44, 45, 46, 47, 48, 49, 50, 51, 52, 53, 54, 55, 56, 57, 58, 59, 60, 61, 62, 63, 64, 65, 66, 67, 68, 69, 70, 71, 72, 73, 74, 75, 76, 77, 78, 79, 80, 81, 82, 83, 84, 85, 86, 87, 88, 89, 90, 91, 92, 93, 94, 95, 96, 97] (by decide +kernel) (by decide +kernel)) (goodIn_sub (fun _ h => List.mem_cons_of_mem _ (List.mem_append_right _ h)) (by decide +kernel))
set_option maxRecDepth 20000 in
theorem gX5_choice_X5_chooses : GoodIn wsX5_choice (wsV RX5 199 RX5 yX5_chooses wsX5_chooses) := goodIn_app (goodIn_of _ (by decide +kernel)) ggX5_choice_X5_chooses
set_option maxRecDepth 20000 in
theorem ggX5_choiceByComparing_X5_choice : GoodIn wsX5_choiceByComparing wsX5_choice := goodIn_ca (goodIn_r _ [5, 6, 7, 8, 9, 4, 10, 11, 12, 13, 14, 15, 16, 17, 18, 19, 20, 21, 22, 23, 24, 25, 26, 27, 28, 29, 30, 31, 32, 33, 34, 35, 36, 37, 38, 39, 40, 41, 42, 43, 44, 45, 46, 47, 48, 49, 50, 51, 52, 53, 54, 55, 56, 57, 58, 59, 60, 61, 62, 63, 64, 65, 66, 67, 68, 69, 70, 71, 72, 73, 74, 75, 76, 77, 78, 79, 80, 81, 82, 83, 84, 85, 86, 87, 88, 89, 90, 91, 92, 93, 94, 95, 96, 97, 98, 99, 100, 101] (by decide +kernel) (by decide +kernel)) (goodIn_sub (fun _ h => List.mem_cons_of_mem _ (List.mem_append_right _ h)) (by decide +kernel))
