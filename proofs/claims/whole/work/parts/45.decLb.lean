theorem lwi_X6 : ∀ w ∈ wsX60, w ∈ lw_tbl := by decide +kernel
theorem lwi_X7 : ∀ w ∈ wsX70, w ∈ lw_tbl := by decide +kernel
theorem lwi_X3 : ∀ w ∈ wsX30, w ∈ lw_tbl := by decide +kernel
theorem lwi_X5 : ∀ w ∈ wsX50, w ∈ lw_tbl := by decide +kernel
theorem lwi_X4 : ∀ w ∈ wsX40, w ∈ lw_tbl := by decide +kernel
theorem lwi_X0 : ∀ w ∈ wsX00, w ∈ lw_tbl := by decide +kernel
theorem lwi_X2 : ∀ w ∈ wsX20, w ∈ lw_tbl := by decide +kernel
theorem lwi_X1 : ∀ w ∈ wsX10, w ∈ lw_tbl := by decide +kernel
theorem wsL_law_in : ∀ w ∈ wsL_law, w ∈ lw_tbl := by
  intro w h
  unfold wsL_law at h
  refine (List.mem_append.mp h).elim (fun h => ?_) (fun h => absurd h List.not_mem_nil)
  refine (List.mem_append.mp h).elim (fun h => ?_) (fun h => lwi_X1 w h)
  refine (List.mem_append.mp h).elim (fun h => ?_) (fun h => lwi_X2 w h)
  refine (List.mem_append.mp h).elim (fun h => ?_) (fun h => lwi_X0 w h)
  refine (List.mem_append.mp h).elim (fun h => ?_) (fun h => lwi_X4 w h)
  refine (List.mem_append.mp h).elim (fun h => ?_) (fun h => lwi_X5 w h)
  refine (List.mem_append.mp h).elim (fun h => ?_) (fun h => lwi_X3 w h)
  refine (List.mem_append.mp h).elim (fun h => ?_) (fun h => lwi_X7 w h)
  refine (List.mem_append.mp h).elim (fun h => ?_) (fun h => lwi_X6 w h)
  refine (List.mem_append.mp h).elim (fun h => (lwi_1 w h).1) (fun h => ?_)
  refine (List.mem_append.mp h).elim (fun h => (lwi_2 w h).1) (fun h => ?_)
  refine (List.mem_append.mp h).elim (fun h => (lwi_3 w h).1) (fun h => ?_)
  refine (List.mem_append.mp h).elim (fun h => (lwi_4 w h).1) (fun h => ?_)
  refine (List.mem_append.mp h).elim (fun h => (lwi_5 w h).1) (fun h => ?_)
  refine (List.mem_append.mp h).elim (fun h => (lwi_6 w h).1) (fun h => ?_)
  refine (List.mem_append.mp h).elim (fun h => (lwi_7 w h).1) (fun h => ?_)
  refine (List.mem_append.mp h).elim (fun h => (lwi_8 w h).1) (fun h => ?_)
  refine (List.mem_append.mp h).elim (fun h => (lwi_9 w h).1) (fun h => ?_)
  refine (List.mem_append.mp h).elim (fun h => (lwi_10 w h).1) (fun h => ?_)
  refine (List.mem_append.mp h).elim (fun h => (lwi_11 w h).1) (fun h => ?_)
  refine (List.mem_append.mp h).elim (fun h => (lwi_12 w h).1) (fun h => ?_)
  refine (List.mem_append.mp h).elim (fun h => (lwi_13 w h).1) (fun h => ?_)
  refine (List.mem_append.mp h).elim (fun h => (lwi_14 w h).1) (fun h => ?_)
  refine (List.mem_append.mp h).elim (fun h => (lwi_15 w h).1) (fun h => ?_)
  refine (List.mem_append.mp h).elim (fun h => (lwi_16 w h).1) (fun h => ?_)
  refine (List.mem_append.mp h).elim (fun h => (lwi_17 w h).1) (fun h => ?_)
  refine (List.mem_append.mp h).elim (fun h => (lwi_18 w h).1) (fun h => ?_)
  refine (List.mem_append.mp h).elim (fun h => (lwi_19 w h).1) (fun h => ?_)
  refine (List.mem_append.mp h).elim (fun h => (lwi_20 w h).1) (fun h => ?_)
  refine (List.mem_append.mp h).elim (fun h => (lwi_21 w h).1) (fun h => ?_)
  refine (List.mem_append.mp h).elim (fun h => (lwi_22 w h).1) (fun h => ?_)
  refine (List.mem_append.mp h).elim (fun h => (lwi_23 w h).1) (fun h => ?_)
  refine (List.mem_append.mp h).elim (fun h => (lwi_24 w h).1) (fun h => ?_)
  refine (List.mem_append.mp h).elim (fun h => (lwi_25 w h).1) (fun h => ?_)
  refine (List.mem_append.mp h).elim (fun h => (lwi_26 w h).1) (fun h => ?_)
  refine (List.mem_append.mp h).elim (fun h => (lwi_27 w h).1) (fun h => ?_)
  refine (List.mem_append.mp h).elim (fun h => (lwi_28 w h).1) (fun h => ?_)
  refine (List.mem_append.mp h).elim (fun h => (lwi_29 w h).1) (fun h => ?_)
  refine (List.mem_append.mp h).elim (fun h => (lwi_30 w h).1) (fun h => ?_)
  refine (List.mem_append.mp h).elim (fun h => (lwi_31 w h).1) (fun h => ?_)
  refine (List.mem_append.mp h).elim (fun h => (lwi_32 w h).1) (fun h => ?_)
  refine (List.mem_append.mp h).elim (fun h => (lwi_33 w h).1) (fun h => ?_)
  refine (List.mem_append.mp h).elim (fun h => (lwi_34 w h).1) (fun h => ?_)
  refine (List.mem_append.mp h).elim (fun h => (lwi_35 w h).1) (fun h => ?_)
  refine (List.mem_append.mp h).elim (fun h => (lwi_36 w h).1) (fun h => ?_)
  refine (List.mem_append.mp h).elim (fun h => (lwi_37 w h).1) (fun h => ?_)
  refine (List.mem_append.mp h).elim (fun h => (lwi_38 w h).1) (fun h => ?_)
  refine (List.mem_append.mp h).elim (fun h => (lwi_39 w h).1) (fun h => ?_)
  exact (lwi_40 w h).1
theorem inlX0 : ∀ w ∈ wsX00, w ∈ wsL_law := fun _ h => List.mem_append_left _ (List.mem_append_left _ (List.mem_append_left _ (List.mem_append_right _ h)))
theorem inX0 : ∀ w ∈ wsX00, w ∈ lw_tbl := fun w h => wsL_law_in w (inlX0 w h)
theorem inlX1 : ∀ w ∈ wsX10, w ∈ wsL_law := fun _ h => List.mem_append_left _ (List.mem_append_right _ h)
theorem inX1 : ∀ w ∈ wsX10, w ∈ lw_tbl := fun w h => wsL_law_in w (inlX1 w h)
theorem inlX2 : ∀ w ∈ wsX20, w ∈ wsL_law := fun _ h => List.mem_append_left _ (List.mem_append_left _ (List.mem_append_right _ h))
theorem inX2 : ∀ w ∈ wsX20, w ∈ lw_tbl := fun w h => wsL_law_in w (inlX2 w h)
theorem inlX3 : ∀ w ∈ wsX30, w ∈ wsL_law := fun _ h => List.mem_append_left _ (List.mem_append_left _ (List.mem_append_left _ (List.mem_append_left _ (List.mem_append_left _ (List.mem_append_left _ (List.mem_append_right _ h))))))
theorem inX3 : ∀ w ∈ wsX30, w ∈ lw_tbl := fun w h => wsL_law_in w (inlX3 w h)
theorem inlX4 : ∀ w ∈ wsX40, w ∈ wsL_law := fun _ h => List.mem_append_left _ (List.mem_append_left _ (List.mem_append_left _ (List.mem_append_left _ (List.mem_append_right _ h))))
theorem inX4 : ∀ w ∈ wsX40, w ∈ lw_tbl := fun w h => wsL_law_in w (inlX4 w h)
theorem inlX5 : ∀ w ∈ wsX50, w ∈ wsL_law := fun _ h => List.mem_append_left _ (List.mem_append_left _ (List.mem_append_left _ (List.mem_append_left _ (List.mem_append_left _ (List.mem_append_right _ h)))))
theorem inX5 : ∀ w ∈ wsX50, w ∈ lw_tbl := fun w h => wsL_law_in w (inlX5 w h)
theorem inlX6 : ∀ w ∈ wsX60, w ∈ wsL_law := fun _ h => List.mem_append_left _ (List.mem_append_left _ (List.mem_append_left _ (List.mem_append_left _ (List.mem_append_left _ (List.mem_append_left _ (List.mem_append_left _ (List.mem_append_left _ (List.mem_append_right _ h))))))))
theorem inX6 : ∀ w ∈ wsX60, w ∈ lw_tbl := fun w h => wsL_law_in w (inlX6 w h)
theorem inlX7 : ∀ w ∈ wsX70, w ∈ wsL_law := fun _ h => List.mem_append_left _ (List.mem_append_left _ (List.mem_append_left _ (List.mem_append_left _ (List.mem_append_left _ (List.mem_append_left _ (List.mem_append_left _ (List.mem_append_right _ h)))))))
theorem inX7 : ∀ w ∈ wsX70, w ∈ lw_tbl := fun w h => wsL_law_in w (inlX7 w h)
theorem inJ6 : ∀ w ∈ wsJ60, w ∈ lw_tbl := by decide +kernel
theorem inJ9 : ∀ w ∈ wsJ90, w ∈ lw_tbl := by decide +kernel
theorem inJ10 : ∀ w ∈ wsJ100, w ∈ lw_tbl := by decide +kernel
set_option maxRecDepth 20000 in
theorem ggL_law_X6_init : GoodIn wsL_law wsX6_init := goodIn_r _ [8, 9, 10, 11, 12, 13, 14, 15, 16, 17, 18, 19, 20, 21, 22, 23, 24, 25, 26, 27, 28, 29, 30, 31, 32, 33, 34, 35, 36, 37, 38, 39, 40, 41, 42, 43, 44, 45, 46, 47, 48, 49, 50, 51, 52, 53, 54, 55, 56, 57, 58, 59, 60, 61, 62, 63, 64, 65, 66, 67, 68, 69, 70, 71, 72, 73, 74, 75, 76, 77, 986, 987, 988, 951, 952, 953, 954, 955, 956, 957, 958, 959, 960, 961, 989, 990, 991, 992, 993, 994, 995, 996, 997, 998, 999, 1000, 1001, 1002, 1003, 1004, 1005, 1006, 1007, 1008, 1009, 1010, 1011, 1012, 1013, 1014, 1015, 1016, 1017, 1018, 1019, 1020, 1021, 1022, 1023, 1024] (by decide +kernel) (by decide +kernel)
set_option maxRecDepth 20000 in
theorem gL_law_X6_init : GoodIn wsL_law (wsX6_init) := ggL_law_X6_init
set_option maxRecDepth 20000 in
theorem ggL_law_X7_init : GoodIn wsL_law wsX7_init := goodIn_r _ [80, 81, 10, 11, 44, 82, 83, 84, 85, 86, 87, 88, 89, 90, 91, 92, 93, 94, 962, 963, 964, 965, 966, 967, 968, 969, 970, 971, 972, 973, 974, 975, 976, 977, 978, 979, 980, 981, 982, 983, 984, 985] (by decide +kernel) (by decide +kernel)
set_option maxRecDepth 20000 in
theorem gL_law_X7_init : GoodIn wsL_law (wsX7_init) := ggL_law_X7_init
set_option maxRecDepth 20000 in
theorem ggL_law_X6_row : GoodIn wsL_law wsX6_row := goodIn_r _ [98, 99, 15, 100, 101, 2, 102, 103, 104, 105, 106, 107, 108, 109, 110, 111, 112, 113, 114, 14, 115, 46, 47, 45, 116, 117, 118, 119, 951, 952, 953, 954, 955, 956, 957, 958, 959, 960, 961, 986, 987, 988] (by decide +kernel) (by decide +kernel)
set_option maxRecDepth 20000 in
theorem gL_law_X6_row : GoodIn wsL_law (wsV RL 13 RX6 yX6_row wsX6_row) := goodIn_app (goodIn_of _ (by decide +kernel)) ggL_law_X6_row
set_option maxRecDepth 20000 in
theorem ggL_law_X7_row : GoodIn wsL_law wsX7_row := goodIn_r _ [123, 124, 125, 82, 83, 84, 126, 127, 5, 128, 129, 130, 131, 132, 133, 134, 135, 136, 137, 138, 139, 140, 141, 142, 962, 963, 964, 965, 966, 967, 968, 969, 970, 971, 972, 973, 974, 975, 976, 977, 978, 979, 980, 981, 982, 983, 984, 985] (by decide +kernel) (by decide +kernel)
set_option maxRecDepth 20000 in
theorem gL_law_X7_row : GoodIn wsL_law (wsV RL 17 RX7 yX7_row wsX7_row) := goodIn_app (goodIn_of _ (by decide +kernel)) ggL_law_X7_row
set_option maxRecDepth 20000 in
theorem ggL_law_X6_set : GoodIn wsL_law wsX6_set := goodIn_r _ [146, 99, 15, 100, 101, 2, 102, 103, 104, 105, 147, 148, 149, 14, 150, 47, 151, 152, 153, 154, 106, 107, 108, 109, 110, 111, 155, 156, 157, 158, 46, 45, 116, 117, 118, 119, 951, 952, 953, 954, 955, 956, 957, 958, 959, 960, 961, 986, 987, 988] (by decide +kernel) (by decide +kernel)
set_option maxRecDepth 20000 in
theorem gL_law_X6_set : GoodIn wsL_law (wsV RL 18 RX6 yX6_set wsX6_set) := goodIn_app (goodIn_of _ (by decide +kernel)) ggL_law_X6_set
set_option maxRecDepth 20000 in
theorem ggL_law_X7_set : GoodIn wsL_law wsX7_set := goodIn_r _ [162, 125, 83, 84, 82, 126, 127, 5, 128, 129, 130, 131, 132, 133, 134, 135, 136, 137, 138, 163, 164, 165, 139, 140, 141, 142, 962, 963, 964, 965, 966, 967, 968, 969, 970, 971, 972, 973, 974, 975, 976, 977, 978, 979, 980, 981, 982, 983, 984, 985] (by decide +kernel) (by decide +kernel)
set_option maxRecDepth 20000 in
theorem gL_law_X7_set : GoodIn wsL_law (wsV RL 21 RX7 yX7_set wsX7_set) := goodIn_app (goodIn_of _ (by decide +kernel)) ggL_law_X7_set
set_option maxRecDepth 20000 in
theorem ggL_law_X6_copy : GoodIn wsL_law wsX6_copy := goodIn_r _ [169, 99, 15, 100, 101, 2, 102, 103, 104, 105, 170, 171, 172, 14, 173, 46, 151, 152, 153, 154, 47, 174, 148, 149, 150, 106, 107, 108, 109, 110, 111, 175, 176, 177, 178, 45, 179, 180, 181, 182, 116, 117, 118, 119, 951, 952, 953, 954, 955, 956, 957, 958, 959, 960, 961, 986, 987, 988] (by decide +kernel) (by decide +kernel)
set_option maxRecDepth 20000 in
theorem gL_law_X6_copy : GoodIn wsL_law (wsV RL 22 RX6 yX6_copy wsX6_copy) := goodIn_app (goodIn_of _ (by decide +kernel)) ggL_law_X6_copy
set_option maxRecDepth 20000 in
theorem ggL_law_X7_copy : GoodIn wsL_law wsX7_copy := goodIn_r _ [186, 125, 83, 82, 86, 84, 126, 127, 5, 128, 129, 130, 131, 132, 133, 134, 135, 136, 137, 138, 139, 140, 141, 142, 962, 963, 964, 965, 966, 967, 968, 969, 970, 971, 972, 973, 974, 975, 976, 977, 978, 979, 980, 981, 982, 983, 984, 985] (by decide +kernel) (by decide +kernel)
set_option maxRecDepth 20000 in
theorem gL_law_X7_copy : GoodIn wsL_law (wsV RL 26 RX7 yX7_copy wsX7_copy) := goodIn_app (goodIn_of _ (by decide +kernel)) ggL_law_X7_copy
set_option maxRecDepth 20000 in
theorem ggL_law_X6_drop : GoodIn wsL_law wsX6_drop := goodIn_r _ [190, 99, 15, 100, 101, 2, 102, 103, 104, 105, 191, 152, 153, 14, 154, 47, 106, 107, 108, 109, 110, 111, 192, 193, 194, 195, 116, 117, 118, 119, 951, 952, 953, 954, 955, 956, 957, 958, 959, 960, 961, 986, 987, 988] (by decide +kernel) (by decide +kernel)
set_option maxRecDepth 20000 in
theorem gL_law_X6_drop : GoodIn wsL_law (wsV RL 27 RX6 yX6_drop wsX6_drop) := goodIn_app (goodIn_of _ (by decide +kernel)) ggL_law_X6_drop
set_option maxRecDepth 20000 in
theorem ggL_law_X7_drop : GoodIn wsL_law wsX7_drop := goodIn_r _ [199, 125, 83, 126, 127, 5, 128, 129, 130, 131, 132, 133, 134, 135, 136, 137, 138, 139, 140, 141, 142, 962, 963, 964, 965, 966, 967, 968, 969, 970, 971, 972, 973, 974, 975, 976, 977, 978, 979, 980, 981, 982, 983, 984, 985] (by decide +kernel) (by decide +kernel)
set_option maxRecDepth 20000 in
theorem gL_law_X7_drop : GoodIn wsL_law (wsV RL 31 RX7 yX7_drop wsX7_drop) := goodIn_app (goodIn_of _ (by decide +kernel)) ggL_law_X7_drop
set_option maxRecDepth 20000 in
theorem ggL_law_X6_feed : GoodIn wsL_law wsX6_feed := goodIn_r _ [203, 99, 19, 204, 103, 104, 2, 105, 205, 206, 207, 18, 208, 209, 210, 211, 212, 213, 51, 214, 951, 952, 953, 954, 955, 956, 957, 958, 959, 960, 961, 989, 990, 991, 992] (by decide +kernel) (by decide +kernel)
set_option maxRecDepth 20000 in
theorem gL_law_X6_feed : GoodIn wsL_law (wsV RL 32 RX6 yX6_feed wsX6_feed) := goodIn_app (goodIn_of _ (by decide +kernel)) ggL_law_X6_feed
set_option maxRecDepth 20000 in
theorem ggL_law_X7_feed : GoodIn wsL_law wsX7_feed := goodIn_r _ [218, 219, 125, 220, 221, 87, 130, 131, 5, 132, 962, 963, 964, 965, 966, 967, 968, 969, 970, 971, 972, 973, 974, 975, 976, 977, 978, 979, 980, 981, 982, 983, 984, 985] (by decide +kernel) (by decide +kernel)
set_option maxRecDepth 20000 in
theorem gL_law_X7_feed : GoodIn wsL_law (wsV RL 35 RX7 yX7_feed wsX7_feed) := goodIn_app (goodIn_of _ (by decide +kernel)) ggL_law_X7_feed
set_option maxRecDepth 20000 in
theorem ggL_law_X6_scales : GoodIn wsL_law wsX6_scales := goodIn_r _ [225, 19, 24, 226, 227, 23, 30, 228, 229, 230, 231, 18, 232, 233, 234, 209, 51, 235, 236, 237, 22, 238, 239, 240, 241, 242, 61, 243, 244, 245, 246, 247, 248, 249, 250, 251, 252, 253, 254, 255, 256, 257, 258, 259, 260, 261, 262, 263, 264, 265, 266, 267, 268, 269, 270, 271, 272, 273, 274, 275, 276, 277, 278, 279, 280, 281, 282, 283, 284, 285, 286, 287, 288, 289, 290, 291, 292, 293, 294, 295, 296, 297, 55, 56, 57, 58, 59, 60, 298, 299, 300, 29, 301, 302, 303, 951, 952, 953, 954, 955, 956, 957, 958, 959, 960, 961, 993, 994, 995, 996, 997, 998, 999, 1000, 1001, 1002, 1003, 1004, 1005, 989, 990, 991, 992, 1006, 1007, 1008, 1009, 1010, 1011] (by decide +kernel) (by decide +kernel)
set_option maxRecDepth 20000 in
theorem gL_law_X6_scales : GoodIn wsL_law (wsV RL 36 RX6 yX6_scales wsX6_scales) := goodIn_app (goodIn_of _ (by decide +kernel)) ggL_law_X6_scales
set_option maxRecDepth 20000 in
theorem ggL_law_X7_scales : GoodIn wsL_law wsX7_scales := goodIn_r _ [307, 220, 308, 309, 310, 311, 85, 88, 312, 313, 314, 315, 316, 5, 317, 318, 319, 320, 321, 322, 323, 324, 87, 325, 326, 327, 328, 130, 131, 132, 329, 330, 331, 332, 333, 334, 335, 336, 337, 338, 339, 340, 341, 342, 343, 344, 345, 346, 347, 348, 349, 350, 351, 352, 962, 963, 964, 965, 966, 967, 968, 969, 970, 971, 972, 973, 974, 975, 976, 977, 978, 979, 980, 981, 982, 983, 984, 985] (by decide +kernel) (by decide +kernel)
set_option maxRecDepth 20000 in
theorem gL_law_X7_scales : GoodIn wsL_law (wsV RL 40 RX7 yX7_scales wsX7_scales) := goodIn_app (goodIn_of _ (by decide +kernel)) ggL_law_X7_scales
set_option maxRecDepth 20000 in
theorem ggL_law_X6_fault : GoodIn wsL_law wsX6_fault := goodIn_r _ [356, 226, 951, 952, 953, 954, 955, 956, 957, 958, 959, 960, 961] (by decide +kernel) (by decide +kernel)
set_option maxRecDepth 20000 in
theorem gL_law_X6_fault : GoodIn wsL_law (wsV RL 41 RX6 yX6_fault wsX6_fault) := goodIn_app (goodIn_of _ (by decide +kernel)) ggL_law_X6_fault
set_option maxRecDepth 20000 in
theorem ggL_law_X7_fault : GoodIn wsL_law wsX7_fault := goodIn_r _ [360, 309, 962, 963, 964, 965, 966, 967, 968, 969, 970, 971, 972, 973, 974, 975, 976, 977, 978, 979, 980, 981, 982, 983, 984, 985] (by decide +kernel) (by decide +kernel)
set_option maxRecDepth 20000 in
theorem gL_law_X7_fault : GoodIn wsL_law (wsV RL 44 RX7 yX7_fault wsX7_fault) := goodIn_app (goodIn_of _ (by decide +kernel)) ggL_law_X7_fault
set_option maxRecDepth 20000 in
theorem ggL_law_X6_lay : GoodIn wsL_law wsX6_lay := goodIn_r _ [364, 99, 23, 365, 30, 366, 367, 368, 369, 2, 370, 228, 371, 372, 373, 374, 375, 376, 22, 377, 61, 378, 379, 380, 381, 242, 382, 383, 384, 29, 385, 303, 302, 65, 66, 386, 67, 387, 68, 388, 389, 390, 391, 392, 393, 394, 395, 396, 397, 296, 241, 297, 398, 399, 400, 401, 60, 402, 403, 404, 405, 406, 55, 56, 407, 408, 409, 410, 411, 412, 413, 414, 59, 415, 416, 951, 952, 953, 954, 955, 956, 957, 958, 959, 960, 961, 993, 994, 995, 996, 997, 998, 999, 1000, 1001, 1002, 1003, 1004, 1005, 1006, 1007, 1008, 1009, 1010, 1011] (by decide +kernel) (by decide +kernel)
set_option maxRecDepth 20000 in
theorem gL_law_X6_lay : GoodIn wsL_law (wsV RL 45 RX6 yX6_lay wsX6_lay) := goodIn_app (goodIn_of _ (by decide +kernel)) ggL_law_X6_lay
set_option maxRecDepth 20000 in
theorem ggL_law_X7_lay : GoodIn wsL_law wsX7_lay := goodIn_r _ [420, 125, 85, 421, 422, 423, 424, 5, 425, 130, 131, 132, 426, 427, 428, 429, 430, 431, 432, 433, 313, 89, 434, 435, 436, 437, 438, 439, 440, 441, 442, 443, 444, 445, 446, 447, 448, 449, 450, 451, 452, 453, 454, 455, 456, 457, 458, 459, 962, 963, 964, 965, 966, 967, 968, 969, 970, 971, 972, 973, 974, 975, 976, 977, 978, 979, 980, 981, 982, 983, 984, 985] (by decide +kernel) (by decide +kernel)
set_option maxRecDepth 20000 in
theorem gL_law_X7_lay : GoodIn wsL_law (wsV RL 49 RX7 yX7_lay wsX7_lay) := goodIn_app (goodIn_of _ (by decide +kernel)) ggL_law_X7_lay
set_option maxRecDepth 20000 in
theorem ggL_law_X6_settle : GoodIn wsL_law wsX6_settle := goodIn_r _ [463, 99, 23, 365, 30, 464, 465, 367, 368, 369, 2, 370, 228, 371, 372, 373, 374, 375, 376, 22, 377, 61, 382, 383, 384, 29, 385, 303, 302, 65, 66, 386, 67, 387, 68, 388, 389, 466, 467, 468, 469, 56, 242, 55, 407, 408, 409, 410, 470, 471, 472, 951, 952, 953, 954, 955, 956, 957, 958, 959, 960, 961, 993, 994, 995, 996, 997, 998, 999, 1000, 1001, 1002, 1003, 1004, 1005, 1006, 1007, 1008, 1009, 1010, 1011] (by decide +kernel) (by decide +kernel)
set_option maxRecDepth 20000 in
theorem gL_law_X6_settle : GoodIn wsL_law (wsV RL 50 RX6 yX6_settle wsX6_settle) := goodIn_app (goodIn_of _ (by decide +kernel)) ggL_law_X6_settle
set_option maxRecDepth 20000 in
theorem ggL_law_X7_settle : GoodIn wsL_law wsX7_settle := goodIn_r _ [476, 125, 421, 85, 422, 423, 424, 5, 425, 130, 131, 132, 426, 427, 428, 429, 430, 431, 432, 433, 313, 89, 477, 478, 479, 480, 962, 963, 964, 965, 966, 967, 968, 969, 970, 971, 972, 973, 974, 975, 976, 977, 978, 979, 980, 981, 982, 983, 984, 985] (by decide +kernel) (by decide +kernel)
set_option maxRecDepth 20000 in
theorem gL_law_X7_settle : GoodIn wsL_law (wsV RL 53 RX7 yX7_settle wsX7_settle) := goodIn_app (goodIn_of _ (by decide +kernel)) ggL_law_X7_settle
set_option maxRecDepth 20000 in
theorem ggL_law_X6_wax : GoodIn wsL_law wsX6_wax := goodIn_r _ [484, 23, 485, 365, 99, 30, 486, 103, 104, 2, 105, 382, 383, 384, 29, 385, 303, 302, 65, 66, 386, 67, 387, 68, 388, 389, 951, 952, 953, 954, 955, 956, 957, 958, 959, 960, 961, 993, 994, 995, 996, 997, 998, 999, 1000, 1001, 1002, 1003, 1004, 1005, 1006, 1007, 1008, 1009, 1010, 1011] (by decide +kernel) (by decide +kernel)
set_option maxRecDepth 20000 in
theorem gL_law_X6_wax : GoodIn wsL_law (wsV RL 54 RX6 yX6_wax wsX6_wax) := goodIn_app (goodIn_of _ (by decide +kernel)) ggL_law_X6_wax
set_option maxRecDepth 20000 in
theorem ggL_law_X7_wax : GoodIn wsL_law wsX7_wax := goodIn_r _ [490, 312, 421, 491, 125, 85, 130, 131, 5, 132, 430, 431, 432, 433, 313, 89, 962, 963, 964, 965, 966, 967, 968, 969, 970, 971, 972, 973, 974, 975, 976, 977, 978, 979, 980, 981, 982, 983, 984, 985] (by decide +kernel) (by decide +kernel)
set_option maxRecDepth 20000 in
theorem gL_law_X7_wax : GoodIn wsL_law (wsV RL 57 RX7 yX7_wax wsX7_wax) := goodIn_app (goodIn_of _ (by decide +kernel)) ggL_law_X7_wax
set_option maxRecDepth 20000 in
theorem ggL_law_X6_undo : GoodIn wsL_law wsX6_undo := goodIn_r _ [495, 30, 496, 365, 23, 497, 498, 499, 29, 500, 303, 302, 65, 66, 386, 67, 387, 501, 388, 389, 68, 951, 952, 953, 954, 955, 956, 957, 958, 959, 960, 961, 1006, 1007, 1008, 1009, 1010, 1011, 993, 994, 995, 996, 997, 998, 999, 1000, 1001, 1002, 1003, 1004, 1005] (by decide +kernel) (by decide +kernel)
set_option maxRecDepth 20000 in
theorem gL_law_X6_undo : GoodIn wsL_law (wsV RL 58 RX6 yX6_undo wsX6_undo) := goodIn_app (goodIn_of _ (by decide +kernel)) ggL_law_X6_undo
set_option maxRecDepth 20000 in
theorem ggL_law_X7_undo : GoodIn wsL_law wsX7_undo := goodIn_r _ [505, 313, 421, 85, 89, 962, 963, 964, 965, 966, 967, 968, 969, 970, 971, 972, 973, 974, 975, 976, 977, 978, 979, 980, 981, 982, 983, 984, 985] (by decide +kernel) (by decide +kernel)
set_option maxRecDepth 20000 in
theorem gL_law_X7_undo : GoodIn wsL_law (wsV RL 61 RX7 yX7_undo wsX7_undo) := goodIn_app (goodIn_of _ (by decide +kernel)) ggL_law_X7_undo
set_option maxRecDepth 20000 in
theorem ggL_law_X6_promise : GoodIn wsL_law wsX6_promise := goodIn_r _ [509, 99, 23, 465, 510, 511, 512, 513, 367, 368, 369, 2, 370, 228, 514, 515, 516, 22, 517, 398, 399, 400, 401, 61, 60, 402, 375, 376, 377, 403, 404, 405, 406, 55, 56, 407, 408, 409, 410, 411, 412, 413, 414, 59, 378, 379, 380, 381, 242, 951, 952, 953, 954, 955, 956, 957, 958, 959, 960, 961, 993, 994, 995, 996, 997, 998, 999, 1000, 1001, 1002, 1003, 1004, 1005] (by decide +kernel) (by decide +kernel)
set_option maxRecDepth 20000 in
theorem gL_law_X6_promise : GoodIn wsL_law (wsV RL 62 RX6 yX6_promise wsX6_promise) := goodIn_app (goodIn_of _ (by decide +kernel)) ggL_law_X6_promise
set_option maxRecDepth 20000 in
theorem ggL_law_X7_promise : GoodIn wsL_law wsX7_promise := goodIn_r _ [521, 125, 85, 422, 423, 424, 5, 425, 130, 131, 132, 445, 446, 447, 448, 426, 427, 428, 429, 449, 450, 451, 452, 453, 454, 455, 456, 962, 963, 964, 965, 966, 967, 968, 969, 970, 971, 972, 973, 974, 975, 976, 977, 978, 979, 980, 981, 982, 983, 984, 985] (by decide +kernel) (by decide +kernel)
set_option maxRecDepth 20000 in
theorem gL_law_X7_promise : GoodIn wsL_law (wsV RL 65 RX7 yX7_promise wsX7_promise) := goodIn_app (goodIn_of _ (by decide +kernel)) ggL_law_X7_promise
set_option maxRecDepth 20000 in
theorem ggL_law_X6_keeps : GoodIn wsL_law wsX6_keeps := goodIn_r _ [525, 23, 464, 99, 526, 527, 528, 2, 529, 530, 951, 952, 953, 954, 955, 956, 957, 958, 959, 960, 961, 993, 994, 995, 996, 997, 998, 999, 1000, 1001, 1002, 1003, 1004, 1005] (by decide +kernel) (by decide +kernel)
set_option maxRecDepth 20000 in
theorem gL_law_X6_keeps : GoodIn wsL_law (wsV RL 66 RX6 yX6_keeps wsX6_keeps) := goodIn_app (goodIn_of _ (by decide +kernel)) ggL_law_X6_keeps
set_option maxRecDepth 20000 in
theorem ggL_law_X7_keeps : GoodIn wsL_law wsX7_keeps := goodIn_r _ [534, 85, 125, 535, 536, 537, 5, 538, 130, 131, 132, 962, 963, 964, 965, 966, 967, 968, 969, 970, 971, 972, 973, 974, 975, 976, 977, 978, 979, 980, 981, 982, 983, 984, 985] (by decide +kernel) (by decide +kernel)
set_option maxRecDepth 20000 in
theorem gL_law_X7_keeps : GoodIn wsL_law (wsV RL 69 RX7 yX7_keeps wsX7_keeps) := goodIn_app (goodIn_of _ (by decide +kernel)) ggL_law_X7_keeps
set_option maxRecDepth 20000 in
theorem ggL_law_X6_reads : GoodIn wsL_law wsX6_reads := goodIn_r _ [542, 23, 485, 365, 99, 543, 544, 545, 22, 546, 241, 394, 395, 396, 397, 296, 297, 398, 399, 400, 401, 61, 60, 402, 375, 376, 377, 403, 404, 405, 406, 55, 56, 407, 408, 409, 410, 411, 412, 413, 414, 59, 415, 2, 416, 951, 952, 953, 954, 955, 956, 957, 958, 959, 960, 961, 993, 994, 995, 996, 997, 998, 999, 1000, 1001, 1002, 1003, 1004, 1005] (by decide +kernel) (by decide +kernel)
set_option maxRecDepth 20000 in
theorem gL_law_X6_reads : GoodIn wsL_law (wsV RL 70 RX6 yX6_reads wsX6_reads) := goodIn_app (goodIn_of _ (by decide +kernel)) ggL_law_X6_reads
set_option maxRecDepth 20000 in
theorem ggL_law_X7_reads : GoodIn wsL_law wsX7_reads := goodIn_r _ [550, 312, 421, 125, 551, 552, 553, 5, 554, 85, 130, 131, 132, 434, 435, 436, 437, 438, 439, 440, 441, 442, 443, 444, 445, 446, 447, 448, 426, 427, 428, 429, 449, 450, 451, 452, 453, 454, 455, 456, 457, 458, 459, 962, 963, 964, 965, 966, 967, 968, 969, 970, 971, 972, 973, 974, 975, 976, 977, 978, 979, 980, 981, 982, 983, 984, 985] (by decide +kernel) (by decide +kernel)
set_option maxRecDepth 20000 in
theorem gL_law_X7_reads : GoodIn wsL_law (wsV RL 73 RX7 yX7_reads wsX7_reads) := goodIn_app (goodIn_of _ (by decide +kernel)) ggL_law_X7_reads
set_option maxRecDepth 20000 in
theorem ggL_law_X6_clash : GoodIn wsL_law wsX6_clash := goodIn_r _ [558, 23, 485, 365, 99, 371, 372, 2, 373, 559, 560, 561, 22, 562, 241, 563, 564, 565, 566, 56, 58, 57, 402, 375, 376, 377, 61, 567, 568, 569, 570, 571, 951, 952, 953, 954, 955, 956, 957, 958, 959, 960, 961, 993, 994, 995, 996, 997, 998, 999, 1000, 1001, 1002, 1003, 1004, 1005] (by decide +kernel) (by decide +kernel)
set_option maxRecDepth 20000 in
theorem gL_law_X6_clash : GoodIn wsL_law (wsV RL 74 RX6 yX6_clash wsX6_clash) := goodIn_app (goodIn_of _ (by decide +kernel)) ggL_law_X6_clash
set_option maxRecDepth 20000 in
theorem ggL_law_X7_clash : GoodIn wsL_law wsX7_clash := goodIn_r _ [575, 312, 421, 125, 576, 85, 130, 131, 5, 132, 577, 578, 579, 580, 426, 427, 428, 429, 962, 963, 964, 965, 966, 967, 968, 969, 970, 971, 972, 973, 974, 975, 976, 977, 978, 979, 980, 981, 982, 983, 984, 985] (by decide +kernel) (by decide +kernel)
set_option maxRecDepth 20000 in
theorem gL_law_X7_clash : GoodIn wsL_law (wsV RL 77 RX7 yX7_clash wsX7_clash) := goodIn_app (goodIn_of _ (by decide +kernel)) ggL_law_X7_clash
set_option maxRecDepth 20000 in
theorem ggL_law_X6_bags : GoodIn wsL_law wsX6_bags := goodIn_r _ [584, 23, 485, 365, 99, 34, 103, 104, 2, 105, 371, 372, 373, 585, 586, 587, 33, 588, 589, 590, 591, 592, 593, 594, 595, 596, 72, 73, 597, 399, 400, 22, 401, 61, 60, 402, 375, 376, 377, 403, 404, 405, 406, 55, 56, 407, 408, 409, 410, 411, 412, 413, 414, 59, 598, 599, 564, 565, 566, 58, 57, 600, 601, 602, 603, 604, 605, 606, 607, 608, 609, 610, 611, 612, 613, 614, 615, 415, 416, 616, 617, 618, 619, 620, 621, 622, 623, 624, 625, 626, 627, 951, 952, 953, 954, 955, 956, 957, 958, 959, 960, 961, 993, 994, 995, 996, 997, 998, 999, 1000, 1001, 1002, 1003, 1004, 1005, 1012, 1013, 1014, 1015, 1016, 1017, 1018] (by decide +kernel) (by decide +kernel)
set_option maxRecDepth 20000 in
theorem gL_law_X6_bags : GoodIn wsL_law (wsV RL 78 RX6 yX6_bags wsX6_bags) := goodIn_app (goodIn_of _ (by decide +kernel)) ggL_law_X6_bags
set_option maxRecDepth 20000 in
theorem ggL_law_X7_bags : GoodIn wsL_law wsX7_bags := goodIn_r _ [631, 312, 421, 632, 125, 576, 85, 130, 131, 5, 132, 434, 435, 436, 437, 438, 439, 440, 441, 442, 443, 444, 445, 446, 447, 448, 426, 427, 428, 429, 449, 450, 451, 452, 453, 454, 455, 456, 457, 458, 459, 633, 634, 635, 636, 577, 578, 579, 580, 637, 638, 639, 962, 963, 964, 965, 966, 967, 968, 969, 970, 971, 972, 973, 974, 975, 976, 977, 978, 979, 980, 981, 982, 983, 984, 985] (by decide +kernel) (by decide +kernel)
set_option maxRecDepth 20000 in
theorem gL_law_X7_bags : GoodIn wsL_law (wsV RL 81 RX7 yX7_bags wsX7_bags) := goodIn_app (goodIn_of _ (by decide +kernel)) ggL_law_X7_bags
set_option maxRecDepth 20000 in
theorem ggL_law_X6_heaviest : GoodIn wsL_law wsX6_heaviest := goodIn_r _ [643, 23, 485, 365, 99, 34, 103, 104, 2, 105, 371, 372, 373, 585, 586, 587, 33, 588, 589, 590, 591, 592, 593, 594, 595, 596, 72, 73, 597, 399, 400, 22, 401, 61, 60, 402, 375, 376, 377, 403, 404, 405, 406, 55, 56, 407, 408, 409, 410, 411, 412, 413, 414, 59, 598, 599, 564, 565, 566, 58, 57, 644, 645, 646, 647, 621, 622, 623, 624, 625, 626, 627, 604, 605, 606, 607, 608, 609, 610, 611, 612, 613, 614, 615, 415, 416, 648, 951, 952, 953, 954, 955, 956, 957, 958, 959, 960, 961, 993, 994, 995, 996, 997, 998, 999, 1000, 1001, 1002, 1003, 1004, 1005, 1012, 1013, 1014, 1015, 1016, 1017, 1018] (by decide +kernel) (by decide +kernel)
set_option maxRecDepth 20000 in
theorem gL_law_X6_heaviest : GoodIn wsL_law (wsV RL 82 RX6 yX6_heaviest wsX6_heaviest) := goodIn_app (goodIn_of _ (by decide +kernel)) ggL_law_X6_heaviest
set_option maxRecDepth 20000 in
theorem ggL_law_X7_heaviest : GoodIn wsL_law wsX7_heaviest := goodIn_r _ [652, 312, 421, 653, 125, 85, 130, 131, 5, 132, 434, 435, 436, 437, 438, 439, 440, 441, 442, 443, 444, 445, 446, 447, 448, 426, 427, 428, 429, 449, 450, 451, 452, 453, 454, 455, 456, 457, 458, 459, 637, 638, 639, 633, 634, 635, 636, 577, 578, 579, 580, 962, 963, 964, 965, 966, 967, 968, 969, 970, 971, 972, 973, 974, 975, 976, 977, 978, 979, 980, 981, 982, 983, 984, 985] (by decide +kernel) (by decide +kernel)
set_option maxRecDepth 20000 in
theorem gL_law_X7_heaviest : GoodIn wsL_law (wsV RL 85 RX7 yX7_heaviest wsX7_heaviest) := goodIn_app (goodIn_of _ (by decide +kernel)) ggL_law_X7_heaviest
set_option maxRecDepth 20000 in
theorem ggL_law_X6_worded : GoodIn wsL_law wsX6_worded := goodIn_r _ [657, 99, 23, 365, 367, 368, 369, 2, 370, 228, 103, 104, 105, 374, 375, 376, 22, 377, 61, 658, 659, 660, 661, 662, 663, 664, 665, 666, 515, 516, 517, 398, 399, 400, 401, 60, 402, 403, 404, 405, 406, 55, 56, 407, 408, 409, 410, 411, 412, 413, 414, 59, 667, 951, 952, 953, 954, 955, 956, 957, 958, 959, 960, 961, 993, 994, 995, 996, 997, 998, 999, 1000, 1001, 1002, 1003, 1004, 1005] (by decide +kernel) (by decide +kernel)
set_option maxRecDepth 20000 in
theorem gL_law_X6_worded : GoodIn wsL_law (wsV RL 86 RX6 yX6_worded wsX6_worded) := goodIn_app (goodIn_of _ (by decide +kernel)) ggL_law_X6_worded
set_option maxRecDepth 20000 in
theorem ggL_law_X7_worded : GoodIn wsL_law wsX7_worded := goodIn_r _ [671, 672, 125, 421, 422, 423, 424, 5, 425, 85, 130, 131, 132, 426, 427, 428, 429, 445, 446, 447, 448, 449, 450, 451, 452, 453, 454, 455, 456, 962, 963, 964, 965, 966, 967, 968, 969, 970, 971, 972, 973, 974, 975, 976, 977, 978, 979, 980, 981, 982, 983, 984, 985] (by decide +kernel) (by decide +kernel)
set_option maxRecDepth 20000 in
theorem gL_law_X7_worded : GoodIn wsL_law (wsV RL 89 RX7 yX7_worded wsX7_worded) := goodIn_app (goodIn_of _ (by decide +kernel)) ggL_law_X7_worded
set_option maxRecDepth 20000 in
theorem ggL_law_X6_price : GoodIn wsL_law wsX6_price := goodIn_r _ [676, 99, 23, 367, 368, 369, 2, 370, 228, 103, 104, 105, 514, 515, 516, 22, 517, 398, 399, 400, 401, 61, 60, 402, 375, 376, 377, 403, 404, 405, 406, 55, 56, 407, 408, 409, 410, 411, 412, 413, 414, 59, 951, 952, 953, 954, 955, 956, 957, 958, 959, 960, 961, 993, 994, 995, 996, 997, 998, 999, 1000, 1001, 1002, 1003, 1004, 1005] (by decide +kernel) (by decide +kernel)
set_option maxRecDepth 20000 in
theorem gL_law_X6_price : GoodIn wsL_law (wsV RL 90 RX6 yX6_price wsX6_price) := goodIn_app (goodIn_of _ (by decide +kernel)) ggL_law_X6_price
set_option maxRecDepth 20000 in
theorem ggL_law_X7_price : GoodIn wsL_law wsX7_price := goodIn_r _ [680, 681, 125, 422, 423, 424, 5, 425, 85, 130, 131, 132, 445, 446, 447, 448, 426, 427, 428, 429, 449, 450, 451, 452, 453, 454, 455, 456, 962, 963, 964, 965, 966, 967, 968, 969, 970, 971, 972, 973, 974, 975, 976, 977, 978, 979, 980, 981, 982, 983, 984, 985] (by decide +kernel) (by decide +kernel)
set_option maxRecDepth 20000 in
theorem gL_law_X7_price : GoodIn wsL_law (wsV RL 93 RX7 yX7_price wsX7_price) := goodIn_app (goodIn_of _ (by decide +kernel)) ggL_law_X7_price
set_option maxRecDepth 20000 in
theorem ggL_law_X6_prices : GoodIn wsL_law wsX6_prices := goodIn_r _ [685, 99, 23, 228, 465, 526, 527, 528, 2, 529, 530, 103, 104, 105, 374, 375, 376, 22, 377, 61, 514, 515, 516, 517, 398, 399, 400, 401, 60, 402, 403, 404, 405, 406, 55, 56, 407, 408, 409, 410, 411, 412, 413, 414, 59, 951, 952, 953, 954, 955, 956, 957, 958, 959, 960, 961, 993, 994, 995, 996, 997, 998, 999, 1000, 1001, 1002, 1003, 1004, 1005] (by decide +kernel) (by decide +kernel)
set_option maxRecDepth 20000 in
theorem gL_law_X6_prices : GoodIn wsL_law (wsV RL 94 RX6 yX6_prices wsX6_prices) := goodIn_app (goodIn_of _ (by decide +kernel)) ggL_law_X6_prices
set_option maxRecDepth 20000 in
theorem ggL_law_X7_prices : GoodIn wsL_law wsX7_prices := goodIn_r _ [689, 681, 125, 85, 535, 536, 537, 5, 538, 130, 131, 132, 426, 427, 428, 429, 445, 446, 447, 448, 449, 450, 451, 452, 453, 454, 455, 456, 962, 963, 964, 965, 966, 967, 968, 969, 970, 971, 972, 973, 974, 975, 976, 977, 978, 979, 980, 981, 982, 983, 984, 985] (by decide +kernel) (by decide +kernel)
set_option maxRecDepth 20000 in
theorem gL_law_X7_prices : GoodIn wsL_law (wsV RL 97 RX7 yX7_prices wsX7_prices) := goodIn_app (goodIn_of _ (by decide +kernel)) ggL_law_X7_prices
set_option maxRecDepth 20000 in
theorem ggL_law_X6_settles : GoodIn wsL_law wsX6_settles := goodIn_r _ [693, 99, 25, 23, 464, 526, 527, 528, 2, 529, 530, 103, 104, 105, 371, 372, 373, 292, 293, 294, 22, 295, 239, 296, 297, 240, 241, 242, 55, 56, 57, 58, 59, 60, 61, 694, 695, 696, 697, 402, 375, 376, 377, 666, 515, 516, 517, 398, 399, 400, 401, 403, 404, 405, 406, 407, 408, 409, 410, 411, 412, 413, 414, 698, 467, 468, 469, 470, 471, 472, 699, 700, 701, 702, 951, 952, 953, 954, 955, 956, 957, 958, 959, 960, 961, 993, 994, 995, 996, 997, 998, 999, 1000, 1001, 1002, 1003, 1004, 1005] (by decide +kernel) (by decide +kernel)
set_option maxRecDepth 20000 in
theorem gL_law_X6_settles : GoodIn wsL_law (wsV RL 98 RX6 yX6_settles wsX6_settles) := goodIn_app (goodIn_of _ (by decide +kernel)) ggL_law_X6_settles
set_option maxRecDepth 20000 in
theorem ggL_law_X7_settles : GoodIn wsL_law wsX7_settles := goodIn_r _ [706, 707, 125, 708, 535, 536, 537, 5, 538, 85, 130, 131, 132, 709, 710, 711, 712, 90, 426, 427, 428, 429, 445, 446, 447, 448, 449, 450, 451, 452, 453, 454, 455, 456, 477, 478, 479, 480, 962, 963, 964, 965, 966, 967, 968, 969, 970, 971, 972, 973, 974, 975, 976, 977, 978, 979, 980, 981, 982, 983, 984, 985] (by decide +kernel) (by decide +kernel)
set_option maxRecDepth 20000 in
theorem gL_law_X7_settles : GoodIn wsL_law (wsV RL 101 RX7 yX7_settles wsX7_settles) := goodIn_app (goodIn_of _ (by decide +kernel)) ggL_law_X7_settles
set_option maxRecDepth 20000 in
theorem ggL_law_X6_bestHeavy : GoodIn wsL_law wsX6_bestHeavy := goodIn_r _ [716, 99, 25, 23, 464, 526, 527, 528, 2, 529, 530, 292, 293, 294, 22, 295, 239, 296, 297, 240, 241, 242, 55, 56, 57, 58, 59, 60, 61, 694, 695, 696, 697, 402, 375, 376, 377, 666, 515, 516, 517, 398, 399, 400, 401, 403, 404, 405, 406, 407, 408, 409, 410, 411, 412, 413, 414, 698, 467, 468, 469, 470, 471, 472, 951, 952, 953, 954, 955, 956, 957, 958, 959, 960, 961, 993, 994, 995, 996, 997, 998, 999, 1000, 1001, 1002, 1003, 1004, 1005] (by decide +kernel) (by decide +kernel)
set_option maxRecDepth 20000 in
theorem gL_law_X6_bestHeavy : GoodIn wsL_law (wsV RL 102 RX6 yX6_bestHeavy wsX6_bestHeavy) := goodIn_app (goodIn_of _ (by decide +kernel)) ggL_law_X6_bestHeavy
set_option maxRecDepth 20000 in
theorem ggL_law_X7_bestHeavy : GoodIn wsL_law wsX7_bestHeavy := goodIn_r _ [720, 125, 535, 536, 537, 5, 538, 85, 130, 131, 132, 709, 710, 711, 712, 90, 708, 426, 427, 428, 429, 445, 446, 447, 448, 449, 450, 451, 452, 453, 454, 455, 456, 477, 478, 479, 480, 962, 963, 964, 965, 966, 967, 968, 969, 970, 971, 972, 973, 974, 975, 976, 977, 978, 979, 980, 981, 982, 983, 984, 985] (by decide +kernel) (by decide +kernel)
set_option maxRecDepth 20000 in
theorem gL_law_X7_bestHeavy : GoodIn wsL_law (wsV RL 105 RX7 yX7_bestHeavy wsX7_bestHeavy) := goodIn_app (goodIn_of _ (by decide +kernel)) ggL_law_X7_bestHeavy
set_option maxRecDepth 20000 in
theorem ggL_law_X6_found : GoodIn wsL_law wsX6_found := goodIn_r _ [724, 23, 485, 365, 99, 15, 725, 34, 100, 101, 2, 102, 103, 104, 105, 371, 372, 373, 147, 148, 149, 14, 150, 47, 151, 152, 153, 154, 106, 107, 108, 109, 110, 111, 726, 727, 728, 729, 543, 544, 545, 22, 546, 241, 585, 586, 587, 33, 588, 589, 590, 591, 592, 593, 594, 595, 596, 72, 73, 597, 399, 400, 401, 61, 60, 402, 375, 376, 377, 403, 404, 405, 406, 55, 56, 407, 408, 409, 410, 411, 412, 413, 414, 59, 598, 599, 564, 565, 566, 58, 57, 730, 731, 732, 733, 734, 735, 736, 737, 738, 612, 613, 614, 615, 415, 416, 739, 740, 741, 742, 486, 116, 117, 118, 119, 951, 952, 953, 954, 955, 956, 957, 958, 959, 960, 961, 993, 994, 995, 996, 997, 998, 999, 1000, 1001, 1002, 1003, 1004, 1005, 986, 987, 988, 1012, 1013, 1014, 1015, 1016, 1017, 1018] (by decide +kernel) (by decide +kernel)
set_option maxRecDepth 20000 in
theorem gL_law_X6_found : GoodIn wsL_law (wsV RL 106 RX6 yX6_found wsX6_found) := goodIn_app (goodIn_of _ (by decide +kernel)) ggL_law_X6_found
set_option maxRecDepth 20000 in
theorem ggL_law_X7_found : GoodIn wsL_law wsX7_found := goodIn_r _ [746, 312, 421, 653, 125, 84, 85, 126, 127, 5, 128, 129, 130, 131, 132, 747, 748, 749, 750, 83, 133, 134, 135, 136, 137, 138, 551, 552, 553, 554, 751, 752, 753, 754, 438, 439, 440, 441, 442, 443, 444, 445, 446, 447, 448, 426, 427, 428, 429, 449, 450, 451, 452, 453, 454, 455, 456, 457, 458, 459, 139, 140, 141, 142, 962, 963, 964, 965, 966, 967, 968, 969, 970, 971, 972, 973, 974, 975, 976, 977, 978, 979, 980, 981, 982, 983, 984, 985] (by decide +kernel) (by decide +kernel)
set_option maxRecDepth 20000 in
theorem gL_law_X7_found : GoodIn wsL_law (wsV RL 110 RX7 yX7_found wsX7_found) := goodIn_app (goodIn_of _ (by decide +kernel)) ggL_law_X7_found
set_option maxRecDepth 20000 in
theorem ggL_law_X6_keepsFound : GoodIn wsL_law wsX6_keepsFound := goodIn_r _ [758, 99, 15, 23, 725, 526, 527, 528, 2, 529, 530, 100, 101, 102, 103, 104, 105, 759, 760, 761, 22, 762, 241, 763, 764, 765, 766, 56, 60, 402, 375, 376, 377, 61, 147, 148, 149, 14, 150, 47, 151, 152, 153, 154, 106, 107, 108, 109, 110, 111, 767, 768, 769, 770, 411, 412, 413, 414, 59, 116, 117, 118, 119, 951, 952, 953, 954, 955, 956, 957, 958, 959, 960, 961, 986, 987, 988, 993, 994, 995, 996, 997, 998, 999, 1000, 1001, 1002, 1003, 1004, 1005] (by decide +kernel) (by decide +kernel)
set_option maxRecDepth 20000 in
theorem gL_law_X6_keepsFound : GoodIn wsL_law (wsV RL 111 RX6 yX6_keepsFound wsX6_keepsFound) := goodIn_app (goodIn_of _ (by decide +kernel)) ggL_law_X6_keepsFound
set_option maxRecDepth 20000 in
theorem ggL_law_X7_keepsFound : GoodIn wsL_law wsX7_keepsFound := goodIn_r _ [774, 125, 85, 84, 535, 536, 537, 5, 538, 130, 131, 132, 126, 127, 128, 129, 775, 776, 777, 778, 426, 427, 428, 429, 747, 748, 749, 750, 83, 133, 134, 135, 136, 137, 138, 139, 140, 141, 142, 962, 963, 964, 965, 966, 967, 968, 969, 970, 971, 972, 973, 974, 975, 976, 977, 978, 979, 980, 981, 982, 983, 984, 985] (by decide +kernel) (by decide +kernel)
set_option maxRecDepth 20000 in
theorem gL_law_X7_keepsFound : GoodIn wsL_law (wsV RL 114 RX7 yX7_keepsFound wsX7_keepsFound) := goodIn_app (goodIn_of _ (by decide +kernel)) ggL_law_X7_keepsFound
set_option maxRecDepth 20000 in
theorem ggL_law_X6_free : GoodIn wsL_law wsX6_free := goodIn_r _ [782, 99, 103, 104, 2, 105, 371, 372, 373, 783, 784, 785] (by decide +kernel) (by decide +kernel)
set_option maxRecDepth 20000 in
theorem gL_law_X6_free : GoodIn wsL_law (wsV RL 115 RX6 yX6_free wsX6_free) := goodIn_app (goodIn_of _ (by decide +kernel)) ggL_law_X6_free
set_option maxRecDepth 20000 in
theorem ggL_law_X7_free : GoodIn wsL_law wsX7_free := goodIn_r _ [789, 790, 653, 125, 130, 131, 5, 132] (by decide +kernel) (by decide +kernel)
set_option maxRecDepth 20000 in
theorem gL_law_X7_free : GoodIn wsL_law (wsV RL 118 RX7 yX7_free wsX7_free) := goodIn_app (goodIn_of _ (by decide +kernel)) ggL_law_X7_free
set_option maxRecDepth 20000 in
theorem ggL_law_X6_image : GoodIn wsL_law wsX6_image := goodIn_r _ [794, 99, 23, 485, 365, 26, 795, 796, 2, 797, 103, 104, 105, 292, 293, 294, 22, 295, 239, 296, 297, 240, 241, 242, 55, 56, 57, 58, 59, 60, 61, 951, 952, 953, 954, 955, 956, 957, 958, 959, 960, 961, 993, 994, 995, 996, 997, 998, 999, 1000, 1001, 1002, 1003, 1004, 1005] (by decide +kernel) (by decide +kernel)
set_option maxRecDepth 20000 in
theorem gL_law_X6_image : GoodIn wsL_law (wsV RL 119 RX6 yX6_image wsX6_image) := goodIn_app (goodIn_of _ (by decide +kernel)) ggL_law_X6_image
set_option maxRecDepth 20000 in
theorem ggL_law_X7_image : GoodIn wsL_law wsX7_image := goodIn_r _ [801, 125, 312, 421, 93, 85, 92, 130, 131, 5, 132, 962, 963, 964, 965, 966, 967, 968, 969, 970, 971, 972, 973, 974, 975, 976, 977, 978, 979, 980, 981, 982, 983, 984, 985] (by decide +kernel) (by decide +kernel)
set_option maxRecDepth 20000 in
theorem gL_law_X7_image : GoodIn wsL_law (wsV RL 122 RX7 yX7_image wsX7_image) := goodIn_app (goodIn_of _ (by decide +kernel)) ggL_law_X7_image
set_option maxRecDepth 20000 in
theorem ggL_law_X6_restore : GoodIn wsL_law wsX6_restore := goodIn_r _ [805, 99, 26, 485, 365, 23, 30, 795, 796, 2, 797, 103, 104, 105, 292, 293, 294, 22, 295, 239, 296, 297, 240, 241, 242, 55, 56, 57, 58, 59, 60, 61, 298, 299, 300, 29, 301, 302, 303, 951, 952, 953, 954, 955, 956, 957, 958, 959, 960, 961, 993, 994, 995, 996, 997, 998, 999, 1000, 1001, 1002, 1003, 1004, 1005, 1006, 1007, 1008, 1009, 1010, 1011] (by decide +kernel) (by decide +kernel)
set_option maxRecDepth 20000 in
theorem gL_law_X6_restore : GoodIn wsL_law (wsV RL 123 RX6 yX6_restore wsX6_restore) := goodIn_app (goodIn_of _ (by decide +kernel)) ggL_law_X6_restore
set_option maxRecDepth 20000 in
theorem ggL_law_X7_restore : GoodIn wsL_law wsX7_restore := goodIn_r _ [809, 125, 92, 421, 85, 93, 313, 130, 131, 5, 132, 962, 963, 964, 965, 966, 967, 968, 969, 970, 971, 972, 973, 974, 975, 976, 977, 978, 979, 980, 981, 982, 983, 984, 985] (by decide +kernel) (by decide +kernel)
set_option maxRecDepth 20000 in
theorem gL_law_X7_restore : GoodIn wsL_law (wsV RL 126 RX7 yX7_restore wsX7_restore) := goodIn_app (goodIn_of _ (by decide +kernel)) ggL_law_X7_restore
set_option maxRecDepth 20000 in
theorem ggL_law_X6_kind : GoodIn wsL_law wsX6_kind := goodIn_r _ [813, 23, 814, 99, 367, 368, 369, 2, 370, 228, 951, 952, 953, 954, 955, 956, 957, 958, 959, 960, 961, 993, 994, 995, 996, 997, 998, 999, 1000, 1001, 1002, 1003, 1004, 1005] (by decide +kernel) (by decide +kernel)
set_option maxRecDepth 20000 in
theorem gL_law_X6_kind : GoodIn wsL_law (wsV RL 127 RX6 yX6_kind wsX6_kind) := goodIn_app (goodIn_of _ (by decide +kernel)) ggL_law_X6_kind
set_option maxRecDepth 20000 in
theorem ggL_law_X7_kind : GoodIn wsL_law wsX7_kind := goodIn_r _ [818, 85, 125, 422, 423, 424, 5, 425, 130, 131, 132, 962, 963, 964, 965, 966, 967, 968, 969, 970, 971, 972, 973, 974, 975, 976, 977, 978, 979, 980, 981, 982, 983, 984, 985] (by decide +kernel) (by decide +kernel)
set_option maxRecDepth 20000 in
theorem gL_law_X7_kind : GoodIn wsL_law (wsV RL 130 RX7 yX7_kind wsX7_kind) := goodIn_app (goodIn_of _ (by decide +kernel)) ggL_law_X7_kind
set_option maxRecDepth 20000 in
theorem ggL_law_X6_as : GoodIn wsL_law wsX6_as := goodIn_r _ [822, 99, 23, 814, 367, 368, 369, 2, 370, 228, 103, 104, 105, 823, 824, 825, 826, 827, 828, 116, 117, 118, 119, 110, 106, 107, 108, 109, 111, 951, 952, 953, 954, 955, 956, 957, 958, 959, 960, 961, 993, 994, 995, 996, 997, 998, 999, 1000, 1001, 1002, 1003, 1004, 1005] (by decide +kernel) (by decide +kernel)
set_option maxRecDepth 20000 in
theorem gL_law_X6_as : GoodIn wsL_law (wsV RL 131 RX6 yX6_as wsX6_as) := goodIn_app (goodIn_of _ (by decide +kernel)) ggL_law_X6_as
set_option maxRecDepth 20000 in
theorem ggL_law_X7_as : GoodIn wsL_law wsX7_as := goodIn_r _ [832, 672, 125, 85, 422, 423, 424, 5, 425, 130, 131, 132, 833, 834, 835, 139, 140, 141, 142, 137, 133, 134, 135, 136, 138, 962, 963, 964, 965, 966, 967, 968, 969, 970, 971, 972, 973, 974, 975, 976, 977, 978, 979, 980, 981, 982, 983, 984, 985] (by decide +kernel) (by decide +kernel)
set_option maxRecDepth 20000 in
theorem gL_law_X7_as : GoodIn wsL_law (wsV RL 134 RX7 yX7_as wsX7_as) := goodIn_app (goodIn_of _ (by decide +kernel)) ggL_law_X7_as
set_option maxRecDepth 20000 in
theorem ggL_law_X6_ask : GoodIn wsL_law wsX6_ask := goodIn_r _ [839, 99, 38, 23, 367, 368, 369, 2, 370, 228, 371, 372, 373, 840, 841, 842, 37, 843, 844, 845, 846, 847, 848, 849, 850, 851, 515, 516, 22, 517, 398, 399, 400, 401, 61, 60, 402, 375, 376, 377, 403, 404, 405, 406, 55, 56, 407, 408, 409, 410, 411, 412, 413, 414, 59, 852, 853, 854, 855, 824, 825, 826, 827, 828, 856, 857, 858, 859, 860, 861, 862, 863, 77, 864, 865, 866, 867, 868, 869, 870, 871, 872, 873, 874, 875, 876, 877, 878, 879, 951, 952, 953, 954, 955, 956, 957, 958, 959, 960, 961, 993, 994, 995, 996, 997, 998, 999, 1000, 1001, 1002, 1003, 1004, 1005, 1019, 1020, 1021, 1022, 1023, 1024] (by decide +kernel) (by decide +kernel)
set_option maxRecDepth 20000 in
theorem gL_law_X6_ask : GoodIn wsL_law (wsV RL 135 RX6 yX6_ask wsX6_ask) := goodIn_app (goodIn_of _ (by decide +kernel)) ggL_law_X6_ask
set_option maxRecDepth 20000 in
theorem ggL_law_X7_ask : GoodIn wsL_law wsX7_ask := goodIn_r _ [883, 125, 884, 422, 423, 424, 5, 425, 85, 130, 131, 132, 885, 886, 887, 888, 889, 890, 891, 892, 94, 893, 894, 895, 896, 897, 898, 899, 900, 901, 902, 903, 904, 905, 906, 907, 908, 445, 446, 447, 448, 426, 427, 428, 429, 449, 450, 451, 452, 453, 454, 455, 456, 909, 910, 911, 912, 913, 914, 915, 916, 962, 963, 964, 965, 966, 967, 968, 969, 970, 971, 972, 973, 974, 975, 976, 977, 978, 979, 980, 981, 982, 983, 984, 985] (by decide +kernel) (by decide +kernel)
set_option maxRecDepth 20000 in
theorem gL_law_X7_ask : GoodIn wsL_law (wsV RL 138 RX7 yX7_ask wsX7_ask) := goodIn_app (goodIn_of _ (by decide +kernel)) ggL_law_X7_ask
set_option maxRecDepth 20000 in
theorem ggL_law_X6_trace : GoodIn wsL_law wsX6_trace := goodIn_r _ [920, 38, 921, 922, 923, 37, 924, 844, 77, 925, 951, 952, 953, 954, 955, 956, 957, 958, 959, 960, 961, 1019, 1020, 1021, 1022, 1023, 1024] (by decide +kernel) (by decide +kernel)
set_option maxRecDepth 20000 in
theorem gL_law_X6_trace : GoodIn wsL_law (wsV RL 139 RX6 yX6_trace wsX6_trace) := goodIn_app (goodIn_of _ (by decide +kernel)) ggL_law_X6_trace
set_option maxRecDepth 20000 in
theorem ggL_law_X7_trace : GoodIn wsL_law wsX7_trace := goodIn_r _ [929, 884, 94, 576, 130, 131, 5, 132, 962, 963, 964, 965, 966, 967, 968, 969, 970, 971, 972, 973, 974, 975, 976, 977, 978, 979, 980, 981, 982, 983, 984, 985] (by decide +kernel) (by decide +kernel)
set_option maxRecDepth 20000 in
theorem gL_law_X7_trace : GoodIn wsL_law (wsV RL 142 RX7 yX7_trace wsX7_trace) := goodIn_app (goodIn_of _ (by decide +kernel)) ggL_law_X7_trace
set_option maxRecDepth 20000 in
theorem ggL_law_X6_count : GoodIn wsL_law wsX6_count := goodIn_r _ [933, 15, 23, 228, 530, 366, 485, 486, 734, 30, 496, 19, 934, 99, 935, 936, 937, 14, 938, 151, 152, 153, 154, 47, 394, 395, 396, 22, 397, 296, 241, 297, 398, 399, 400, 401, 61, 60, 402, 375, 376, 377, 403, 404, 405, 406, 55, 56, 407, 408, 409, 410, 411, 412, 413, 414, 59, 415, 2, 416, 951, 952, 953, 954, 955, 956, 957, 958, 959, 960, 961, 993, 994, 995, 996, 997, 998, 999, 1000, 1001, 1002, 1003, 1004, 1005, 1006, 1007, 1008, 1009, 1010, 1011, 989, 990, 991, 992, 986, 987, 988] (by decide +kernel) (by decide +kernel)
set_option maxRecDepth 20000 in
theorem gL_law_X6_count : GoodIn wsL_law (wsV RL 143 RX6 yX6_count wsX6_count) := goodIn_app (goodIn_of _ (by decide +kernel)) ggL_law_X6_count
set_option maxRecDepth 20000 in
theorem ggL_law_X7_count : GoodIn wsL_law wsX7_count := goodIn_r _ [942, 83, 85, 312, 313, 220, 125, 434, 435, 436, 5, 437, 438, 439, 440, 441, 442, 443, 444, 445, 446, 447, 448, 426, 427, 428, 429, 449, 450, 451, 452, 453, 454, 455, 456, 457, 458, 459, 962, 963, 964, 965, 966, 967, 968, 969, 970, 971, 972, 973, 974, 975, 976, 977, 978, 979, 980, 981, 982, 983, 984, 985] (by decide +kernel) (by decide +kernel)
set_option maxRecDepth 20000 in
theorem gL_law_X7_count : GoodIn wsL_law (wsV RL 146 RX7 yX7_count wsX7_count) := goodIn_app (goodIn_of _ (by decide +kernel)) ggL_law_X7_count
set_option maxRecDepth 20000 in
theorem ggL_law_X6_status : GoodIn wsL_law wsX6_status := goodIn_r _ [946, 110, 951, 952, 953, 954, 955, 956, 957, 958, 959, 960, 961] (by decide +kernel) (by decide +kernel)
set_option maxRecDepth 20000 in
theorem gL_law_X6_status : GoodIn wsL_law (wsV RL 147 RX6 yX6_status wsX6_status) := goodIn_app (goodIn_of _ (by decide +kernel)) ggL_law_X6_status
set_option maxRecDepth 20000 in
theorem ggL_law_X7_status : GoodIn wsL_law wsX7_status := goodIn_r _ [950, 137, 962, 963, 964, 965, 966, 967, 968, 969, 970, 971, 972, 973, 974, 975, 976, 977, 978, 979, 980, 981, 982, 983, 984, 985] (by decide +kernel) (by decide +kernel)
set_option maxRecDepth 20000 in
theorem gL_law_X7_status : GoodIn wsL_law (wsV RL 150 RX7 yX7_status wsX7_status) := goodIn_app (goodIn_of _ (by decide +kernel)) ggL_law_X7_status
theorem dL_law_0 : decode cL_law 0 = .ok (.new 7, 3) := by decide +kernel
theorem dL_law_3 : decode cL_law 3 = .ok (.dup, 1) := by decide +kernel
theorem dL_law_4 : decode cL_law 4 = .ok (.invokespecial 9, 3) := by decide +kernel
theorem dL_law_7 : decode cL_law 7 = .ok (.astore_n 1, 1) := by decide +kernel
theorem dL_law_8 : decode cL_law 8 = .ok (.new 10, 3) := by decide +kernel
theorem dL_law_11 : decode cL_law 11 = .ok (.dup, 1) := by decide +kernel
theorem dL_law_12 : decode cL_law 12 = .ok (.invokespecial 12, 3) := by decide +kernel
theorem dL_law_15 : decode cL_law 15 = .ok (.astore_n 2, 1) := by decide +kernel
theorem dL_law_16 : decode cL_law 16 = .ok (.iconst 0, 1) := by decide +kernel
theorem dL_law_17 : decode cL_law 17 = .ok (.istore_n 3, 1) := by decide +kernel
theorem dL_law_18 : decode cL_law 18 = .ok (.iload_n 3, 1) := by decide +kernel
theorem dL_law_19 : decode cL_law 19 = .ok (.aload_n 0, 1) := by decide +kernel
theorem dL_law_20 : decode cL_law 20 = .ok (.arraylength, 1) := by decide +kernel
theorem dL_law_21 : decode cL_law 21 = .ok (.bipush 6, 2) := by decide +kernel
theorem dL_law_23 : decode cL_law 23 = .ok (.isub, 1) := by decide +kernel
theorem dL_law_24 : decode cL_law 24 = .ok (.if_icmp .gt 1151, 3) := by decide +kernel
theorem dL_law_27 : decode cL_law 27 = .ok (.aload_n 0, 1) := by decide +kernel
theorem dL_law_28 : decode cL_law 28 = .ok (.iload_n 3, 1) := by decide +kernel
theorem dL_law_29 : decode cL_law 29 = .ok (.iaload, 1) := by decide +kernel
theorem dL_law_30 : decode cL_law 30 = .ok (.bipush 63, 2) := by decide +kernel
theorem dL_law_32 : decode cL_law 32 = .ok (.iand, 1) := by decide +kernel
theorem dL_law_33 : decode cL_law 33 = .ok (.tableswitch 1136 0 32 #[147, 190, 233, 296, 319, 342, 355, 368, 401, 434, 457, 470, 503, 526, 549, 572, 605, 638, 671, 704, 737, 780, 803, 856, 899, 942, 965, 988, 1011, 1044, 1077, 1100, 1123], 147) := by decide +kernel
theorem dL_law_180 : decode cL_law 180 = .ok (.aload_n 1, 1) := by decide +kernel
theorem dL_law_181 : decode cL_law 181 = .ok (.aload_n 0, 1) := by decide +kernel
theorem dL_law_182 : decode cL_law 182 = .ok (.iload_n 3, 1) := by decide +kernel
theorem dL_law_183 : decode cL_law 183 = .ok (.iconst 1, 1) := by decide +kernel
theorem dL_law_184 : decode cL_law 184 = .ok (.iadd, 1) := by decide +kernel
theorem dL_law_185 : decode cL_law 185 = .ok (.iaload, 1) := by decide +kernel
theorem dL_law_186 : decode cL_law 186 = .ok (.aload_n 0, 1) := by decide +kernel
theorem dL_law_187 : decode cL_law 187 = .ok (.iload_n 3, 1) := by decide +kernel
theorem dL_law_188 : decode cL_law 188 = .ok (.iconst 2, 1) := by decide +kernel
theorem dL_law_189 : decode cL_law 189 = .ok (.iadd, 1) := by decide +kernel
theorem dL_law_190 : decode cL_law 190 = .ok (.iaload, 1) := by decide +kernel
theorem dL_law_191 : decode cL_law 191 = .ok (.aload_n 0, 1) := by decide +kernel
theorem dL_law_192 : decode cL_law 192 = .ok (.iload_n 3, 1) := by decide +kernel
theorem dL_law_193 : decode cL_law 193 = .ok (.iconst 3, 1) := by decide +kernel
theorem dL_law_194 : decode cL_law 194 = .ok (.iadd, 1) := by decide +kernel
theorem dL_law_195 : decode cL_law 195 = .ok (.iaload, 1) := by decide +kernel
theorem dL_law_196 : decode cL_law 196 = .ok (.invokevirtual 13, 3) := by decide +kernel
theorem dL_law_199 : decode cL_law 199 = .ok (.aload_n 2, 1) := by decide +kernel
theorem dL_law_200 : decode cL_law 200 = .ok (.aload_n 0, 1) := by decide +kernel
theorem dL_law_201 : decode cL_law 201 = .ok (.iload_n 3, 1) := by decide +kernel
theorem dL_law_202 : decode cL_law 202 = .ok (.iconst 1, 1) := by decide +kernel
theorem dL_law_203 : decode cL_law 203 = .ok (.iadd, 1) := by decide +kernel
theorem dL_law_204 : decode cL_law 204 = .ok (.iaload, 1) := by decide +kernel
theorem dL_law_205 : decode cL_law 205 = .ok (.aload_n 0, 1) := by decide +kernel
theorem dL_law_206 : decode cL_law 206 = .ok (.iload_n 3, 1) := by decide +kernel
theorem dL_law_207 : decode cL_law 207 = .ok (.iconst 2, 1) := by decide +kernel
theorem dL_law_208 : decode cL_law 208 = .ok (.iadd, 1) := by decide +kernel
theorem dL_law_209 : decode cL_law 209 = .ok (.iaload, 1) := by decide +kernel
theorem dL_law_210 : decode cL_law 210 = .ok (.aload_n 0, 1) := by decide +kernel
theorem dL_law_211 : decode cL_law 211 = .ok (.iload_n 3, 1) := by decide +kernel
theorem dL_law_212 : decode cL_law 212 = .ok (.iconst 3, 1) := by decide +kernel
theorem dL_law_213 : decode cL_law 213 = .ok (.iadd, 1) := by decide +kernel
theorem dL_law_214 : decode cL_law 214 = .ok (.iaload, 1) := by decide +kernel
theorem dL_law_215 : decode cL_law 215 = .ok (.invokevirtual 17, 3) := by decide +kernel
theorem dL_law_218 : decode cL_law 218 = .ok (.if_icmp .eq 951, 3) := by decide +kernel
theorem dL_law_221 : decode cL_law 221 = .ok (.iconst 0, 1) := by decide +kernel
theorem dL_law_222 : decode cL_law 222 = .ok (.ireturn, 1) := by decide +kernel
theorem dL_law_223 : decode cL_law 223 = .ok (.aload_n 1, 1) := by decide +kernel
theorem dL_law_224 : decode cL_law 224 = .ok (.aload_n 0, 1) := by decide +kernel
theorem dL_law_225 : decode cL_law 225 = .ok (.iload_n 3, 1) := by decide +kernel
theorem dL_law_226 : decode cL_law 226 = .ok (.iconst 1, 1) := by decide +kernel
theorem dL_law_227 : decode cL_law 227 = .ok (.iadd, 1) := by decide +kernel
theorem dL_law_228 : decode cL_law 228 = .ok (.iaload, 1) := by decide +kernel
theorem dL_law_229 : decode cL_law 229 = .ok (.aload_n 0, 1) := by decide +kernel
theorem dL_law_230 : decode cL_law 230 = .ok (.iload_n 3, 1) := by decide +kernel
theorem dL_law_231 : decode cL_law 231 = .ok (.iconst 2, 1) := by decide +kernel
theorem dL_law_232 : decode cL_law 232 = .ok (.iadd, 1) := by decide +kernel
theorem dL_law_233 : decode cL_law 233 = .ok (.iaload, 1) := by decide +kernel
theorem dL_law_234 : decode cL_law 234 = .ok (.aload_n 0, 1) := by decide +kernel
theorem dL_law_235 : decode cL_law 235 = .ok (.iload_n 3, 1) := by decide +kernel
theorem dL_law_236 : decode cL_law 236 = .ok (.iconst 3, 1) := by decide +kernel
theorem dL_law_237 : decode cL_law 237 = .ok (.iadd, 1) := by decide +kernel
theorem dL_law_238 : decode cL_law 238 = .ok (.iaload, 1) := by decide +kernel
theorem dL_law_239 : decode cL_law 239 = .ok (.invokevirtual 18, 3) := by decide +kernel
theorem dL_law_242 : decode cL_law 242 = .ok (.aload_n 2, 1) := by decide +kernel
theorem dL_law_243 : decode cL_law 243 = .ok (.aload_n 0, 1) := by decide +kernel
theorem dL_law_244 : decode cL_law 244 = .ok (.iload_n 3, 1) := by decide +kernel
theorem dL_law_245 : decode cL_law 245 = .ok (.iconst 1, 1) := by decide +kernel
theorem dL_law_246 : decode cL_law 246 = .ok (.iadd, 1) := by decide +kernel
theorem dL_law_247 : decode cL_law 247 = .ok (.iaload, 1) := by decide +kernel
theorem dL_law_248 : decode cL_law 248 = .ok (.aload_n 0, 1) := by decide +kernel
theorem dL_law_249 : decode cL_law 249 = .ok (.iload_n 3, 1) := by decide +kernel
theorem dL_law_250 : decode cL_law 250 = .ok (.iconst 2, 1) := by decide +kernel
theorem dL_law_251 : decode cL_law 251 = .ok (.iadd, 1) := by decide +kernel
theorem dL_law_252 : decode cL_law 252 = .ok (.iaload, 1) := by decide +kernel
theorem dL_law_253 : decode cL_law 253 = .ok (.aload_n 0, 1) := by decide +kernel
theorem dL_law_254 : decode cL_law 254 = .ok (.iload_n 3, 1) := by decide +kernel
theorem dL_law_255 : decode cL_law 255 = .ok (.iconst 3, 1) := by decide +kernel
theorem dL_law_256 : decode cL_law 256 = .ok (.iadd, 1) := by decide +kernel
theorem dL_law_257 : decode cL_law 257 = .ok (.iaload, 1) := by decide +kernel
theorem dL_law_258 : decode cL_law 258 = .ok (.invokevirtual 21, 3) := by decide +kernel
theorem dL_law_261 : decode cL_law 261 = .ok (.if_icmp .eq 908, 3) := by decide +kernel
theorem dL_law_264 : decode cL_law 264 = .ok (.iconst 0, 1) := by decide +kernel
theorem dL_law_265 : decode cL_law 265 = .ok (.ireturn, 1) := by decide +kernel
theorem dL_law_266 : decode cL_law 266 = .ok (.aload_n 1, 1) := by decide +kernel
theorem dL_law_267 : decode cL_law 267 = .ok (.aload_n 0, 1) := by decide +kernel
theorem dL_law_268 : decode cL_law 268 = .ok (.iload_n 3, 1) := by decide +kernel
theorem dL_law_269 : decode cL_law 269 = .ok (.iconst 1, 1) := by decide +kernel
theorem dL_law_270 : decode cL_law 270 = .ok (.iadd, 1) := by decide +kernel
theorem dL_law_271 : decode cL_law 271 = .ok (.iaload, 1) := by decide +kernel
theorem dL_law_272 : decode cL_law 272 = .ok (.aload_n 0, 1) := by decide +kernel
theorem dL_law_273 : decode cL_law 273 = .ok (.iload_n 3, 1) := by decide +kernel
theorem dL_law_274 : decode cL_law 274 = .ok (.iconst 2, 1) := by decide +kernel
theorem dL_law_275 : decode cL_law 275 = .ok (.iadd, 1) := by decide +kernel
theorem dL_law_276 : decode cL_law 276 = .ok (.iaload, 1) := by decide +kernel
theorem dL_law_277 : decode cL_law 277 = .ok (.aload_n 0, 1) := by decide +kernel
theorem dL_law_278 : decode cL_law 278 = .ok (.iload_n 3, 1) := by decide +kernel
theorem dL_law_279 : decode cL_law 279 = .ok (.iconst 3, 1) := by decide +kernel
theorem dL_law_280 : decode cL_law 280 = .ok (.iadd, 1) := by decide +kernel
theorem dL_law_281 : decode cL_law 281 = .ok (.iaload, 1) := by decide +kernel
theorem dL_law_282 : decode cL_law 282 = .ok (.aload_n 0, 1) := by decide +kernel
theorem dL_law_283 : decode cL_law 283 = .ok (.iload_n 3, 1) := by decide +kernel
theorem dL_law_284 : decode cL_law 284 = .ok (.iconst 4, 1) := by decide +kernel
theorem dL_law_285 : decode cL_law 285 = .ok (.iadd, 1) := by decide +kernel
theorem dL_law_286 : decode cL_law 286 = .ok (.iaload, 1) := by decide +kernel
theorem dL_law_287 : decode cL_law 287 = .ok (.aload_n 0, 1) := by decide +kernel
theorem dL_law_288 : decode cL_law 288 = .ok (.iload_n 3, 1) := by decide +kernel
theorem dL_law_289 : decode cL_law 289 = .ok (.iconst 5, 1) := by decide +kernel
theorem dL_law_290 : decode cL_law 290 = .ok (.iadd, 1) := by decide +kernel
theorem dL_law_291 : decode cL_law 291 = .ok (.iaload, 1) := by decide +kernel
theorem dL_law_292 : decode cL_law 292 = .ok (.invokevirtual 22, 3) := by decide +kernel
theorem dL_law_295 : decode cL_law 295 = .ok (.aload_n 2, 1) := by decide +kernel
theorem dL_law_296 : decode cL_law 296 = .ok (.aload_n 0, 1) := by decide +kernel
theorem dL_law_297 : decode cL_law 297 = .ok (.iload_n 3, 1) := by decide +kernel
theorem dL_law_298 : decode cL_law 298 = .ok (.iconst 1, 1) := by decide +kernel
theorem dL_law_299 : decode cL_law 299 = .ok (.iadd, 1) := by decide +kernel
theorem dL_law_300 : decode cL_law 300 = .ok (.iaload, 1) := by decide +kernel
theorem dL_law_301 : decode cL_law 301 = .ok (.aload_n 0, 1) := by decide +kernel
theorem dL_law_302 : decode cL_law 302 = .ok (.iload_n 3, 1) := by decide +kernel
theorem dL_law_303 : decode cL_law 303 = .ok (.iconst 2, 1) := by decide +kernel
theorem dL_law_304 : decode cL_law 304 = .ok (.iadd, 1) := by decide +kernel
theorem dL_law_305 : decode cL_law 305 = .ok (.iaload, 1) := by decide +kernel
theorem dL_law_306 : decode cL_law 306 = .ok (.aload_n 0, 1) := by decide +kernel
theorem dL_law_307 : decode cL_law 307 = .ok (.iload_n 3, 1) := by decide +kernel
theorem dL_law_308 : decode cL_law 308 = .ok (.iconst 3, 1) := by decide +kernel
theorem dL_law_309 : decode cL_law 309 = .ok (.iadd, 1) := by decide +kernel
theorem dL_law_310 : decode cL_law 310 = .ok (.iaload, 1) := by decide +kernel
theorem dL_law_311 : decode cL_law 311 = .ok (.aload_n 0, 1) := by decide +kernel
theorem dL_law_312 : decode cL_law 312 = .ok (.iload_n 3, 1) := by decide +kernel
theorem dL_law_313 : decode cL_law 313 = .ok (.iconst 4, 1) := by decide +kernel
theorem dL_law_314 : decode cL_law 314 = .ok (.iadd, 1) := by decide +kernel
theorem dL_law_315 : decode cL_law 315 = .ok (.iaload, 1) := by decide +kernel
theorem dL_law_316 : decode cL_law 316 = .ok (.aload_n 0, 1) := by decide +kernel
theorem dL_law_317 : decode cL_law 317 = .ok (.iload_n 3, 1) := by decide +kernel
theorem dL_law_318 : decode cL_law 318 = .ok (.iconst 5, 1) := by decide +kernel
theorem dL_law_319 : decode cL_law 319 = .ok (.iadd, 1) := by decide +kernel
theorem dL_law_320 : decode cL_law 320 = .ok (.iaload, 1) := by decide +kernel
theorem dL_law_321 : decode cL_law 321 = .ok (.invokevirtual 26, 3) := by decide +kernel
theorem dL_law_324 : decode cL_law 324 = .ok (.if_icmp .eq 845, 3) := by decide +kernel
theorem dL_law_327 : decode cL_law 327 = .ok (.iconst 0, 1) := by decide +kernel
theorem dL_law_328 : decode cL_law 328 = .ok (.ireturn, 1) := by decide +kernel
theorem dL_law_329 : decode cL_law 329 = .ok (.aload_n 1, 1) := by decide +kernel
theorem dL_law_330 : decode cL_law 330 = .ok (.aload_n 0, 1) := by decide +kernel
theorem dL_law_331 : decode cL_law 331 = .ok (.iload_n 3, 1) := by decide +kernel
theorem dL_law_332 : decode cL_law 332 = .ok (.iconst 1, 1) := by decide +kernel
theorem dL_law_333 : decode cL_law 333 = .ok (.iadd, 1) := by decide +kernel
theorem dL_law_334 : decode cL_law 334 = .ok (.iaload, 1) := by decide +kernel
theorem dL_law_335 : decode cL_law 335 = .ok (.invokevirtual 27, 3) := by decide +kernel
theorem dL_law_338 : decode cL_law 338 = .ok (.aload_n 2, 1) := by decide +kernel
theorem dL_law_339 : decode cL_law 339 = .ok (.aload_n 0, 1) := by decide +kernel
theorem dL_law_340 : decode cL_law 340 = .ok (.iload_n 3, 1) := by decide +kernel
theorem dL_law_341 : decode cL_law 341 = .ok (.iconst 1, 1) := by decide +kernel
theorem dL_law_342 : decode cL_law 342 = .ok (.iadd, 1) := by decide +kernel
theorem dL_law_343 : decode cL_law 343 = .ok (.iaload, 1) := by decide +kernel
theorem dL_law_344 : decode cL_law 344 = .ok (.invokevirtual 31, 3) := by decide +kernel
theorem dL_law_347 : decode cL_law 347 = .ok (.if_icmp .eq 822, 3) := by decide +kernel
theorem dL_law_350 : decode cL_law 350 = .ok (.iconst 0, 1) := by decide +kernel
theorem dL_law_351 : decode cL_law 351 = .ok (.ireturn, 1) := by decide +kernel
theorem dL_law_352 : decode cL_law 352 = .ok (.aload_n 1, 1) := by decide +kernel
theorem dL_law_353 : decode cL_law 353 = .ok (.aload_n 0, 1) := by decide +kernel
theorem dL_law_354 : decode cL_law 354 = .ok (.iload_n 3, 1) := by decide +kernel
theorem dL_law_355 : decode cL_law 355 = .ok (.iconst 1, 1) := by decide +kernel
theorem dL_law_356 : decode cL_law 356 = .ok (.iadd, 1) := by decide +kernel
theorem dL_law_357 : decode cL_law 357 = .ok (.iaload, 1) := by decide +kernel
theorem dL_law_358 : decode cL_law 358 = .ok (.invokevirtual 32, 3) := by decide +kernel
theorem dL_law_361 : decode cL_law 361 = .ok (.aload_n 2, 1) := by decide +kernel
theorem dL_law_362 : decode cL_law 362 = .ok (.aload_n 0, 1) := by decide +kernel
theorem dL_law_363 : decode cL_law 363 = .ok (.iload_n 3, 1) := by decide +kernel
theorem dL_law_364 : decode cL_law 364 = .ok (.iconst 1, 1) := by decide +kernel
theorem dL_law_365 : decode cL_law 365 = .ok (.iadd, 1) := by decide +kernel
theorem dL_law_366 : decode cL_law 366 = .ok (.iaload, 1) := by decide +kernel
theorem dL_law_367 : decode cL_law 367 = .ok (.invokevirtual 35, 3) := by decide +kernel
theorem dL_law_370 : decode cL_law 370 = .ok (.if_icmp .eq 799, 3) := by decide +kernel
theorem dL_law_373 : decode cL_law 373 = .ok (.iconst 0, 1) := by decide +kernel
theorem dL_law_374 : decode cL_law 374 = .ok (.ireturn, 1) := by decide +kernel
theorem dL_law_375 : decode cL_law 375 = .ok (.aload_n 1, 1) := by decide +kernel
theorem dL_law_376 : decode cL_law 376 = .ok (.invokevirtual 36, 3) := by decide +kernel
theorem dL_law_379 : decode cL_law 379 = .ok (.aload_n 2, 1) := by decide +kernel
theorem dL_law_380 : decode cL_law 380 = .ok (.invokevirtual 40, 3) := by decide +kernel
theorem dL_law_383 : decode cL_law 383 = .ok (.if_icmp .eq 786, 3) := by decide +kernel
theorem dL_law_386 : decode cL_law 386 = .ok (.iconst 0, 1) := by decide +kernel
theorem dL_law_387 : decode cL_law 387 = .ok (.ireturn, 1) := by decide +kernel
theorem dL_law_388 : decode cL_law 388 = .ok (.aload_n 1, 1) := by decide +kernel
theorem dL_law_389 : decode cL_law 389 = .ok (.invokevirtual 41, 3) := by decide +kernel
theorem dL_law_392 : decode cL_law 392 = .ok (.aload_n 2, 1) := by decide +kernel
theorem dL_law_393 : decode cL_law 393 = .ok (.invokevirtual 44, 3) := by decide +kernel
theorem dL_law_396 : decode cL_law 396 = .ok (.if_icmp .eq 773, 3) := by decide +kernel
theorem dL_law_399 : decode cL_law 399 = .ok (.iconst 0, 1) := by decide +kernel
theorem dL_law_400 : decode cL_law 400 = .ok (.ireturn, 1) := by decide +kernel
theorem dL_law_401 : decode cL_law 401 = .ok (.aload_n 1, 1) := by decide +kernel
theorem dL_law_402 : decode cL_law 402 = .ok (.aload_n 0, 1) := by decide +kernel
theorem dL_law_403 : decode cL_law 403 = .ok (.iload_n 3, 1) := by decide +kernel
theorem dL_law_404 : decode cL_law 404 = .ok (.iconst 1, 1) := by decide +kernel
theorem dL_law_405 : decode cL_law 405 = .ok (.iadd, 1) := by decide +kernel
theorem dL_law_406 : decode cL_law 406 = .ok (.iaload, 1) := by decide +kernel
theorem dL_law_407 : decode cL_law 407 = .ok (.aload_n 0, 1) := by decide +kernel
theorem dL_law_408 : decode cL_law 408 = .ok (.iload_n 3, 1) := by decide +kernel
theorem dL_law_409 : decode cL_law 409 = .ok (.iconst 2, 1) := by decide +kernel
theorem dL_law_410 : decode cL_law 410 = .ok (.iadd, 1) := by decide +kernel
theorem dL_law_411 : decode cL_law 411 = .ok (.iaload, 1) := by decide +kernel
theorem dL_law_412 : decode cL_law 412 = .ok (.invokevirtual 45, 3) := by decide +kernel
theorem dL_law_415 : decode cL_law 415 = .ok (.aload_n 2, 1) := by decide +kernel
theorem dL_law_416 : decode cL_law 416 = .ok (.aload_n 0, 1) := by decide +kernel
theorem dL_law_417 : decode cL_law 417 = .ok (.iload_n 3, 1) := by decide +kernel
theorem dL_law_418 : decode cL_law 418 = .ok (.iconst 1, 1) := by decide +kernel
theorem dL_law_419 : decode cL_law 419 = .ok (.iadd, 1) := by decide +kernel
theorem dL_law_420 : decode cL_law 420 = .ok (.iaload, 1) := by decide +kernel
theorem dL_law_421 : decode cL_law 421 = .ok (.aload_n 0, 1) := by decide +kernel
theorem dL_law_422 : decode cL_law 422 = .ok (.iload_n 3, 1) := by decide +kernel
theorem dL_law_423 : decode cL_law 423 = .ok (.iconst 2, 1) := by decide +kernel
theorem dL_law_424 : decode cL_law 424 = .ok (.iadd, 1) := by decide +kernel
theorem dL_law_425 : decode cL_law 425 = .ok (.iaload, 1) := by decide +kernel
theorem dL_law_426 : decode cL_law 426 = .ok (.invokevirtual 49, 3) := by decide +kernel
theorem dL_law_429 : decode cL_law 429 = .ok (.if_icmp .eq 740, 3) := by decide +kernel
theorem dL_law_432 : decode cL_law 432 = .ok (.iconst 0, 1) := by decide +kernel
theorem dL_law_433 : decode cL_law 433 = .ok (.ireturn, 1) := by decide +kernel
theorem dL_law_434 : decode cL_law 434 = .ok (.aload_n 1, 1) := by decide +kernel
theorem dL_law_435 : decode cL_law 435 = .ok (.aload_n 0, 1) := by decide +kernel
theorem dL_law_436 : decode cL_law 436 = .ok (.iload_n 3, 1) := by decide +kernel
theorem dL_law_437 : decode cL_law 437 = .ok (.iconst 1, 1) := by decide +kernel
theorem dL_law_438 : decode cL_law 438 = .ok (.iadd, 1) := by decide +kernel
theorem dL_law_439 : decode cL_law 439 = .ok (.iaload, 1) := by decide +kernel
theorem dL_law_440 : decode cL_law 440 = .ok (.aload_n 0, 1) := by decide +kernel
theorem dL_law_441 : decode cL_law 441 = .ok (.iload_n 3, 1) := by decide +kernel
theorem dL_law_442 : decode cL_law 442 = .ok (.iconst 2, 1) := by decide +kernel
theorem dL_law_443 : decode cL_law 443 = .ok (.iadd, 1) := by decide +kernel
theorem dL_law_444 : decode cL_law 444 = .ok (.iaload, 1) := by decide +kernel
theorem dL_law_445 : decode cL_law 445 = .ok (.invokevirtual 50, 3) := by decide +kernel
theorem dL_law_448 : decode cL_law 448 = .ok (.aload_n 2, 1) := by decide +kernel
theorem dL_law_449 : decode cL_law 449 = .ok (.aload_n 0, 1) := by decide +kernel
theorem dL_law_450 : decode cL_law 450 = .ok (.iload_n 3, 1) := by decide +kernel
theorem dL_law_451 : decode cL_law 451 = .ok (.iconst 1, 1) := by decide +kernel
theorem dL_law_452 : decode cL_law 452 = .ok (.iadd, 1) := by decide +kernel
theorem dL_law_453 : decode cL_law 453 = .ok (.iaload, 1) := by decide +kernel
theorem dL_law_454 : decode cL_law 454 = .ok (.aload_n 0, 1) := by decide +kernel
theorem dL_law_455 : decode cL_law 455 = .ok (.iload_n 3, 1) := by decide +kernel
theorem dL_law_456 : decode cL_law 456 = .ok (.iconst 2, 1) := by decide +kernel
theorem dL_law_457 : decode cL_law 457 = .ok (.iadd, 1) := by decide +kernel
theorem dL_law_458 : decode cL_law 458 = .ok (.iaload, 1) := by decide +kernel
theorem dL_law_459 : decode cL_law 459 = .ok (.invokevirtual 53, 3) := by decide +kernel
theorem dL_law_462 : decode cL_law 462 = .ok (.if_icmp .eq 707, 3) := by decide +kernel
theorem dL_law_465 : decode cL_law 465 = .ok (.iconst 0, 1) := by decide +kernel
theorem dL_law_466 : decode cL_law 466 = .ok (.ireturn, 1) := by decide +kernel
theorem dL_law_467 : decode cL_law 467 = .ok (.aload_n 1, 1) := by decide +kernel
theorem dL_law_468 : decode cL_law 468 = .ok (.aload_n 0, 1) := by decide +kernel
theorem dL_law_469 : decode cL_law 469 = .ok (.iload_n 3, 1) := by decide +kernel
theorem dL_law_470 : decode cL_law 470 = .ok (.iconst 1, 1) := by decide +kernel
theorem dL_law_471 : decode cL_law 471 = .ok (.iadd, 1) := by decide +kernel
theorem dL_law_472 : decode cL_law 472 = .ok (.iaload, 1) := by decide +kernel
theorem dL_law_473 : decode cL_law 473 = .ok (.invokevirtual 54, 3) := by decide +kernel
theorem dL_law_476 : decode cL_law 476 = .ok (.aload_n 2, 1) := by decide +kernel
