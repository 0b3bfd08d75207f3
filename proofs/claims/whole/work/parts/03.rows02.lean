theorem dX3_left_29 : decode cX3_left 29 = .ok (.isub, 1) := by decide +kernel
theorem dX3_left_30 : decode cX3_left 30 = .ok (.goto 4, 3) := by decide +kernel
theorem dX3_left_33 : decode cX3_left 33 = .ok (.iconst (-1), 1) := by decide +kernel
theorem dX3_left_34 : decode cX3_left 34 = .ok (.ireturn, 1) := by decide +kernel
set_option maxRecDepth 20000 in
theorem ggX3_late_X3_pictureAt : GoodIn wsX3_late wsX3_pictureAt := goodIn_r _ [8, 9, 10, 92, 93, 94, 95, 96, 97, 98, 99, 100] (by decide +kernel) (by decide +kernel)
set_option maxRecDepth 20000 in
theorem gX3_late_X3_pictureAt : GoodIn wsX3_late (wsV RX3 54 RX3 yX3_pictureAt wsX3_pictureAt) := goodIn_app (goodIn_of _ (by decide +kernel)) ggX3_late_X3_pictureAt
set_option maxRecDepth 20000 in
theorem ggX3_late_X3_isChosen : GoodIn wsX3_late wsX3_isChosen := goodIn_r _ [14, 3, 92, 93, 94, 95, 96, 97, 98, 99, 100] (by decide +kernel) (by decide +kernel)
set_option maxRecDepth 20000 in
theorem gX3_late_X3_isChosen : GoodIn wsX3_late (wsV RX3 134 RX3 yX3_isChosen wsX3_isChosen) := goodIn_app (goodIn_of _ (by decide +kernel)) ggX3_late_X3_isChosen
set_option maxRecDepth 20000 in
theorem ggX3_late_X1_bringIn : GoodIn wsX3_late wsX1_bringIn := goodIn_r _ [19, 20, 21, 22, 23, 24, 18, 25, 26, 27, 28, 29, 30, 31, 32, 33, 34, 35, 36, 37, 38, 39, 40, 41, 42, 43, 44, 45, 46, 47, 48, 49, 50, 51, 52, 53, 54, 55, 56, 57, 58, 59, 60, 61, 62, 63, 64, 65, 66, 67, 68, 69, 70, 71, 72, 73, 74, 75, 76, 77, 78, 79, 80, 81, 82, 83, 84, 85, 86, 87, 88, 89, 90, 91, 101, 102, 103, 104, 105, 106, 107, 108, 109, 110] (by decide +kernel) (by decide +kernel)
set_option maxRecDepth 20000 in
theorem gX3_late_X1_bringIn : GoodIn wsX3_late (wsV RX3 179 RX1 yX1_bringIn wsX1_bringIn) := goodIn_app (goodIn_of _ (by decide +kernel)) ggX3_late_X1_bringIn
theorem dX3_late_0 : decode cX3_late 0 = .ok (.aload_n 0, 1) := by decide +kernel
theorem dX3_late_1 : decode cX3_late 1 = .ok (.iload_n 1, 1) := by decide +kernel
theorem dX3_late_2 : decode cX3_late 2 = .ok (.invokevirtual 54, 3) := by decide +kernel
theorem dX3_late_5 : decode cX3_late 5 = .ok (.ifnull 21, 3) := by decide +kernel
theorem dX3_late_8 : decode cX3_late 8 = .ok (.aload_n 0, 1) := by decide +kernel
theorem dX3_late_9 : decode cX3_late 9 = .ok (.iload_n 1, 1) := by decide +kernel
theorem dX3_late_10 : decode cX3_late 10 = .ok (.invokevirtual 134, 3) := by decide +kernel
theorem dX3_late_13 : decode cX3_late 13 = .ok (.ifCond .ne 13, 3) := by decide +kernel
theorem dX3_late_16 : decode cX3_late 16 = .ok (.aload_n 0, 1) := by decide +kernel
theorem dX3_late_17 : decode cX3_late 17 = .ok (.getfield 35, 3) := by decide +kernel
theorem dX3_late_20 : decode cX3_late 20 = .ok (.getfield 92, 3) := by decide +kernel
theorem dX3_late_23 : decode cX3_late 23 = .ok (.ifCond .ne 5, 3) := by decide +kernel
theorem dX3_late_26 : decode cX3_late 26 = .ok (.iconst (-1), 1) := by decide +kernel
theorem dX3_late_27 : decode cX3_late 27 = .ok (.ireturn, 1) := by decide +kernel
theorem dX3_late_28 : decode cX3_late 28 = .ok (.aload_n 0, 1) := by decide +kernel
theorem dX3_late_29 : decode cX3_late 29 = .ok (.getfield 35, 3) := by decide +kernel
theorem dX3_late_32 : decode cX3_late 32 = .ok (.iload_n 1, 1) := by decide +kernel
theorem dX3_late_33 : decode cX3_late 33 = .ok (.aload_n 0, 1) := by decide +kernel
theorem dX3_late_34 : decode cX3_late 34 = .ok (.getfield 22, 3) := by decide +kernel
theorem dX3_late_37 : decode cX3_late 37 = .ok (.iconst 3, 1) := by decide +kernel
theorem dX3_late_38 : decode cX3_late 38 = .ok (.iaload, 1) := by decide +kernel
theorem dX3_late_39 : decode cX3_late 39 = .ok (.invokevirtual 179, 3) := by decide +kernel
theorem dX3_late_42 : decode cX3_late 42 = .ok (.istore_n 2, 1) := by decide +kernel
theorem dX3_late_43 : decode cX3_late 43 = .ok (.iload_n 2, 1) := by decide +kernel
theorem dX3_late_44 : decode cX3_late 44 = .ok (.iconst (-1), 1) := by decide +kernel
theorem dX3_late_45 : decode cX3_late 45 = .ok (.if_icmp .eq 15, 3) := by decide +kernel
theorem dX3_late_48 : decode cX3_late 48 = .ok (.aload_n 0, 1) := by decide +kernel
theorem dX3_late_49 : decode cX3_late 49 = .ok (.dup, 1) := by decide +kernel
theorem dX3_late_50 : decode cX3_late 50 = .ok (.getfield 85, 3) := by decide +kernel
theorem dX3_late_53 : decode cX3_late 53 = .ok (.iconst 1, 1) := by decide +kernel
theorem dX3_late_54 : decode cX3_late 54 = .ok (.iload_n 1, 1) := by decide +kernel
theorem dX3_late_55 : decode cX3_late 55 = .ok (.ishl, 1) := by decide +kernel
theorem dX3_late_56 : decode cX3_late 56 = .ok (.ior, 1) := by decide +kernel
theorem dX3_late_57 : decode cX3_late 57 = .ok (.putfield 85, 3) := by decide +kernel
theorem dX3_late_60 : decode cX3_late 60 = .ok (.iload_n 2, 1) := by decide +kernel
theorem dX3_late_61 : decode cX3_late 61 = .ok (.ireturn, 1) := by decide +kernel
set_option maxRecDepth 20000 in
theorem ggX3_drop_X3_pictureAt : GoodIn wsX3_drop wsX3_pictureAt := goodIn_r _ [7, 8, 9, 21, 22, 23, 24, 25, 26, 27, 28, 29] (by decide +kernel) (by decide +kernel)
set_option maxRecDepth 20000 in
theorem gX3_drop_X3_pictureAt : GoodIn wsX3_drop (wsV RX3 54 RX3 yX3_pictureAt wsX3_pictureAt) := goodIn_app (goodIn_of _ (by decide +kernel)) ggX3_drop_X3_pictureAt
set_option maxRecDepth 20000 in
theorem ggX3_drop_X1_takeOut : GoodIn wsX3_drop wsX1_takeOut := goodIn_r _ [14, 15, 16, 17, 18, 19, 13, 20, 30, 31, 32, 33, 34, 35, 36, 37, 38, 39] (by decide +kernel) (by decide +kernel)
set_option maxRecDepth 20000 in
theorem gX3_drop_X1_takeOut : GoodIn wsX3_drop (wsV RX3 182 RX1 yX1_takeOut wsX1_takeOut) := goodIn_app (goodIn_of _ (by decide +kernel)) ggX3_drop_X1_takeOut
theorem dX3_drop_0 : decode cX3_drop 0 = .ok (.aload_n 0, 1) := by decide +kernel
theorem dX3_drop_1 : decode cX3_drop 1 = .ok (.iload_n 1, 1) := by decide +kernel
theorem dX3_drop_2 : decode cX3_drop 2 = .ok (.invokevirtual 54, 3) := by decide +kernel
theorem dX3_drop_5 : decode cX3_drop 5 = .ok (.ifnull 14, 3) := by decide +kernel
theorem dX3_drop_8 : decode cX3_drop 8 = .ok (.aload_n 0, 1) := by decide +kernel
theorem dX3_drop_9 : decode cX3_drop 9 = .ok (.getfield 35, 3) := by decide +kernel
theorem dX3_drop_12 : decode cX3_drop 12 = .ok (.iload_n 1, 1) := by decide +kernel
theorem dX3_drop_13 : decode cX3_drop 13 = .ok (.invokevirtual 182, 3) := by decide +kernel
theorem dX3_drop_16 : decode cX3_drop 16 = .ok (.ifCond .ne 5, 3) := by decide +kernel
theorem dX3_drop_19 : decode cX3_drop 19 = .ok (.iconst 0, 1) := by decide +kernel
theorem dX3_drop_20 : decode cX3_drop 20 = .ok (.ireturn, 1) := by decide +kernel
theorem dX3_drop_21 : decode cX3_drop 21 = .ok (.aload_n 0, 1) := by decide +kernel
theorem dX3_drop_22 : decode cX3_drop 22 = .ok (.dup, 1) := by decide +kernel
theorem dX3_drop_23 : decode cX3_drop 23 = .ok (.getfield 85, 3) := by decide +kernel
theorem dX3_drop_26 : decode cX3_drop 26 = .ok (.iconst 1, 1) := by decide +kernel
theorem dX3_drop_27 : decode cX3_drop 27 = .ok (.iload_n 1, 1) := by decide +kernel
theorem dX3_drop_28 : decode cX3_drop 28 = .ok (.ishl, 1) := by decide +kernel
theorem dX3_drop_29 : decode cX3_drop 29 = .ok (.iconst (-1), 1) := by decide +kernel
theorem dX3_drop_30 : decode cX3_drop 30 = .ok (.ixor, 1) := by decide +kernel
theorem dX3_drop_31 : decode cX3_drop 31 = .ok (.iand, 1) := by decide +kernel
theorem dX3_drop_32 : decode cX3_drop 32 = .ok (.putfield 85, 3) := by decide +kernel
theorem dX3_drop_35 : decode cX3_drop 35 = .ok (.iconst 1, 1) := by decide +kernel
theorem dX3_drop_36 : decode cX3_drop 36 = .ok (.ireturn, 1) := by decide +kernel
theorem dX3_within_0 : decode cX3_within 0 = .ok (.iload_n 0, 1) := by decide +kernel
theorem dX3_within_1 : decode cX3_within 1 = .ok (.iload_n 1, 1) := by decide +kernel
theorem dX3_within_2 : decode cX3_within 2 = .ok (.if_icmp .lt 12, 3) := by decide +kernel
theorem dX3_within_5 : decode cX3_within 5 = .ok (.iload_n 0, 1) := by decide +kernel
theorem dX3_within_6 : decode cX3_within 6 = .ok (.iload_n 2, 1) := by decide +kernel
theorem dX3_within_7 : decode cX3_within 7 = .ok (.if_icmp .gt 7, 3) := by decide +kernel
theorem dX3_within_10 : decode cX3_within 10 = .ok (.iconst 1, 1) := by decide +kernel
theorem dX3_within_11 : decode cX3_within 11 = .ok (.goto 4, 3) := by decide +kernel
theorem dX3_within_14 : decode cX3_within 14 = .ok (.iconst 0, 1) := by decide +kernel
theorem dX3_within_15 : decode cX3_within 15 = .ok (.ireturn, 1) := by decide +kernel
theorem dX3_isChild_0 : decode cX3_isChild 0 = .ok (.iload_n 1, 1) := by decide +kernel
theorem dX3_isChild_1 : decode cX3_isChild 1 = .ok (.ifCond .lt 15, 3) := by decide +kernel
theorem dX3_isChild_4 : decode cX3_isChild 4 = .ok (.iload_n 1, 1) := by decide +kernel
theorem dX3_isChild_5 : decode cX3_isChild 5 = .ok (.aload_n 0, 1) := by decide +kernel
theorem dX3_isChild_6 : decode cX3_isChild 6 = .ok (.getfield 43, 3) := by decide +kernel
theorem dX3_isChild_9 : decode cX3_isChild 9 = .ok (.if_icmp .ge 7, 3) := by decide +kernel
theorem dX3_isChild_12 : decode cX3_isChild 12 = .ok (.iconst 1, 1) := by decide +kernel
theorem dX3_isChild_13 : decode cX3_isChild 13 = .ok (.goto 4, 3) := by decide +kernel
theorem dX3_isChild_16 : decode cX3_isChild 16 = .ok (.iconst 0, 1) := by decide +kernel
theorem dX3_isChild_17 : decode cX3_isChild 17 = .ok (.ireturn, 1) := by decide +kernel
theorem dX3_pictureAt_0 : decode cX3_pictureAt 0 = .ok (.iload_n 1, 1) := by decide +kernel
theorem dX3_pictureAt_1 : decode cX3_pictureAt 1 = .ok (.ifCond .lt 20, 3) := by decide +kernel
theorem dX3_pictureAt_4 : decode cX3_pictureAt 4 = .ok (.iload_n 1, 1) := by decide +kernel
theorem dX3_pictureAt_5 : decode cX3_pictureAt 5 = .ok (.aload_n 0, 1) := by decide +kernel
theorem dX3_pictureAt_6 : decode cX3_pictureAt 6 = .ok (.getfield 51, 3) := by decide +kernel
theorem dX3_pictureAt_9 : decode cX3_pictureAt 9 = .ok (.if_icmp .ge 12, 3) := by decide +kernel
theorem dX3_pictureAt_12 : decode cX3_pictureAt 12 = .ok (.aload_n 0, 1) := by decide +kernel
theorem dX3_pictureAt_13 : decode cX3_pictureAt 13 = .ok (.getfield 18, 3) := by decide +kernel
theorem dX3_pictureAt_16 : decode cX3_pictureAt 16 = .ok (.iload_n 1, 1) := by decide +kernel
theorem dX3_pictureAt_17 : decode cX3_pictureAt 17 = .ok (.aaload, 1) := by decide +kernel
theorem dX3_pictureAt_18 : decode cX3_pictureAt 18 = .ok (.goto 4, 3) := by decide +kernel
theorem dX3_pictureAt_21 : decode cX3_pictureAt 21 = .ok (.aconst_null, 1) := by decide +kernel
theorem dX3_pictureAt_22 : decode cX3_pictureAt 22 = .ok (.areturn, 1) := by decide +kernel
theorem dX3_isChosen_0 : decode cX3_isChosen 0 = .ok (.aload_n 0, 1) := by decide +kernel
theorem dX3_isChosen_1 : decode cX3_isChosen 1 = .ok (.getfield 85, 3) := by decide +kernel
theorem dX3_isChosen_4 : decode cX3_isChosen 4 = .ok (.iload_n 1, 1) := by decide +kernel
theorem dX3_isChosen_5 : decode cX3_isChosen 5 = .ok (.ishr, 1) := by decide +kernel
theorem dX3_isChosen_6 : decode cX3_isChosen 6 = .ok (.iconst 1, 1) := by decide +kernel
theorem dX3_isChosen_7 : decode cX3_isChosen 7 = .ok (.iand, 1) := by decide +kernel
theorem dX3_isChosen_8 : decode cX3_isChosen 8 = .ok (.ifCond .eq 7, 3) := by decide +kernel
theorem dX3_isChosen_11 : decode cX3_isChosen 11 = .ok (.iconst 1, 1) := by decide +kernel
theorem dX3_isChosen_12 : decode cX3_isChosen 12 = .ok (.goto 4, 3) := by decide +kernel
theorem dX3_isChosen_15 : decode cX3_isChosen 15 = .ok (.iconst 0, 1) := by decide +kernel
theorem dX3_isChosen_16 : decode cX3_isChosen 16 = .ok (.ireturn, 1) := by decide +kernel
set_option maxRecDepth 20000 in
theorem ggX3_shownIn_X3_pictureAt : GoodIn wsX3_shownIn wsX3_pictureAt := goodIn_r _ [5, 6, 7, 19, 20, 21, 22, 23, 24, 25, 26, 27] (by decide +kernel) (by decide +kernel)
set_option maxRecDepth 20000 in
theorem gX3_shownIn_X3_pictureAt : GoodIn wsX3_shownIn (wsV RX3 54 RX3 yX3_pictureAt wsX3_pictureAt) := goodIn_app (goodIn_of _ (by decide +kernel)) ggX3_shownIn_X3_pictureAt
theorem dX3_shownIn_0 : decode cX3_shownIn 0 = .ok (.aload_n 0, 1) := by decide +kernel
theorem dX3_shownIn_1 : decode cX3_shownIn 1 = .ok (.iload_n 1, 1) := by decide +kernel
theorem dX3_shownIn_2 : decode cX3_shownIn 2 = .ok (.invokevirtual 54, 3) := by decide +kernel
theorem dX3_shownIn_5 : decode cX3_shownIn 5 = .ok (.astore_n 2, 1) := by decide +kernel
theorem dX3_shownIn_6 : decode cX3_shownIn 6 = .ok (.aload_n 2, 1) := by decide +kernel
theorem dX3_shownIn_7 : decode cX3_shownIn 7 = .ok (.ifnonnull 7, 3) := by decide +kernel
theorem dX3_shownIn_10 : decode cX3_shownIn 10 = .ok (.iconst 0, 1) := by decide +kernel
theorem dX3_shownIn_11 : decode cX3_shownIn 11 = .ok (.goto 7, 3) := by decide +kernel
theorem dX3_shownIn_14 : decode cX3_shownIn 14 = .ok (.aload_n 2, 1) := by decide +kernel
theorem dX3_shownIn_15 : decode cX3_shownIn 15 = .ok (.getfield 117, 3) := by decide +kernel
theorem dX3_shownIn_18 : decode cX3_shownIn 18 = .ok (.ireturn, 1) := by decide +kernel
set_option maxRecDepth 20000 in
theorem ggX3_worthOf_X3_pictureAt : GoodIn wsX3_worthOf wsX3_pictureAt := goodIn_r _ [5, 6, 7, 19, 20, 21, 22, 23, 24, 25, 26, 27] (by decide +kernel) (by decide +kernel)
set_option maxRecDepth 20000 in
theorem gX3_worthOf_X3_pictureAt : GoodIn wsX3_worthOf (wsV RX3 54 RX3 yX3_pictureAt wsX3_pictureAt) := goodIn_app (goodIn_of _ (by decide +kernel)) ggX3_worthOf_X3_pictureAt
theorem dX3_worthOf_0 : decode cX3_worthOf 0 = .ok (.aload_n 0, 1) := by decide +kernel
theorem dX3_worthOf_1 : decode cX3_worthOf 1 = .ok (.iload_n 1, 1) := by decide +kernel
theorem dX3_worthOf_2 : decode cX3_worthOf 2 = .ok (.invokevirtual 54, 3) := by decide +kernel
theorem dX3_worthOf_5 : decode cX3_worthOf 5 = .ok (.astore_n 2, 1) := by decide +kernel
theorem dX3_worthOf_6 : decode cX3_worthOf 6 = .ok (.aload_n 2, 1) := by decide +kernel
theorem dX3_worthOf_7 : decode cX3_worthOf 7 = .ok (.ifnonnull 7, 3) := by decide +kernel
theorem dX3_worthOf_10 : decode cX3_worthOf 10 = .ok (.iconst 0, 1) := by decide +kernel
theorem dX3_worthOf_11 : decode cX3_worthOf 11 = .ok (.goto 7, 3) := by decide +kernel
theorem dX3_worthOf_14 : decode cX3_worthOf 14 = .ok (.aload_n 2, 1) := by decide +kernel
theorem dX3_worthOf_15 : decode cX3_worthOf 15 = .ok (.getfield 111, 3) := by decide +kernel
theorem dX3_worthOf_18 : decode cX3_worthOf 18 = .ok (.ireturn, 1) := by decide +kernel
set_option maxRecDepth 20000 in
theorem ggX3_worthOfChoice_X3_isChosen : GoodIn wsX3_worthOfChoice wsX3_isChosen := goodIn_r _ [6, 7, 17, 18, 19, 20, 21, 22, 23, 24, 25] (by decide +kernel) (by decide +kernel)
set_option maxRecDepth 20000 in
theorem gX3_worthOfChoice_X3_isChosen : GoodIn wsX3_worthOfChoice (wsV RX3 134 RX3 yX3_isChosen wsX3_isChosen) := goodIn_app (goodIn_of _ (by decide +kernel)) ggX3_worthOfChoice_X3_isChosen
set_option maxRecDepth 20000 in
theorem ggX3_worthOfChoice_X3_worthOf : GoodIn wsX3_worthOfChoice wsX3_worthOf := goodIn_r _ [11, 12, 13, 14, 5, 15, 1, 16, 26, 27, 28, 29, 30, 31, 32, 33, 34, 35, 36, 17, 18, 19, 20, 21, 22, 23, 24, 25] (by decide +kernel) (by decide +kernel)
set_option maxRecDepth 20000 in
theorem gX3_worthOfChoice_X3_worthOf : GoodIn wsX3_worthOfChoice (wsV RX3 185 RX3 yX3_worthOf wsX3_worthOf) := goodIn_app (goodIn_of _ (by decide +kernel)) ggX3_worthOfChoice_X3_worthOf
theorem dX3_worthOfChoice_0 : decode cX3_worthOfChoice 0 = .ok (.iconst 0, 1) := by decide +kernel
theorem dX3_worthOfChoice_1 : decode cX3_worthOfChoice 1 = .ok (.istore_n 1, 1) := by decide +kernel
theorem dX3_worthOfChoice_2 : decode cX3_worthOfChoice 2 = .ok (.iconst 0, 1) := by decide +kernel
theorem dX3_worthOfChoice_3 : decode cX3_worthOfChoice 3 = .ok (.istore_n 2, 1) := by decide +kernel
theorem dX3_worthOfChoice_4 : decode cX3_worthOfChoice 4 = .ok (.iload_n 2, 1) := by decide +kernel
theorem dX3_worthOfChoice_5 : decode cX3_worthOfChoice 5 = .ok (.aload_n 0, 1) := by decide +kernel
theorem dX3_worthOfChoice_6 : decode cX3_worthOfChoice 6 = .ok (.getfield 51, 3) := by decide +kernel
theorem dX3_worthOfChoice_9 : decode cX3_worthOfChoice 9 = .ok (.if_icmp .ge 25, 3) := by decide +kernel
theorem dX3_worthOfChoice_12 : decode cX3_worthOfChoice 12 = .ok (.aload_n 0, 1) := by decide +kernel
theorem dX3_worthOfChoice_13 : decode cX3_worthOfChoice 13 = .ok (.iload_n 2, 1) := by decide +kernel
theorem dX3_worthOfChoice_14 : decode cX3_worthOfChoice 14 = .ok (.invokevirtual 134, 3) := by decide +kernel
theorem dX3_worthOfChoice_17 : decode cX3_worthOfChoice 17 = .ok (.ifCond .eq 11, 3) := by decide +kernel
theorem dX3_worthOfChoice_20 : decode cX3_worthOfChoice 20 = .ok (.iload_n 1, 1) := by decide +kernel
theorem dX3_worthOfChoice_21 : decode cX3_worthOfChoice 21 = .ok (.aload_n 0, 1) := by decide +kernel
theorem dX3_worthOfChoice_22 : decode cX3_worthOfChoice 22 = .ok (.iload_n 2, 1) := by decide +kernel
theorem dX3_worthOfChoice_23 : decode cX3_worthOfChoice 23 = .ok (.invokevirtual 185, 3) := by decide +kernel
theorem dX3_worthOfChoice_26 : decode cX3_worthOfChoice 26 = .ok (.iadd, 1) := by decide +kernel
theorem dX3_worthOfChoice_27 : decode cX3_worthOfChoice 27 = .ok (.istore_n 1, 1) := by decide +kernel
theorem dX3_worthOfChoice_28 : decode cX3_worthOfChoice 28 = .ok (.iinc 2 1, 3) := by decide +kernel
theorem dX3_worthOfChoice_31 : decode cX3_worthOfChoice 31 = .ok (.goto (-27), 3) := by decide +kernel
theorem dX3_worthOfChoice_34 : decode cX3_worthOfChoice 34 = .ok (.iload_n 1, 1) := by decide +kernel
theorem dX3_worthOfChoice_35 : decode cX3_worthOfChoice 35 = .ok (.ireturn, 1) := by decide +kernel
set_option maxRecDepth 20000 in
theorem ggX3_goodPictures_X3_shownIn : GoodIn wsX3_goodPictures wsX3_shownIn := goodIn_r _ [6, 7, 8, 9, 5, 10, 1, 11, 21, 22, 23, 24, 25, 26, 27, 28, 29, 30, 31, 12, 13, 14, 15, 16, 17, 18, 19, 20] (by decide +kernel) (by decide +kernel)
set_option maxRecDepth 20000 in
theorem gX3_goodPictures_X3_shownIn : GoodIn wsX3_goodPictures (wsV RX3 137 RX3 yX3_shownIn wsX3_shownIn) := goodIn_app (goodIn_of _ (by decide +kernel)) ggX3_goodPictures_X3_shownIn
theorem dX3_goodPictures_0 : decode cX3_goodPictures 0 = .ok (.iconst 0, 1) := by decide +kernel
theorem dX3_goodPictures_1 : decode cX3_goodPictures 1 = .ok (.istore_n 1, 1) := by decide +kernel
theorem dX3_goodPictures_2 : decode cX3_goodPictures 2 = .ok (.iconst 0, 1) := by decide +kernel
theorem dX3_goodPictures_3 : decode cX3_goodPictures 3 = .ok (.istore_n 2, 1) := by decide +kernel
theorem dX3_goodPictures_4 : decode cX3_goodPictures 4 = .ok (.iload_n 2, 1) := by decide +kernel
theorem dX3_goodPictures_5 : decode cX3_goodPictures 5 = .ok (.aload_n 0, 1) := by decide +kernel
theorem dX3_goodPictures_6 : decode cX3_goodPictures 6 = .ok (.getfield 51, 3) := by decide +kernel
theorem dX3_goodPictures_9 : decode cX3_goodPictures 9 = .ok (.if_icmp .ge 23, 3) := by decide +kernel
theorem dX3_goodPictures_12 : decode cX3_goodPictures 12 = .ok (.aload_n 0, 1) := by decide +kernel
theorem dX3_goodPictures_13 : decode cX3_goodPictures 13 = .ok (.iload_n 2, 1) := by decide +kernel
theorem dX3_goodPictures_14 : decode cX3_goodPictures 14 = .ok (.invokevirtual 137, 3) := by decide +kernel
theorem dX3_goodPictures_17 : decode cX3_goodPictures 17 = .ok (.ifCond .eq 9, 3) := by decide +kernel
theorem dX3_goodPictures_20 : decode cX3_goodPictures 20 = .ok (.iload_n 1, 1) := by decide +kernel
theorem dX3_goodPictures_21 : decode cX3_goodPictures 21 = .ok (.iconst 1, 1) := by decide +kernel
theorem dX3_goodPictures_22 : decode cX3_goodPictures 22 = .ok (.iload_n 2, 1) := by decide +kernel
theorem dX3_goodPictures_23 : decode cX3_goodPictures 23 = .ok (.ishl, 1) := by decide +kernel
theorem dX3_goodPictures_24 : decode cX3_goodPictures 24 = .ok (.ior, 1) := by decide +kernel
theorem dX3_goodPictures_25 : decode cX3_goodPictures 25 = .ok (.istore_n 1, 1) := by decide +kernel
theorem dX3_goodPictures_26 : decode cX3_goodPictures 26 = .ok (.iinc 2 1, 3) := by decide +kernel
theorem dX3_goodPictures_29 : decode cX3_goodPictures 29 = .ok (.goto (-25), 3) := by decide +kernel
theorem dX3_goodPictures_32 : decode cX3_goodPictures 32 = .ok (.iload_n 1, 1) := by decide +kernel
theorem dX3_goodPictures_33 : decode cX3_goodPictures 33 = .ok (.ireturn, 1) := by decide +kernel
set_option maxRecDepth 20000 in
theorem ggX3_childrenInGood_X3_shownIn : GoodIn wsX3_childrenInGood wsX3_shownIn := goodIn_r _ [6, 7, 8, 9, 5, 10, 1, 11, 21, 22, 23, 24, 25, 26, 27, 28, 29, 30, 31, 12, 13, 14, 15, 16, 17, 18, 19, 20] (by decide +kernel) (by decide +kernel)
set_option maxRecDepth 20000 in
theorem gX3_childrenInGood_X3_shownIn : GoodIn wsX3_childrenInGood (wsV RX3 137 RX3 yX3_shownIn wsX3_shownIn) := goodIn_app (goodIn_of _ (by decide +kernel)) ggX3_childrenInGood_X3_shownIn
theorem dX3_childrenInGood_0 : decode cX3_childrenInGood 0 = .ok (.iconst 0, 1) := by decide +kernel
theorem dX3_childrenInGood_1 : decode cX3_childrenInGood 1 = .ok (.istore_n 1, 1) := by decide +kernel
theorem dX3_childrenInGood_2 : decode cX3_childrenInGood 2 = .ok (.iconst 0, 1) := by decide +kernel
theorem dX3_childrenInGood_3 : decode cX3_childrenInGood 3 = .ok (.istore_n 2, 1) := by decide +kernel
theorem dX3_childrenInGood_4 : decode cX3_childrenInGood 4 = .ok (.iload_n 2, 1) := by decide +kernel
theorem dX3_childrenInGood_5 : decode cX3_childrenInGood 5 = .ok (.aload_n 0, 1) := by decide +kernel
theorem dX3_childrenInGood_6 : decode cX3_childrenInGood 6 = .ok (.getfield 51, 3) := by decide +kernel
theorem dX3_childrenInGood_9 : decode cX3_childrenInGood 9 = .ok (.if_icmp .ge 17, 3) := by decide +kernel
theorem dX3_childrenInGood_12 : decode cX3_childrenInGood 12 = .ok (.iload_n 1, 1) := by decide +kernel
theorem dX3_childrenInGood_13 : decode cX3_childrenInGood 13 = .ok (.aload_n 0, 1) := by decide +kernel
theorem dX3_childrenInGood_14 : decode cX3_childrenInGood 14 = .ok (.iload_n 2, 1) := by decide +kernel
theorem dX3_childrenInGood_15 : decode cX3_childrenInGood 15 = .ok (.invokevirtual 137, 3) := by decide +kernel
theorem dX3_childrenInGood_18 : decode cX3_childrenInGood 18 = .ok (.ior, 1) := by decide +kernel
theorem dX3_childrenInGood_19 : decode cX3_childrenInGood 19 = .ok (.istore_n 1, 1) := by decide +kernel
theorem dX3_childrenInGood_20 : decode cX3_childrenInGood 20 = .ok (.iinc 2 1, 3) := by decide +kernel
theorem dX3_childrenInGood_23 : decode cX3_childrenInGood 23 = .ok (.goto (-19), 3) := by decide +kernel
theorem dX3_childrenInGood_26 : decode cX3_childrenInGood 26 = .ok (.iload_n 1, 1) := by decide +kernel
theorem dX3_childrenInGood_27 : decode cX3_childrenInGood 27 = .ok (.ireturn, 1) := by decide +kernel
set_option maxRecDepth 20000 in
theorem ggX3_chosenShowing_X3_isChosen : GoodIn wsX3_chosenShowing wsX3_isChosen := goodIn_r _ [6, 7, 17, 18, 19, 20, 21, 22, 23, 24, 25] (by decide +kernel) (by decide +kernel)
set_option maxRecDepth 20000 in
theorem gX3_chosenShowing_X3_isChosen : GoodIn wsX3_chosenShowing (wsV RX3 134 RX3 yX3_isChosen wsX3_isChosen) := goodIn_app (goodIn_of _ (by decide +kernel)) ggX3_chosenShowing_X3_isChosen
set_option maxRecDepth 20000 in
theorem ggX3_chosenShowing_X3_shownIn : GoodIn wsX3_chosenShowing wsX3_shownIn := goodIn_r _ [11, 12, 13, 14, 5, 15, 1, 16, 26, 27, 28, 29, 30, 31, 32, 33, 34, 35, 36, 17, 18, 19, 20, 21, 22, 23, 24, 25] (by decide +kernel) (by decide +kernel)
set_option maxRecDepth 20000 in
theorem gX3_chosenShowing_X3_shownIn : GoodIn wsX3_chosenShowing (wsV RX3 137 RX3 yX3_shownIn wsX3_shownIn) := goodIn_app (goodIn_of _ (by decide +kernel)) ggX3_chosenShowing_X3_shownIn
theorem dX3_chosenShowing_0 : decode cX3_chosenShowing 0 = .ok (.iconst 0, 1) := by decide +kernel
theorem dX3_chosenShowing_1 : decode cX3_chosenShowing 1 = .ok (.istore_n 2, 1) := by decide +kernel
theorem dX3_chosenShowing_2 : decode cX3_chosenShowing 2 = .ok (.iconst 0, 1) := by decide +kernel
theorem dX3_chosenShowing_3 : decode cX3_chosenShowing 3 = .ok (.istore_n 3, 1) := by decide +kernel
theorem dX3_chosenShowing_4 : decode cX3_chosenShowing 4 = .ok (.iload_n 3, 1) := by decide +kernel
theorem dX3_chosenShowing_5 : decode cX3_chosenShowing 5 = .ok (.aload_n 0, 1) := by decide +kernel
theorem dX3_chosenShowing_6 : decode cX3_chosenShowing 6 = .ok (.getfield 51, 3) := by decide +kernel
theorem dX3_chosenShowing_9 : decode cX3_chosenShowing 9 = .ok (.if_icmp .ge 30, 3) := by decide +kernel
theorem dX3_chosenShowing_12 : decode cX3_chosenShowing 12 = .ok (.aload_n 0, 1) := by decide +kernel
theorem dX3_chosenShowing_13 : decode cX3_chosenShowing 13 = .ok (.iload_n 3, 1) := by decide +kernel
theorem dX3_chosenShowing_14 : decode cX3_chosenShowing 14 = .ok (.invokevirtual 134, 3) := by decide +kernel
theorem dX3_chosenShowing_17 : decode cX3_chosenShowing 17 = .ok (.ifCond .eq 16, 3) := by decide +kernel
theorem dX3_chosenShowing_20 : decode cX3_chosenShowing 20 = .ok (.aload_n 0, 1) := by decide +kernel
theorem dX3_chosenShowing_21 : decode cX3_chosenShowing 21 = .ok (.iload_n 3, 1) := by decide +kernel
theorem dX3_chosenShowing_22 : decode cX3_chosenShowing 22 = .ok (.invokevirtual 137, 3) := by decide +kernel
theorem dX3_chosenShowing_25 : decode cX3_chosenShowing 25 = .ok (.iload_n 1, 1) := by decide +kernel
theorem dX3_chosenShowing_26 : decode cX3_chosenShowing 26 = .ok (.iand, 1) := by decide +kernel
theorem dX3_chosenShowing_27 : decode cX3_chosenShowing 27 = .ok (.ifCond .eq 6, 3) := by decide +kernel
theorem dX3_chosenShowing_30 : decode cX3_chosenShowing 30 = .ok (.iinc 2 1, 3) := by decide +kernel
theorem dX3_chosenShowing_33 : decode cX3_chosenShowing 33 = .ok (.iinc 3 1, 3) := by decide +kernel
theorem dX3_chosenShowing_36 : decode cX3_chosenShowing 36 = .ok (.goto (-32), 3) := by decide +kernel
theorem dX3_chosenShowing_39 : decode cX3_chosenShowing 39 = .ok (.iload_n 2, 1) := by decide +kernel
theorem dX3_chosenShowing_40 : decode cX3_chosenShowing 40 = .ok (.ireturn, 1) := by decide +kernel
set_option maxRecDepth 20000 in
theorem ggX3_decide_X1_clear : GoodIn wsX3_decide wsX1_clear := goodIn_r _ [7, 8, 18, 19, 20, 21, 22, 23, 24, 25, 26, 27] (by decide +kernel) (by decide +kernel)
set_option maxRecDepth 20000 in
theorem gX3_decide_X1_clear : GoodIn wsX3_decide (wsV RX3 188 RX1 yX1_clear wsX1_clear) := goodIn_app (goodIn_of _ (by decide +kernel)) ggX3_decide_X1_clear
theorem dX3_decide_0 : decode cX3_decide 0 = .ok (.aload_n 0, 1) := by decide +kernel
theorem dX3_decide_1 : decode cX3_decide 1 = .ok (.iload_n 1, 1) := by decide +kernel
theorem dX3_decide_2 : decode cX3_decide 2 = .ok (.putfield 85, 3) := by decide +kernel
theorem dX3_decide_5 : decode cX3_decide 5 = .ok (.aload_n 0, 1) := by decide +kernel
theorem dX3_decide_6 : decode cX3_decide 6 = .ok (.getfield 35, 3) := by decide +kernel
theorem dX3_decide_9 : decode cX3_decide 9 = .ok (.invokevirtual 188, 3) := by decide +kernel
theorem dX3_decide_12 : decode cX3_decide 12 = .ok (.return_, 1) := by decide +kernel
set_option maxRecDepth 20000 in
theorem ggX3_offerPictures_X0_begin : GoodIn wsX3_offerPictures wsX0_begin := goodIn_r _ [10, 11, 12, 13, 14, 15, 63, 64, 65, 66, 67, 68, 69, 70, 71, 72, 73, 74, 75, 76] (by decide +kernel) (by decide +kernel)
set_option maxRecDepth 20000 in
theorem gX3_offerPictures_X0_begin : GoodIn wsX3_offerPictures (wsV RX3 191 RX0 yX0_begin wsX0_begin) := goodIn_app (goodIn_of _ (by decide +kernel)) ggX3_offerPictures_X0_begin
set_option maxRecDepth 20000 in
theorem ggX3_offerPictures_X3_shownIn : GoodIn wsX3_offerPictures wsX3_shownIn := goodIn_r _ [20, 21, 22, 23, 19, 24, 3, 25, 77, 78, 79, 80, 81, 82, 83, 84, 85, 86, 87, 54, 55, 56, 57, 58, 59, 60, 61, 62] (by decide +kernel) (by decide +kernel)
set_option maxRecDepth 20000 in
theorem gX3_offerPictures_X3_shownIn : GoodIn wsX3_offerPictures (wsV RX3 137 RX3 yX3_shownIn wsX3_shownIn) := goodIn_app (goodIn_of _ (by decide +kernel)) ggX3_offerPictures_X3_shownIn
set_option maxRecDepth 20000 in
theorem ggX3_offerPictures_X3_worthOf : GoodIn wsX3_offerPictures wsX3_worthOf := goodIn_r _ [29, 21, 22, 23, 19, 24, 3, 25, 77, 78, 79, 80, 81, 82, 83, 84, 85, 86, 87, 54, 55, 56, 57, 58, 59, 60, 61, 62] (by decide +kernel) (by decide +kernel)
set_option maxRecDepth 20000 in
theorem gX3_offerPictures_X3_worthOf : GoodIn wsX3_offerPictures (wsV RX3 185 RX3 yX3_worthOf wsX3_worthOf) := goodIn_app (goodIn_of _ (by decide +kernel)) ggX3_offerPictures_X3_worthOf
set_option maxRecDepth 20000 in
theorem ggX3_offerPictures_X3_isChosen : GoodIn wsX3_offerPictures wsX3_isChosen := goodIn_r _ [33, 34, 54, 55, 56, 57, 58, 59, 60, 61, 62] (by decide +kernel) (by decide +kernel)
set_option maxRecDepth 20000 in
theorem gX3_offerPictures_X3_isChosen : GoodIn wsX3_offerPictures (wsV RX3 134 RX3 yX3_isChosen wsX3_isChosen) := goodIn_app (goodIn_of _ (by decide +kernel)) ggX3_offerPictures_X3_isChosen
set_option maxRecDepth 20000 in
theorem ggX3_offerPictures_X0_offer : GoodIn wsX3_offerPictures wsX0_offer := goodIn_r _ [38, 13, 39, 40, 41, 15, 42, 14, 43, 44, 9, 45, 63, 64, 65, 66, 67, 68, 69, 70, 71, 72, 73, 74, 75, 76] (by decide +kernel) (by decide +kernel)
set_option maxRecDepth 20000 in
theorem gX3_offerPictures_X0_offer : GoodIn wsX3_offerPictures (wsV RX3 199 RX0 yX0_offer wsX0_offer) := goodIn_app (goodIn_of _ (by decide +kernel)) ggX3_offerPictures_X0_offer
set_option maxRecDepth 20000 in
theorem ggX3_offerPictures_X0_sumUp : GoodIn wsX3_offerPictures wsX0_sumUp := goodIn_r _ [49, 50, 13, 51, 52, 53, 41, 40, 39, 63, 64, 65, 66, 67, 68, 69, 70, 71, 72, 73, 74, 75, 76] (by decide +kernel) (by decide +kernel)
set_option maxRecDepth 20000 in
theorem gX3_offerPictures_X0_sumUp : GoodIn wsX3_offerPictures (wsV RX3 203 RX0 yX0_sumUp wsX0_sumUp) := goodIn_app (goodIn_of _ (by decide +kernel)) ggX3_offerPictures_X0_sumUp
theorem dX3_offerPictures_0 : decode cX3_offerPictures 0 = .ok (.aload_n 0, 1) := by decide +kernel
theorem dX3_offerPictures_1 : decode cX3_offerPictures 1 = .ok (.getfield 28, 3) := by decide +kernel
theorem dX3_offerPictures_4 : decode cX3_offerPictures 4 = .ok (.aload_n 0, 1) := by decide +kernel
theorem dX3_offerPictures_5 : decode cX3_offerPictures 5 = .ok (.getfield 22, 3) := by decide +kernel
theorem dX3_offerPictures_8 : decode cX3_offerPictures 8 = .ok (.iconst 1, 1) := by decide +kernel
theorem dX3_offerPictures_9 : decode cX3_offerPictures 9 = .ok (.iaload, 1) := by decide +kernel
theorem dX3_offerPictures_10 : decode cX3_offerPictures 10 = .ok (.aload_n 0, 1) := by decide +kernel
theorem dX3_offerPictures_11 : decode cX3_offerPictures 11 = .ok (.getfield 22, 3) := by decide +kernel
theorem dX3_offerPictures_14 : decode cX3_offerPictures 14 = .ok (.iconst 2, 1) := by decide +kernel
theorem dX3_offerPictures_15 : decode cX3_offerPictures 15 = .ok (.iaload, 1) := by decide +kernel
theorem dX3_offerPictures_16 : decode cX3_offerPictures 16 = .ok (.invokevirtual 191, 3) := by decide +kernel
theorem dX3_offerPictures_19 : decode cX3_offerPictures 19 = .ok (.iconst 0, 1) := by decide +kernel
theorem dX3_offerPictures_20 : decode cX3_offerPictures 20 = .ok (.istore_n 3, 1) := by decide +kernel
theorem dX3_offerPictures_21 : decode cX3_offerPictures 21 = .ok (.iload_n 3, 1) := by decide +kernel
theorem dX3_offerPictures_22 : decode cX3_offerPictures 22 = .ok (.aload_n 0, 1) := by decide +kernel
theorem dX3_offerPictures_23 : decode cX3_offerPictures 23 = .ok (.getfield 51, 3) := by decide +kernel
theorem dX3_offerPictures_26 : decode cX3_offerPictures 26 = .ok (.if_icmp .ge 70, 3) := by decide +kernel
theorem dX3_offerPictures_29 : decode cX3_offerPictures 29 = .ok (.aload_n 0, 1) := by decide +kernel
theorem dX3_offerPictures_30 : decode cX3_offerPictures 30 = .ok (.iload_n 3, 1) := by decide +kernel
theorem dX3_offerPictures_31 : decode cX3_offerPictures 31 = .ok (.invokevirtual 137, 3) := by decide +kernel
theorem dX3_offerPictures_34 : decode cX3_offerPictures 34 = .ok (.istore 4, 2) := by decide +kernel
theorem dX3_offerPictures_36 : decode cX3_offerPictures 36 = .ok (.iload 4, 2) := by decide +kernel
theorem dX3_offerPictures_38 : decode cX3_offerPictures 38 = .ok (.ifCond .eq 52, 3) := by decide +kernel
theorem dX3_offerPictures_41 : decode cX3_offerPictures 41 = .ok (.aload_n 0, 1) := by decide +kernel
theorem dX3_offerPictures_42 : decode cX3_offerPictures 42 = .ok (.iload_n 3, 1) := by decide +kernel
theorem dX3_offerPictures_43 : decode cX3_offerPictures 43 = .ok (.invokevirtual 185, 3) := by decide +kernel
theorem dX3_offerPictures_46 : decode cX3_offerPictures 46 = .ok (.i2l, 1) := by decide +kernel
theorem dX3_offerPictures_47 : decode cX3_offerPictures 47 = .ok (.ldc2_w 195, 3) := by decide +kernel
theorem dX3_offerPictures_50 : decode cX3_offerPictures 50 = .ok (.lmul, 1) := by decide +kernel
theorem dX3_offerPictures_51 : decode cX3_offerPictures 51 = .ok (.ldc2_w 197, 3) := by decide +kernel
theorem dX3_offerPictures_54 : decode cX3_offerPictures 54 = .ok (.lsub, 1) := by decide +kernel
theorem dX3_offerPictures_55 : decode cX3_offerPictures 55 = .ok (.lconst 1, 1) := by decide +kernel
theorem dX3_offerPictures_56 : decode cX3_offerPictures 56 = .ok (.iload_n 3, 1) := by decide +kernel
theorem dX3_offerPictures_57 : decode cX3_offerPictures 57 = .ok (.lshl, 1) := by decide +kernel
theorem dX3_offerPictures_58 : decode cX3_offerPictures 58 = .ok (.lsub, 1) := by decide +kernel
theorem dX3_offerPictures_59 : decode cX3_offerPictures 59 = .ok (.lstore 5, 2) := by decide +kernel
theorem dX3_offerPictures_61 : decode cX3_offerPictures 61 = .ok (.aload_n 0, 1) := by decide +kernel
theorem dX3_offerPictures_62 : decode cX3_offerPictures 62 = .ok (.getfield 28, 3) := by decide +kernel
theorem dX3_offerPictures_65 : decode cX3_offerPictures 65 = .ok (.iconst 1, 1) := by decide +kernel
theorem dX3_offerPictures_66 : decode cX3_offerPictures 66 = .ok (.iload_n 3, 1) := by decide +kernel
theorem dX3_offerPictures_67 : decode cX3_offerPictures 67 = .ok (.ishl, 1) := by decide +kernel
theorem dX3_offerPictures_68 : decode cX3_offerPictures 68 = .ok (.iload 4, 2) := by decide +kernel
theorem dX3_offerPictures_70 : decode cX3_offerPictures 70 = .ok (.lload 5, 2) := by decide +kernel
theorem dX3_offerPictures_72 : decode cX3_offerPictures 72 = .ok (.aload_n 0, 1) := by decide +kernel
theorem dX3_offerPictures_73 : decode cX3_offerPictures 73 = .ok (.iload_n 3, 1) := by decide +kernel
theorem dX3_offerPictures_74 : decode cX3_offerPictures 74 = .ok (.invokevirtual 134, 3) := by decide +kernel
theorem dX3_offerPictures_77 : decode cX3_offerPictures 77 = .ok (.ifCond .eq 7, 3) := by decide +kernel
theorem dX3_offerPictures_80 : decode cX3_offerPictures 80 = .ok (.lload_n 1, 1) := by decide +kernel
theorem dX3_offerPictures_81 : decode cX3_offerPictures 81 = .ok (.goto 5, 3) := by decide +kernel
theorem dX3_offerPictures_84 : decode cX3_offerPictures 84 = .ok (.lload_n 1, 1) := by decide +kernel
theorem dX3_offerPictures_85 : decode cX3_offerPictures 85 = .ok (.lneg, 1) := by decide +kernel
theorem dX3_offerPictures_86 : decode cX3_offerPictures 86 = .ok (.ladd, 1) := by decide +kernel
theorem dX3_offerPictures_87 : decode cX3_offerPictures 87 = .ok (.invokevirtual 199, 3) := by decide +kernel
theorem dX3_offerPictures_90 : decode cX3_offerPictures 90 = .ok (.iinc 3 1, 3) := by decide +kernel
theorem dX3_offerPictures_93 : decode cX3_offerPictures 93 = .ok (.goto (-72), 3) := by decide +kernel
theorem dX3_offerPictures_96 : decode cX3_offerPictures 96 = .ok (.aload_n 0, 1) := by decide +kernel
theorem dX3_offerPictures_97 : decode cX3_offerPictures 97 = .ok (.getfield 28, 3) := by decide +kernel
theorem dX3_offerPictures_100 : decode cX3_offerPictures 100 = .ok (.invokevirtual 203, 3) := by decide +kernel
theorem dX3_offerPictures_103 : decode cX3_offerPictures 103 = .ok (.return_, 1) := by decide +kernel
theorem dX4_init_0 : decode cX4_init 0 = .ok (.aload_n 0, 1) := by decide +kernel
theorem dX4_init_1 : decode cX4_init 1 = .ok (.invokespecial 3, 3) := by decide +kernel
theorem dX4_init_4 : decode cX4_init 4 = .ok (.aload_n 0, 1) := by decide +kernel
theorem dX4_init_5 : decode cX4_init 5 = .ok (.bipush 16, 2) := by decide +kernel
theorem dX4_init_7 : decode cX4_init 7 = .ok (.newarray .int, 2) := by decide +kernel
theorem dX4_init_9 : decode cX4_init 9 = .ok (.putfield 9, 3) := by decide +kernel
theorem dX4_init_12 : decode cX4_init 12 = .ok (.aload_n 0, 1) := by decide +kernel
theorem dX4_init_13 : decode cX4_init 13 = .ok (.bipush 16, 2) := by decide +kernel
theorem dX4_init_15 : decode cX4_init 15 = .ok (.newarray .int, 2) := by decide +kernel
theorem dX4_init_17 : decode cX4_init 17 = .ok (.putfield 13, 3) := by decide +kernel
theorem dX4_init_20 : decode cX4_init 20 = .ok (.aload_n 0, 1) := by decide +kernel
theorem dX4_init_21 : decode cX4_init 21 = .ok (.bipush 14, 2) := by decide +kernel
theorem dX4_init_23 : decode cX4_init 23 = .ok (.newarray .int, 2) := by decide +kernel
theorem dX4_init_25 : decode cX4_init 25 = .ok (.putfield 16, 3) := by decide +kernel
theorem dX4_init_28 : decode cX4_init 28 = .ok (.aload_n 0, 1) := by decide +kernel
theorem dX4_init_29 : decode cX4_init 29 = .ok (.bipush 14, 2) := by decide +kernel
theorem dX4_init_31 : decode cX4_init 31 = .ok (.newarray .int, 2) := by decide +kernel
theorem dX4_init_33 : decode cX4_init 33 = .ok (.putfield 19, 3) := by decide +kernel
theorem dX4_init_36 : decode cX4_init 36 = .ok (.aload_n 0, 1) := by decide +kernel
theorem dX4_init_37 : decode cX4_init 37 = .ok (.bipush 14, 2) := by decide +kernel
theorem dX4_init_39 : decode cX4_init 39 = .ok (.newarray .int, 2) := by decide +kernel
theorem dX4_init_41 : decode cX4_init 41 = .ok (.putfield 22, 3) := by decide +kernel
theorem dX4_init_44 : decode cX4_init 44 = .ok (.aload_n 0, 1) := by decide +kernel
theorem dX4_init_45 : decode cX4_init 45 = .ok (.bipush 14, 2) := by decide +kernel
theorem dX4_init_47 : decode cX4_init 47 = .ok (.newarray .int, 2) := by decide +kernel
theorem dX4_init_49 : decode cX4_init 49 = .ok (.putfield 25, 3) := by decide +kernel
theorem dX4_init_52 : decode cX4_init 52 = .ok (.aload_n 0, 1) := by decide +kernel
theorem dX4_init_53 : decode cX4_init 53 = .ok (.bipush 112, 2) := by decide +kernel
theorem dX4_init_55 : decode cX4_init 55 = .ok (.newarray .int, 2) := by decide +kernel
theorem dX4_init_57 : decode cX4_init 57 = .ok (.putfield 28, 3) := by decide +kernel
theorem dX4_init_60 : decode cX4_init 60 = .ok (.aload_n 0, 1) := by decide +kernel
theorem dX4_init_61 : decode cX4_init 61 = .ok (.bipush 112, 2) := by decide +kernel
theorem dX4_init_63 : decode cX4_init 63 = .ok (.newarray .int, 2) := by decide +kernel
theorem dX4_init_65 : decode cX4_init 65 = .ok (.putfield 31, 3) := by decide +kernel
theorem dX4_init_68 : decode cX4_init 68 = .ok (.aload_n 0, 1) := by decide +kernel
theorem dX4_init_69 : decode cX4_init 69 = .ok (.bipush 112, 2) := by decide +kernel
theorem dX4_init_71 : decode cX4_init 71 = .ok (.newarray .int, 2) := by decide +kernel
theorem dX4_init_73 : decode cX4_init 73 = .ok (.putfield 34, 3) := by decide +kernel
theorem dX4_init_76 : decode cX4_init 76 = .ok (.aload_n 0, 1) := by decide +kernel
theorem dX4_init_77 : decode cX4_init 77 = .ok (.bipush 112, 2) := by decide +kernel
theorem dX4_init_79 : decode cX4_init 79 = .ok (.newarray .int, 2) := by decide +kernel
theorem dX4_init_81 : decode cX4_init 81 = .ok (.putfield 37, 3) := by decide +kernel
theorem dX4_init_84 : decode cX4_init 84 = .ok (.aload_n 0, 1) := by decide +kernel
theorem dX4_init_85 : decode cX4_init 85 = .ok (.bipush 10, 2) := by decide +kernel
theorem dX4_init_87 : decode cX4_init 87 = .ok (.putfield 40, 3) := by decide +kernel
theorem dX4_init_90 : decode cX4_init 90 = .ok (.aload_n 0, 1) := by decide +kernel
theorem dX4_init_91 : decode cX4_init 91 = .ok (.bipush 14, 2) := by decide +kernel
theorem dX4_init_93 : decode cX4_init 93 = .ok (.putfield 44, 3) := by decide +kernel
theorem dX4_init_96 : decode cX4_init 96 = .ok (.aload_n 0, 1) := by decide +kernel
theorem dX4_init_97 : decode cX4_init 97 = .ok (.bipush 14, 2) := by decide +kernel
theorem dX4_init_99 : decode cX4_init 99 = .ok (.putfield 47, 3) := by decide +kernel
theorem dX4_init_102 : decode cX4_init 102 = .ok (.aload_n 0, 1) := by decide +kernel
theorem dX4_init_103 : decode cX4_init 103 = .ok (.bipush 14, 2) := by decide +kernel
theorem dX4_init_105 : decode cX4_init 105 = .ok (.newarray .int, 2) := by decide +kernel
theorem dX4_init_107 : decode cX4_init 107 = .ok (.putfield 50, 3) := by decide +kernel
theorem dX4_init_110 : decode cX4_init 110 = .ok (.aload_n 0, 1) := by decide +kernel
theorem dX4_init_111 : decode cX4_init 111 = .ok (.iconst 4, 1) := by decide +kernel
theorem dX4_init_112 : decode cX4_init 112 = .ok (.newarray .int, 2) := by decide +kernel
theorem dX4_init_114 : decode cX4_init 114 = .ok (.putfield 53, 3) := by decide +kernel
theorem dX4_init_117 : decode cX4_init 117 = .ok (.aload_n 0, 1) := by decide +kernel
theorem dX4_init_118 : decode cX4_init 118 = .ok (.bipush 8, 2) := by decide +kernel
theorem dX4_init_120 : decode cX4_init 120 = .ok (.newarray .int, 2) := by decide +kernel
theorem dX4_init_122 : decode cX4_init 122 = .ok (.putfield 56, 3) := by decide +kernel
theorem dX4_init_125 : decode cX4_init 125 = .ok (.aload_n 0, 1) := by decide +kernel
theorem dX4_init_126 : decode cX4_init 126 = .ok (.bipush 14, 2) := by decide +kernel
theorem dX4_init_128 : decode cX4_init 128 = .ok (.newarray .int, 2) := by decide +kernel
theorem dX4_init_130 : decode cX4_init 130 = .ok (.putfield 59, 3) := by decide +kernel
theorem dX4_init_133 : decode cX4_init 133 = .ok (.aload_n 0, 1) := by decide +kernel
theorem dX4_init_134 : decode cX4_init 134 = .ok (.sipush 16384, 3) := by decide +kernel
theorem dX4_init_137 : decode cX4_init 137 = .ok (.newarray .int, 2) := by decide +kernel
theorem dX4_init_139 : decode cX4_init 139 = .ok (.putfield 62, 3) := by decide +kernel
theorem dX4_init_142 : decode cX4_init 142 = .ok (.aload_n 0, 1) := by decide +kernel
theorem dX4_init_143 : decode cX4_init 143 = .ok (.sipush 16384, 3) := by decide +kernel
theorem dX4_init_146 : decode cX4_init 146 = .ok (.newarray .int, 2) := by decide +kernel
theorem dX4_init_148 : decode cX4_init 148 = .ok (.putfield 65, 3) := by decide +kernel
theorem dX4_init_151 : decode cX4_init 151 = .ok (.aload_n 0, 1) := by decide +kernel
theorem dX4_init_152 : decode cX4_init 152 = .ok (.bipush 14, 2) := by decide +kernel
theorem dX4_init_154 : decode cX4_init 154 = .ok (.newarray .int, 2) := by decide +kernel
theorem dX4_init_156 : decode cX4_init 156 = .ok (.putfield 68, 3) := by decide +kernel
theorem dX4_init_159 : decode cX4_init 159 = .ok (.return_, 1) := by decide +kernel
theorem dX4_thrown_0 : decode cX4_thrown 0 = .ok (.aload_n 0, 1) := by decide +kernel
theorem dX4_thrown_1 : decode cX4_thrown 1 = .ok (.getfield 71, 3) := by decide +kernel
theorem dX4_thrown_4 : decode cX4_thrown 4 = .ok (.ireturn, 1) := by decide +kernel
theorem dX4_in_0 : decode cX4_in 0 = .ok (.iload_n 0, 1) := by decide +kernel
theorem dX4_in_1 : decode cX4_in 1 = .ok (.iload_n 1, 1) := by decide +kernel
theorem dX4_in_2 : decode cX4_in 2 = .ok (.if_icmp .lt 12, 3) := by decide +kernel
theorem dX4_in_5 : decode cX4_in 5 = .ok (.iload_n 0, 1) := by decide +kernel
theorem dX4_in_6 : decode cX4_in 6 = .ok (.iload_n 2, 1) := by decide +kernel
theorem dX4_in_7 : decode cX4_in 7 = .ok (.if_icmp .gt 7, 3) := by decide +kernel
theorem dX4_in_10 : decode cX4_in 10 = .ok (.iconst 1, 1) := by decide +kernel
theorem dX4_in_11 : decode cX4_in 11 = .ok (.goto 4, 3) := by decide +kernel
theorem dX4_in_14 : decode cX4_in 14 = .ok (.iconst 0, 1) := by decide +kernel
theorem dX4_in_15 : decode cX4_in 15 = .ok (.ireturn, 1) := by decide +kernel
set_option maxRecDepth 20000 in
theorem ggX4_isPicture_X4_in : GoodIn wsX4_isPicture wsX4_in := goodIn_r _ [5] (by decide +kernel) (by decide +kernel)
set_option maxRecDepth 20000 in
theorem gX4_isPicture_X4_in : GoodIn wsX4_isPicture (va_wsS RX4 77 yX4_in wsX4_in) := goodIn_app (goodIn_of _ (by decide +kernel)) ggX4_isPicture_X4_in
theorem dX4_isPicture_0 : decode cX4_isPicture 0 = .ok (.iload_n 1, 1) := by decide +kernel
theorem dX4_isPicture_1 : decode cX4_isPicture 1 = .ok (.iconst 0, 1) := by decide +kernel
theorem dX4_isPicture_2 : decode cX4_isPicture 2 = .ok (.aload_n 0, 1) := by decide +kernel
theorem dX4_isPicture_3 : decode cX4_isPicture 3 = .ok (.getfield 74, 3) := by decide +kernel
theorem dX4_isPicture_6 : decode cX4_isPicture 6 = .ok (.iconst 1, 1) := by decide +kernel
theorem dX4_isPicture_7 : decode cX4_isPicture 7 = .ok (.isub, 1) := by decide +kernel
theorem dX4_isPicture_8 : decode cX4_isPicture 8 = .ok (.invokestatic 77, 3) := by decide +kernel
theorem dX4_isPicture_11 : decode cX4_isPicture 11 = .ok (.ireturn, 1) := by decide +kernel
set_option maxRecDepth 20000 in
theorem ggX4_isChild_X4_in : GoodIn wsX4_isChild wsX4_in := goodIn_r _ [5] (by decide +kernel) (by decide +kernel)
set_option maxRecDepth 20000 in
theorem gX4_isChild_X4_in : GoodIn wsX4_isChild (va_wsS RX4 77 yX4_in wsX4_in) := goodIn_app (goodIn_of _ (by decide +kernel)) ggX4_isChild_X4_in
theorem dX4_isChild_0 : decode cX4_isChild 0 = .ok (.iload_n 1, 1) := by decide +kernel
theorem dX4_isChild_1 : decode cX4_isChild 1 = .ok (.iconst 0, 1) := by decide +kernel
theorem dX4_isChild_2 : decode cX4_isChild 2 = .ok (.aload_n 0, 1) := by decide +kernel
theorem dX4_isChild_3 : decode cX4_isChild 3 = .ok (.getfield 81, 3) := by decide +kernel
theorem dX4_isChild_6 : decode cX4_isChild 6 = .ok (.iconst 1, 1) := by decide +kernel
theorem dX4_isChild_7 : decode cX4_isChild 7 = .ok (.isub, 1) := by decide +kernel
theorem dX4_isChild_8 : decode cX4_isChild 8 = .ok (.invokestatic 77, 3) := by decide +kernel
theorem dX4_isChild_11 : decode cX4_isChild 11 = .ok (.ireturn, 1) := by decide +kernel
set_option maxRecDepth 20000 in
theorem ggX4_child_X4_in : GoodIn wsX4_child wsX4_in := goodIn_r _ [8] (by decide +kernel) (by decide +kernel)
set_option maxRecDepth 20000 in
theorem gX4_child_X4_in : GoodIn wsX4_child (va_wsS RX4 77 yX4_in wsX4_in) := goodIn_app (goodIn_of _ (by decide +kernel)) ggX4_child_X4_in
theorem dX4_child_0 : decode cX4_child 0 = .ok (.aload_n 0, 1) := by decide +kernel
theorem dX4_child_1 : decode cX4_child 1 = .ok (.iconst 0, 1) := by decide +kernel
theorem dX4_child_2 : decode cX4_child 2 = .ok (.putfield 71, 3) := by decide +kernel
theorem dX4_child_5 : decode cX4_child 5 = .ok (.iload_n 1, 1) := by decide +kernel
theorem dX4_child_6 : decode cX4_child 6 = .ok (.iconst 0, 1) := by decide +kernel
theorem dX4_child_7 : decode cX4_child 7 = .ok (.bipush 9, 2) := by decide +kernel
theorem dX4_child_9 : decode cX4_child 9 = .ok (.invokestatic 77, 3) := by decide +kernel
theorem dX4_child_12 : decode cX4_child 12 = .ok (.ifCond .eq 12, 3) := by decide +kernel
theorem dX4_child_15 : decode cX4_child 15 = .ok (.aload_n 0, 1) := by decide +kernel
theorem dX4_child_16 : decode cX4_child 16 = .ok (.getfield 81, 3) := by decide +kernel
theorem dX4_child_19 : decode cX4_child 19 = .ok (.bipush 16, 2) := by decide +kernel
theorem dX4_child_21 : decode cX4_child 21 = .ok (.if_icmp .ne 5, 3) := by decide +kernel
theorem dX4_child_24 : decode cX4_child 24 = .ok (.iconst (-1), 1) := by decide +kernel
theorem dX4_child_25 : decode cX4_child 25 = .ok (.ireturn, 1) := by decide +kernel
theorem dX4_child_26 : decode cX4_child 26 = .ok (.aload_n 0, 1) := by decide +kernel
theorem dX4_child_27 : decode cX4_child 27 = .ok (.getfield 9, 3) := by decide +kernel
theorem dX4_child_30 : decode cX4_child 30 = .ok (.aload_n 0, 1) := by decide +kernel
theorem dX4_child_31 : decode cX4_child 31 = .ok (.getfield 81, 3) := by decide +kernel
theorem dX4_child_34 : decode cX4_child 34 = .ok (.iload_n 1, 1) := by decide +kernel
theorem dX4_child_35 : decode cX4_child 35 = .ok (.iastore, 1) := by decide +kernel
theorem dX4_child_36 : decode cX4_child 36 = .ok (.aload_n 0, 1) := by decide +kernel
theorem dX4_child_37 : decode cX4_child 37 = .ok (.getfield 13, 3) := by decide +kernel
theorem dX4_child_40 : decode cX4_child 40 = .ok (.aload_n 0, 1) := by decide +kernel
theorem dX4_child_41 : decode cX4_child 41 = .ok (.getfield 81, 3) := by decide +kernel
theorem dX4_child_44 : decode cX4_child 44 = .ok (.bipush 7, 2) := by decide +kernel
theorem dX4_child_46 : decode cX4_child 46 = .ok (.iastore, 1) := by decide +kernel
theorem dX4_child_47 : decode cX4_child 47 = .ok (.aload_n 0, 1) := by decide +kernel
theorem dX4_child_48 : decode cX4_child 48 = .ok (.dup, 1) := by decide +kernel
theorem dX4_child_49 : decode cX4_child 49 = .ok (.getfield 81, 3) := by decide +kernel
theorem dX4_child_52 : decode cX4_child 52 = .ok (.iconst 1, 1) := by decide +kernel
theorem dX4_child_53 : decode cX4_child 53 = .ok (.iadd, 1) := by decide +kernel
theorem dX4_child_54 : decode cX4_child 54 = .ok (.putfield 81, 3) := by decide +kernel
theorem dX4_child_57 : decode cX4_child 57 = .ok (.aload_n 0, 1) := by decide +kernel
theorem dX4_child_58 : decode cX4_child 58 = .ok (.getfield 81, 3) := by decide +kernel
theorem dX4_child_61 : decode cX4_child 61 = .ok (.iconst 1, 1) := by decide +kernel
theorem dX4_child_62 : decode cX4_child 62 = .ok (.isub, 1) := by decide +kernel
theorem dX4_child_63 : decode cX4_child 63 = .ok (.ireturn, 1) := by decide +kernel
set_option maxRecDepth 20000 in
theorem ggX4_consent_X4_isChild : GoodIn wsX4_consent wsX4_isChild := goodIn_r _ [7, 8, 9, 10, 6, 11, 12, 13, 14, 15, 16, 17, 18, 19, 20, 21, 22, 23, 24, 25, 26, 27, 28, 29, 30, 31, 32, 33, 34, 35, 36, 37, 38] (by decide +kernel) (by decide +kernel)
set_option maxRecDepth 20000 in
theorem gX4_consent_X4_isChild : GoodIn wsX4_consent (wsV RX4 84 RX4 yX4_isChild wsX4_isChild) := goodIn_app (goodIn_of _ (by decide +kernel)) ggX4_consent_X4_isChild
set_option maxRecDepth 20000 in
theorem ggX4_consent_X4_in : GoodIn wsX4_consent wsX4_in := goodIn_r _ [11] (by decide +kernel) (by decide +kernel)
set_option maxRecDepth 20000 in
theorem gX4_consent_X4_in : GoodIn wsX4_consent (va_wsS RX4 77 yX4_in wsX4_in) := goodIn_app (goodIn_of _ (by decide +kernel)) ggX4_consent_X4_in
theorem dX4_consent_0 : decode cX4_consent 0 = .ok (.aload_n 0, 1) := by decide +kernel
theorem dX4_consent_1 : decode cX4_consent 1 = .ok (.iconst 0, 1) := by decide +kernel
theorem dX4_consent_2 : decode cX4_consent 2 = .ok (.putfield 71, 3) := by decide +kernel
theorem dX4_consent_5 : decode cX4_consent 5 = .ok (.aload_n 0, 1) := by decide +kernel
theorem dX4_consent_6 : decode cX4_consent 6 = .ok (.iload_n 1, 1) := by decide +kernel
theorem dX4_consent_7 : decode cX4_consent 7 = .ok (.invokevirtual 84, 3) := by decide +kernel
theorem dX4_consent_10 : decode cX4_consent 10 = .ok (.ifCond .eq 13, 3) := by decide +kernel
theorem dX4_consent_13 : decode cX4_consent 13 = .ok (.iload_n 2, 1) := by decide +kernel
theorem dX4_consent_14 : decode cX4_consent 14 = .ok (.iconst 0, 1) := by decide +kernel
theorem dX4_consent_15 : decode cX4_consent 15 = .ok (.bipush 7, 2) := by decide +kernel
theorem dX4_consent_17 : decode cX4_consent 17 = .ok (.invokestatic 77, 3) := by decide +kernel
theorem dX4_consent_20 : decode cX4_consent 20 = .ok (.ifCond .ne 5, 3) := by decide +kernel
theorem dX4_consent_23 : decode cX4_consent 23 = .ok (.iconst (-1), 1) := by decide +kernel
theorem dX4_consent_24 : decode cX4_consent 24 = .ok (.ireturn, 1) := by decide +kernel
theorem dX4_consent_25 : decode cX4_consent 25 = .ok (.aload_n 0, 1) := by decide +kernel
theorem dX4_consent_26 : decode cX4_consent 26 = .ok (.getfield 13, 3) := by decide +kernel
theorem dX4_consent_29 : decode cX4_consent 29 = .ok (.iload_n 1, 1) := by decide +kernel
theorem dX4_consent_30 : decode cX4_consent 30 = .ok (.iaload, 1) := by decide +kernel
theorem dX4_consent_31 : decode cX4_consent 31 = .ok (.istore_n 3, 1) := by decide +kernel
theorem dX4_consent_32 : decode cX4_consent 32 = .ok (.aload_n 0, 1) := by decide +kernel
theorem dX4_consent_33 : decode cX4_consent 33 = .ok (.getfield 13, 3) := by decide +kernel
theorem dX4_consent_36 : decode cX4_consent 36 = .ok (.iload_n 1, 1) := by decide +kernel
theorem dX4_consent_37 : decode cX4_consent 37 = .ok (.iload_n 2, 1) := by decide +kernel
theorem dX4_consent_38 : decode cX4_consent 38 = .ok (.iastore, 1) := by decide +kernel
theorem dX4_consent_39 : decode cX4_consent 39 = .ok (.iload_n 3, 1) := by decide +kernel
theorem dX4_consent_40 : decode cX4_consent 40 = .ok (.ireturn, 1) := by decide +kernel
set_option maxRecDepth 20000 in
theorem ggX4_picture_X4_in : GoodIn wsX4_picture wsX4_in := goodIn_r _ [10] (by decide +kernel) (by decide +kernel)
set_option maxRecDepth 20000 in
theorem gX4_picture_X4_in : GoodIn wsX4_picture (va_wsS RX4 77 yX4_in wsX4_in) := goodIn_app (goodIn_of _ (by decide +kernel)) ggX4_picture_X4_in
theorem dX4_picture_0 : decode cX4_picture 0 = .ok (.aload_n 0, 1) := by decide +kernel
theorem dX4_picture_1 : decode cX4_picture 1 = .ok (.iconst 0, 1) := by decide +kernel
theorem dX4_picture_2 : decode cX4_picture 2 = .ok (.putfield 71, 3) := by decide +kernel
theorem dX4_picture_5 : decode cX4_picture 5 = .ok (.iload_n 1, 1) := by decide +kernel
theorem dX4_picture_6 : decode cX4_picture 6 = .ok (.iconst 0, 1) := by decide +kernel
theorem dX4_picture_7 : decode cX4_picture 7 = .ok (.iconst 2, 1) := by decide +kernel
theorem dX4_picture_8 : decode cX4_picture 8 = .ok (.invokestatic 77, 3) := by decide +kernel
theorem dX4_picture_11 : decode cX4_picture 11 = .ok (.ifCond .eq 32, 3) := by decide +kernel
theorem dX4_picture_14 : decode cX4_picture 14 = .ok (.iload_n 2, 1) := by decide +kernel
theorem dX4_picture_15 : decode cX4_picture 15 = .ok (.iconst 0, 1) := by decide +kernel
theorem dX4_picture_16 : decode cX4_picture 16 = .ok (.bipush 100, 2) := by decide +kernel
theorem dX4_picture_18 : decode cX4_picture 18 = .ok (.invokestatic 77, 3) := by decide +kernel
theorem dX4_picture_21 : decode cX4_picture 21 = .ok (.ifCond .eq 22, 3) := by decide +kernel
theorem dX4_picture_24 : decode cX4_picture 24 = .ok (.iload_n 3, 1) := by decide +kernel
theorem dX4_picture_25 : decode cX4_picture 25 = .ok (.iconst 1, 1) := by decide +kernel
theorem dX4_picture_26 : decode cX4_picture 26 = .ok (.bipush 12, 2) := by decide +kernel
theorem dX4_picture_28 : decode cX4_picture 28 = .ok (.invokestatic 77, 3) := by decide +kernel
theorem dX4_picture_31 : decode cX4_picture 31 = .ok (.ifCond .eq 12, 3) := by decide +kernel
theorem dX4_picture_34 : decode cX4_picture 34 = .ok (.aload_n 0, 1) := by decide +kernel
theorem dX4_picture_35 : decode cX4_picture 35 = .ok (.getfield 74, 3) := by decide +kernel
theorem dX4_picture_38 : decode cX4_picture 38 = .ok (.bipush 14, 2) := by decide +kernel
theorem dX4_picture_40 : decode cX4_picture 40 = .ok (.if_icmp .ne 5, 3) := by decide +kernel
theorem dX4_picture_43 : decode cX4_picture 43 = .ok (.iconst (-1), 1) := by decide +kernel
theorem dX4_picture_44 : decode cX4_picture 44 = .ok (.ireturn, 1) := by decide +kernel
theorem dX4_picture_45 : decode cX4_picture 45 = .ok (.aload_n 0, 1) := by decide +kernel
theorem dX4_picture_46 : decode cX4_picture 46 = .ok (.getfield 16, 3) := by decide +kernel
theorem dX4_picture_49 : decode cX4_picture 49 = .ok (.aload_n 0, 1) := by decide +kernel
theorem dX4_picture_50 : decode cX4_picture 50 = .ok (.getfield 74, 3) := by decide +kernel
theorem dX4_picture_53 : decode cX4_picture 53 = .ok (.iload_n 1, 1) := by decide +kernel
theorem dX4_picture_54 : decode cX4_picture 54 = .ok (.iastore, 1) := by decide +kernel
theorem dX4_picture_55 : decode cX4_picture 55 = .ok (.aload_n 0, 1) := by decide +kernel
theorem dX4_picture_56 : decode cX4_picture 56 = .ok (.getfield 19, 3) := by decide +kernel
theorem dX4_picture_59 : decode cX4_picture 59 = .ok (.aload_n 0, 1) := by decide +kernel
theorem dX4_picture_60 : decode cX4_picture 60 = .ok (.getfield 74, 3) := by decide +kernel
theorem dX4_picture_63 : decode cX4_picture 63 = .ok (.iload_n 2, 1) := by decide +kernel
theorem dX4_picture_64 : decode cX4_picture 64 = .ok (.iastore, 1) := by decide +kernel
theorem dX4_picture_65 : decode cX4_picture 65 = .ok (.aload_n 0, 1) := by decide +kernel
theorem dX4_picture_66 : decode cX4_picture 66 = .ok (.getfield 22, 3) := by decide +kernel
theorem dX4_picture_69 : decode cX4_picture 69 = .ok (.aload_n 0, 1) := by decide +kernel
theorem dX4_picture_70 : decode cX4_picture 70 = .ok (.getfield 74, 3) := by decide +kernel
theorem dX4_picture_73 : decode cX4_picture 73 = .ok (.iload_n 3, 1) := by decide +kernel
theorem dX4_picture_74 : decode cX4_picture 74 = .ok (.iastore, 1) := by decide +kernel
theorem dX4_picture_75 : decode cX4_picture 75 = .ok (.aload_n 0, 1) := by decide +kernel
theorem dX4_picture_76 : decode cX4_picture 76 = .ok (.getfield 25, 3) := by decide +kernel
theorem dX4_picture_79 : decode cX4_picture 79 = .ok (.aload_n 0, 1) := by decide +kernel
theorem dX4_picture_80 : decode cX4_picture 80 = .ok (.getfield 74, 3) := by decide +kernel
theorem dX4_picture_83 : decode cX4_picture 83 = .ok (.iconst 0, 1) := by decide +kernel
theorem dX4_picture_84 : decode cX4_picture 84 = .ok (.iastore, 1) := by decide +kernel
theorem dX4_picture_85 : decode cX4_picture 85 = .ok (.aload_n 0, 1) := by decide +kernel
theorem dX4_picture_86 : decode cX4_picture 86 = .ok (.dup, 1) := by decide +kernel
theorem dX4_picture_87 : decode cX4_picture 87 = .ok (.getfield 74, 3) := by decide +kernel
theorem dX4_picture_90 : decode cX4_picture 90 = .ok (.iconst 1, 1) := by decide +kernel
theorem dX4_picture_91 : decode cX4_picture 91 = .ok (.iadd, 1) := by decide +kernel
theorem dX4_picture_92 : decode cX4_picture 92 = .ok (.putfield 74, 3) := by decide +kernel
theorem dX4_picture_95 : decode cX4_picture 95 = .ok (.aload_n 0, 1) := by decide +kernel
theorem dX4_picture_96 : decode cX4_picture 96 = .ok (.getfield 74, 3) := by decide +kernel
theorem dX4_picture_99 : decode cX4_picture 99 = .ok (.iconst 1, 1) := by decide +kernel
theorem dX4_picture_100 : decode cX4_picture 100 = .ok (.isub, 1) := by decide +kernel
theorem dX4_picture_101 : decode cX4_picture 101 = .ok (.ireturn, 1) := by decide +kernel
set_option maxRecDepth 20000 in
theorem ggX4_face_X4_isPicture : GoodIn wsX4_face wsX4_isPicture := goodIn_r _ [11, 12, 13, 14, 10, 15, 21, 22, 23, 24, 25, 26, 27, 28, 29, 30, 31, 32, 33, 34, 35, 36, 37, 38, 39, 40, 41, 42, 43, 44, 45, 46, 47] (by decide +kernel) (by decide +kernel)
set_option maxRecDepth 20000 in
theorem gX4_face_X4_isPicture : GoodIn wsX4_face (wsV RX4 88 RX4 yX4_isPicture wsX4_isPicture) := goodIn_app (goodIn_of _ (by decide +kernel)) ggX4_face_X4_isPicture
set_option maxRecDepth 20000 in
theorem ggX4_face_X4_isChild : GoodIn wsX4_face wsX4_isChild := goodIn_r _ [19, 20, 13, 14, 10, 15, 21, 22, 23, 24, 25, 26, 27, 28, 29, 30, 31, 32, 33, 34, 35, 36, 37, 38, 39, 40, 41, 42, 43, 44, 45, 46, 47] (by decide +kernel) (by decide +kernel)
set_option maxRecDepth 20000 in
theorem gX4_face_X4_isChild : GoodIn wsX4_face (wsV RX4 84 RX4 yX4_isChild wsX4_isChild) := goodIn_app (goodIn_of _ (by decide +kernel)) ggX4_face_X4_isChild
set_option maxRecDepth 20000 in
theorem ggX4_face_X4_in : GoodIn wsX4_face wsX4_in := goodIn_r _ [15] (by decide +kernel) (by decide +kernel)
set_option maxRecDepth 20000 in
theorem gX4_face_X4_in : GoodIn wsX4_face (va_wsS RX4 77 yX4_in wsX4_in) := goodIn_app (goodIn_of _ (by decide +kernel)) ggX4_face_X4_in
theorem dX4_face_0 : decode cX4_face 0 = .ok (.aload_n 0, 1) := by decide +kernel
theorem dX4_face_1 : decode cX4_face 1 = .ok (.iconst 0, 1) := by decide +kernel
theorem dX4_face_2 : decode cX4_face 2 = .ok (.putfield 71, 3) := by decide +kernel
theorem dX4_face_5 : decode cX4_face 5 = .ok (.aload_n 0, 1) := by decide +kernel
theorem dX4_face_6 : decode cX4_face 6 = .ok (.iload_n 1, 1) := by decide +kernel
theorem dX4_face_7 : decode cX4_face 7 = .ok (.invokevirtual 88, 3) := by decide +kernel
theorem dX4_face_10 : decode cX4_face 10 = .ok (.ifCond .eq 54, 3) := by decide +kernel
theorem dX4_face_13 : decode cX4_face 13 = .ok (.aload_n 0, 1) := by decide +kernel
theorem dX4_face_14 : decode cX4_face 14 = .ok (.iload_n 2, 1) := by decide +kernel
theorem dX4_face_15 : decode cX4_face 15 = .ok (.invokevirtual 84, 3) := by decide +kernel
theorem dX4_face_18 : decode cX4_face 18 = .ok (.ifCond .eq 46, 3) := by decide +kernel
theorem dX4_face_21 : decode cX4_face 21 = .ok (.iload_n 3, 1) := by decide +kernel
theorem dX4_face_22 : decode cX4_face 22 = .ok (.iconst 0, 1) := by decide +kernel
theorem dX4_face_23 : decode cX4_face 23 = .ok (.bipush 99, 2) := by decide +kernel
theorem dX4_face_25 : decode cX4_face 25 = .ok (.invokestatic 77, 3) := by decide +kernel
theorem dX4_face_28 : decode cX4_face 28 = .ok (.ifCond .eq 36, 3) := by decide +kernel
theorem dX4_face_31 : decode cX4_face 31 = .ok (.iload 4, 2) := by decide +kernel
theorem dX4_face_33 : decode cX4_face 33 = .ok (.iconst 0, 1) := by decide +kernel
theorem dX4_face_34 : decode cX4_face 34 = .ok (.bipush 99, 2) := by decide +kernel
theorem dX4_face_36 : decode cX4_face 36 = .ok (.invokestatic 77, 3) := by decide +kernel
theorem dX4_face_39 : decode cX4_face 39 = .ok (.ifCond .eq 25, 3) := by decide +kernel
theorem dX4_face_42 : decode cX4_face 42 = .ok (.iload 5, 2) := by decide +kernel
theorem dX4_face_44 : decode cX4_face 44 = .ok (.iconst 0, 1) := by decide +kernel
theorem dX4_face_45 : decode cX4_face 45 = .ok (.bipush 20, 2) := by decide +kernel
theorem dX4_face_47 : decode cX4_face 47 = .ok (.invokestatic 77, 3) := by decide +kernel
theorem dX4_face_50 : decode cX4_face 50 = .ok (.ifCond .eq 14, 3) := by decide +kernel
theorem dX4_face_53 : decode cX4_face 53 = .ok (.aload_n 0, 1) := by decide +kernel
theorem dX4_face_54 : decode cX4_face 54 = .ok (.getfield 25, 3) := by decide +kernel
theorem dX4_face_57 : decode cX4_face 57 = .ok (.iload_n 1, 1) := by decide +kernel
theorem dX4_face_58 : decode cX4_face 58 = .ok (.iaload, 1) := by decide +kernel
theorem dX4_face_59 : decode cX4_face 59 = .ok (.bipush 8, 2) := by decide +kernel
theorem dX4_face_61 : decode cX4_face 61 = .ok (.if_icmp .ne 5, 3) := by decide +kernel
theorem dX4_face_64 : decode cX4_face 64 = .ok (.iconst (-1), 1) := by decide +kernel
theorem dX4_face_65 : decode cX4_face 65 = .ok (.ireturn, 1) := by decide +kernel
theorem dX4_face_66 : decode cX4_face 66 = .ok (.iconst 0, 1) := by decide +kernel
theorem dX4_face_67 : decode cX4_face 67 = .ok (.istore 6, 2) := by decide +kernel
theorem dX4_face_69 : decode cX4_face 69 = .ok (.iload 6, 2) := by decide +kernel
theorem dX4_face_71 : decode cX4_face 71 = .ok (.aload_n 0, 1) := by decide +kernel
theorem dX4_face_72 : decode cX4_face 72 = .ok (.getfield 25, 3) := by decide +kernel
theorem dX4_face_75 : decode cX4_face 75 = .ok (.iload_n 1, 1) := by decide +kernel
theorem dX4_face_76 : decode cX4_face 76 = .ok (.iaload, 1) := by decide +kernel
theorem dX4_face_77 : decode cX4_face 77 = .ok (.if_icmp .ge 27, 3) := by decide +kernel
theorem dX4_face_80 : decode cX4_face 80 = .ok (.aload_n 0, 1) := by decide +kernel
theorem dX4_face_81 : decode cX4_face 81 = .ok (.getfield 28, 3) := by decide +kernel
theorem dX4_face_84 : decode cX4_face 84 = .ok (.bipush 8, 2) := by decide +kernel
theorem dX4_face_86 : decode cX4_face 86 = .ok (.iload_n 1, 1) := by decide +kernel
theorem dX4_face_87 : decode cX4_face 87 = .ok (.imul, 1) := by decide +kernel
theorem dX4_face_88 : decode cX4_face 88 = .ok (.iload 6, 2) := by decide +kernel
theorem dX4_face_90 : decode cX4_face 90 = .ok (.iadd, 1) := by decide +kernel
theorem dX4_face_91 : decode cX4_face 91 = .ok (.iaload, 1) := by decide +kernel
theorem dX4_face_92 : decode cX4_face 92 = .ok (.iload_n 2, 1) := by decide +kernel
theorem dX4_face_93 : decode cX4_face 93 = .ok (.if_icmp .ne 5, 3) := by decide +kernel
theorem dX4_face_96 : decode cX4_face 96 = .ok (.iconst (-1), 1) := by decide +kernel
theorem dX4_face_97 : decode cX4_face 97 = .ok (.ireturn, 1) := by decide +kernel
theorem dX4_face_98 : decode cX4_face 98 = .ok (.iinc 6 1, 3) := by decide +kernel
theorem dX4_face_101 : decode cX4_face 101 = .ok (.goto (-32), 3) := by decide +kernel
theorem dX4_face_104 : decode cX4_face 104 = .ok (.bipush 8, 2) := by decide +kernel
theorem dX4_face_106 : decode cX4_face 106 = .ok (.iload_n 1, 1) := by decide +kernel
theorem dX4_face_107 : decode cX4_face 107 = .ok (.imul, 1) := by decide +kernel
theorem dX4_face_108 : decode cX4_face 108 = .ok (.aload_n 0, 1) := by decide +kernel
theorem dX4_face_109 : decode cX4_face 109 = .ok (.getfield 25, 3) := by decide +kernel
theorem dX4_face_112 : decode cX4_face 112 = .ok (.iload_n 1, 1) := by decide +kernel
theorem dX4_face_113 : decode cX4_face 113 = .ok (.iaload, 1) := by decide +kernel
theorem dX4_face_114 : decode cX4_face 114 = .ok (.iadd, 1) := by decide +kernel
theorem dX4_face_115 : decode cX4_face 115 = .ok (.istore 6, 2) := by decide +kernel
theorem dX4_face_117 : decode cX4_face 117 = .ok (.aload_n 0, 1) := by decide +kernel
theorem dX4_face_118 : decode cX4_face 118 = .ok (.getfield 28, 3) := by decide +kernel
theorem dX4_face_121 : decode cX4_face 121 = .ok (.iload 6, 2) := by decide +kernel
theorem dX4_face_123 : decode cX4_face 123 = .ok (.iload_n 2, 1) := by decide +kernel
theorem dX4_face_124 : decode cX4_face 124 = .ok (.iastore, 1) := by decide +kernel
theorem dX4_face_125 : decode cX4_face 125 = .ok (.aload_n 0, 1) := by decide +kernel
theorem dX4_face_126 : decode cX4_face 126 = .ok (.getfield 31, 3) := by decide +kernel
theorem dX4_face_129 : decode cX4_face 129 = .ok (.iload 6, 2) := by decide +kernel
theorem dX4_face_131 : decode cX4_face 131 = .ok (.iload_n 3, 1) := by decide +kernel
theorem dX4_face_132 : decode cX4_face 132 = .ok (.iastore, 1) := by decide +kernel
theorem dX4_face_133 : decode cX4_face 133 = .ok (.aload_n 0, 1) := by decide +kernel
theorem dX4_face_134 : decode cX4_face 134 = .ok (.getfield 34, 3) := by decide +kernel
theorem dX4_face_137 : decode cX4_face 137 = .ok (.iload 6, 2) := by decide +kernel
theorem dX4_face_139 : decode cX4_face 139 = .ok (.iload 4, 2) := by decide +kernel
theorem dX4_face_141 : decode cX4_face 141 = .ok (.iastore, 1) := by decide +kernel
theorem dX4_face_142 : decode cX4_face 142 = .ok (.aload_n 0, 1) := by decide +kernel
theorem dX4_face_143 : decode cX4_face 143 = .ok (.getfield 37, 3) := by decide +kernel
theorem dX4_face_146 : decode cX4_face 146 = .ok (.iload 6, 2) := by decide +kernel
theorem dX4_face_148 : decode cX4_face 148 = .ok (.iload 5, 2) := by decide +kernel
theorem dX4_face_150 : decode cX4_face 150 = .ok (.iastore, 1) := by decide +kernel
theorem dX4_face_151 : decode cX4_face 151 = .ok (.aload_n 0, 1) := by decide +kernel
theorem dX4_face_152 : decode cX4_face 152 = .ok (.getfield 25, 3) := by decide +kernel
theorem dX4_face_155 : decode cX4_face 155 = .ok (.iload_n 1, 1) := by decide +kernel
theorem dX4_face_156 : decode cX4_face 156 = .ok (.dup2, 1) := by decide +kernel
theorem dX4_face_157 : decode cX4_face 157 = .ok (.iaload, 1) := by decide +kernel
theorem dX4_face_158 : decode cX4_face 158 = .ok (.iconst 1, 1) := by decide +kernel
theorem dX4_face_159 : decode cX4_face 159 = .ok (.iadd, 1) := by decide +kernel
theorem dX4_face_160 : decode cX4_face 160 = .ok (.iastore, 1) := by decide +kernel
theorem dX4_face_161 : decode cX4_face 161 = .ok (.aload_n 0, 1) := by decide +kernel
theorem dX4_face_162 : decode cX4_face 162 = .ok (.getfield 25, 3) := by decide +kernel
theorem dX4_face_165 : decode cX4_face 165 = .ok (.iload_n 1, 1) := by decide +kernel
theorem dX4_face_166 : decode cX4_face 166 = .ok (.iaload, 1) := by decide +kernel
theorem dX4_face_167 : decode cX4_face 167 = .ok (.ireturn, 1) := by decide +kernel
set_option maxRecDepth 20000 in
theorem ggX4_set_X4_in : GoodIn wsX4_set wsX4_in := goodIn_r _ [9] (by decide +kernel) (by decide +kernel)
set_option maxRecDepth 20000 in
theorem gX4_set_X4_in : GoodIn wsX4_set (va_wsS RX4 77 yX4_in wsX4_in) := goodIn_app (goodIn_of _ (by decide +kernel)) ggX4_set_X4_in
theorem dX4_set_0 : decode cX4_set 0 = .ok (.aload_n 0, 1) := by decide +kernel
theorem dX4_set_1 : decode cX4_set 1 = .ok (.iconst 0, 1) := by decide +kernel
theorem dX4_set_2 : decode cX4_set 2 = .ok (.putfield 71, 3) := by decide +kernel
theorem dX4_set_5 : decode cX4_set 5 = .ok (.iload_n 1, 1) := by decide +kernel
theorem dX4_set_6 : decode cX4_set 6 = .ok (.tableswitch 126 0 3 #[30, 54, 78, 102], 30) := by decide +kernel
theorem dX4_set_36 : decode cX4_set 36 = .ok (.iload_n 2, 1) := by decide +kernel
theorem dX4_set_37 : decode cX4_set 37 = .ok (.iconst 0, 1) := by decide +kernel
theorem dX4_set_38 : decode cX4_set 38 = .ok (.bipush 50, 2) := by decide +kernel
theorem dX4_set_40 : decode cX4_set 40 = .ok (.invokestatic 77, 3) := by decide +kernel
theorem dX4_set_43 : decode cX4_set 43 = .ok (.ifCond .ne 5, 3) := by decide +kernel
theorem dX4_set_46 : decode cX4_set 46 = .ok (.iconst (-1), 1) := by decide +kernel
theorem dX4_set_47 : decode cX4_set 47 = .ok (.ireturn, 1) := by decide +kernel
theorem dX4_set_48 : decode cX4_set 48 = .ok (.aload_n 0, 1) := by decide +kernel
theorem dX4_set_49 : decode cX4_set 49 = .ok (.getfield 40, 3) := by decide +kernel
theorem dX4_set_52 : decode cX4_set 52 = .ok (.istore_n 3, 1) := by decide +kernel
theorem dX4_set_53 : decode cX4_set 53 = .ok (.aload_n 0, 1) := by decide +kernel
theorem dX4_set_54 : decode cX4_set 54 = .ok (.iload_n 2, 1) := by decide +kernel
theorem dX4_set_55 : decode cX4_set 55 = .ok (.putfield 40, 3) := by decide +kernel
theorem dX4_set_58 : decode cX4_set 58 = .ok (.iload_n 3, 1) := by decide +kernel
theorem dX4_set_59 : decode cX4_set 59 = .ok (.ireturn, 1) := by decide +kernel
theorem dX4_set_60 : decode cX4_set 60 = .ok (.iload_n 2, 1) := by decide +kernel
theorem dX4_set_61 : decode cX4_set 61 = .ok (.iconst 0, 1) := by decide +kernel
theorem dX4_set_62 : decode cX4_set 62 = .ok (.bipush 14, 2) := by decide +kernel
theorem dX4_set_64 : decode cX4_set 64 = .ok (.invokestatic 77, 3) := by decide +kernel
theorem dX4_set_67 : decode cX4_set 67 = .ok (.ifCond .ne 5, 3) := by decide +kernel
theorem dX4_set_70 : decode cX4_set 70 = .ok (.iconst (-1), 1) := by decide +kernel
theorem dX4_set_71 : decode cX4_set 71 = .ok (.ireturn, 1) := by decide +kernel
theorem dX4_set_72 : decode cX4_set 72 = .ok (.aload_n 0, 1) := by decide +kernel
theorem dX4_set_73 : decode cX4_set 73 = .ok (.getfield 91, 3) := by decide +kernel
theorem dX4_set_76 : decode cX4_set 76 = .ok (.istore_n 3, 1) := by decide +kernel
theorem dX4_set_77 : decode cX4_set 77 = .ok (.aload_n 0, 1) := by decide +kernel
theorem dX4_set_78 : decode cX4_set 78 = .ok (.iload_n 2, 1) := by decide +kernel
theorem dX4_set_79 : decode cX4_set 79 = .ok (.putfield 91, 3) := by decide +kernel
theorem dX4_set_82 : decode cX4_set 82 = .ok (.iload_n 3, 1) := by decide +kernel
theorem dX4_set_83 : decode cX4_set 83 = .ok (.ireturn, 1) := by decide +kernel
theorem dX4_set_84 : decode cX4_set 84 = .ok (.iload_n 2, 1) := by decide +kernel
theorem dX4_set_85 : decode cX4_set 85 = .ok (.iconst 0, 1) := by decide +kernel
theorem dX4_set_86 : decode cX4_set 86 = .ok (.bipush 14, 2) := by decide +kernel
theorem dX4_set_88 : decode cX4_set 88 = .ok (.invokestatic 77, 3) := by decide +kernel
theorem dX4_set_91 : decode cX4_set 91 = .ok (.ifCond .ne 5, 3) := by decide +kernel
theorem dX4_set_94 : decode cX4_set 94 = .ok (.iconst (-1), 1) := by decide +kernel
theorem dX4_set_95 : decode cX4_set 95 = .ok (.ireturn, 1) := by decide +kernel
theorem dX4_set_96 : decode cX4_set 96 = .ok (.aload_n 0, 1) := by decide +kernel
theorem dX4_set_97 : decode cX4_set 97 = .ok (.getfield 44, 3) := by decide +kernel
theorem dX4_set_100 : decode cX4_set 100 = .ok (.istore_n 3, 1) := by decide +kernel
theorem dX4_set_101 : decode cX4_set 101 = .ok (.aload_n 0, 1) := by decide +kernel
theorem dX4_set_102 : decode cX4_set 102 = .ok (.iload_n 2, 1) := by decide +kernel
theorem dX4_set_103 : decode cX4_set 103 = .ok (.putfield 44, 3) := by decide +kernel
theorem dX4_set_106 : decode cX4_set 106 = .ok (.iload_n 3, 1) := by decide +kernel
theorem dX4_set_107 : decode cX4_set 107 = .ok (.ireturn, 1) := by decide +kernel
theorem dX4_set_108 : decode cX4_set 108 = .ok (.iload_n 2, 1) := by decide +kernel
theorem dX4_set_109 : decode cX4_set 109 = .ok (.iconst 1, 1) := by decide +kernel
theorem dX4_set_110 : decode cX4_set 110 = .ok (.bipush 14, 2) := by decide +kernel
theorem dX4_set_112 : decode cX4_set 112 = .ok (.invokestatic 77, 3) := by decide +kernel
theorem dX4_set_115 : decode cX4_set 115 = .ok (.ifCond .ne 5, 3) := by decide +kernel
theorem dX4_set_118 : decode cX4_set 118 = .ok (.iconst (-1), 1) := by decide +kernel
theorem dX4_set_119 : decode cX4_set 119 = .ok (.ireturn, 1) := by decide +kernel
theorem dX4_set_120 : decode cX4_set 120 = .ok (.aload_n 0, 1) := by decide +kernel
theorem dX4_set_121 : decode cX4_set 121 = .ok (.getfield 47, 3) := by decide +kernel
theorem dX4_set_124 : decode cX4_set 124 = .ok (.istore_n 3, 1) := by decide +kernel
theorem dX4_set_125 : decode cX4_set 125 = .ok (.aload_n 0, 1) := by decide +kernel
theorem dX4_set_126 : decode cX4_set 126 = .ok (.iload_n 2, 1) := by decide +kernel
theorem dX4_set_127 : decode cX4_set 127 = .ok (.putfield 47, 3) := by decide +kernel
theorem dX4_set_130 : decode cX4_set 130 = .ok (.iload_n 3, 1) := by decide +kernel
theorem dX4_set_131 : decode cX4_set 131 = .ok (.ireturn, 1) := by decide +kernel
theorem dX4_set_132 : decode cX4_set 132 = .ok (.iconst (-1), 1) := by decide +kernel
theorem dX4_set_133 : decode cX4_set 133 = .ok (.ireturn, 1) := by decide +kernel
theorem dX4_may_0 : decode cX4_may 0 = .ok (.aload_n 0, 1) := by decide +kernel
theorem dX4_may_1 : decode cX4_may 1 = .ok (.getfield 13, 3) := by decide +kernel
theorem dX4_may_4 : decode cX4_may 4 = .ok (.aload_n 0, 1) := by decide +kernel
theorem dX4_may_5 : decode cX4_may 5 = .ok (.getfield 28, 3) := by decide +kernel
theorem dX4_may_8 : decode cX4_may 8 = .ok (.bipush 8, 2) := by decide +kernel
theorem dX4_may_10 : decode cX4_may 10 = .ok (.iload_n 1, 1) := by decide +kernel
theorem dX4_may_11 : decode cX4_may 11 = .ok (.imul, 1) := by decide +kernel
theorem dX4_may_12 : decode cX4_may 12 = .ok (.iload_n 2, 1) := by decide +kernel
theorem dX4_may_13 : decode cX4_may 13 = .ok (.iadd, 1) := by decide +kernel
theorem dX4_may_14 : decode cX4_may 14 = .ok (.iaload, 1) := by decide +kernel
theorem dX4_may_15 : decode cX4_may 15 = .ok (.iaload, 1) := by decide +kernel
theorem dX4_may_16 : decode cX4_may 16 = .ok (.aload_n 0, 1) := by decide +kernel
theorem dX4_may_17 : decode cX4_may 17 = .ok (.getfield 16, 3) := by decide +kernel
theorem dX4_may_20 : decode cX4_may 20 = .ok (.iload_n 1, 1) := by decide +kernel
theorem dX4_may_21 : decode cX4_may 21 = .ok (.iaload, 1) := by decide +kernel
theorem dX4_may_22 : decode cX4_may 22 = .ok (.ishr, 1) := by decide +kernel
theorem dX4_may_23 : decode cX4_may 23 = .ok (.iconst 1, 1) := by decide +kernel
theorem dX4_may_24 : decode cX4_may 24 = .ok (.iand, 1) := by decide +kernel
theorem dX4_may_25 : decode cX4_may 25 = .ok (.iconst 1, 1) := by decide +kernel
theorem dX4_may_26 : decode cX4_may 26 = .ok (.if_icmp .ne 7, 3) := by decide +kernel
theorem dX4_may_29 : decode cX4_may 29 = .ok (.iconst 1, 1) := by decide +kernel
theorem dX4_may_30 : decode cX4_may 30 = .ok (.goto 4, 3) := by decide +kernel
theorem dX4_may_33 : decode cX4_may 33 = .ok (.iconst 0, 1) := by decide +kernel
theorem dX4_may_34 : decode cX4_may 34 = .ok (.ireturn, 1) := by decide +kernel
set_option maxRecDepth 20000 in
theorem ggX4_cutOf_X4_may : GoodIn wsX4_cutOf wsX4_may := goodIn_r _ [10, 11, 12, 13, 14, 15, 16, 17, 18, 19, 20, 21, 22, 23, 24, 25, 26, 27, 28, 29, 30, 31, 32, 33, 34, 35, 36, 37, 38, 39, 40] (by decide +kernel) (by decide +kernel)
set_option maxRecDepth 20000 in
theorem gX4_cutOf_X4_may : GoodIn wsX4_cutOf (wsV RX4 94 RX4 yX4_may wsX4_may) := goodIn_app (goodIn_of _ (by decide +kernel)) ggX4_cutOf_X4_may
theorem dX4_cutOf_0 : decode cX4_cutOf 0 = .ok (.iconst 0, 1) := by decide +kernel
theorem dX4_cutOf_1 : decode cX4_cutOf 1 = .ok (.istore_n 2, 1) := by decide +kernel
theorem dX4_cutOf_2 : decode cX4_cutOf 2 = .ok (.iconst 0, 1) := by decide +kernel
theorem dX4_cutOf_3 : decode cX4_cutOf 3 = .ok (.istore_n 3, 1) := by decide +kernel
theorem dX4_cutOf_4 : decode cX4_cutOf 4 = .ok (.iload_n 3, 1) := by decide +kernel
theorem dX4_cutOf_5 : decode cX4_cutOf 5 = .ok (.aload_n 0, 1) := by decide +kernel
theorem dX4_cutOf_6 : decode cX4_cutOf 6 = .ok (.getfield 25, 3) := by decide +kernel
theorem dX4_cutOf_9 : decode cX4_cutOf 9 = .ok (.iload_n 1, 1) := by decide +kernel
theorem dX4_cutOf_10 : decode cX4_cutOf 10 = .ok (.iaload, 1) := by decide +kernel
theorem dX4_cutOf_11 : decode cX4_cutOf 11 = .ok (.if_icmp .ge 227, 3) := by decide +kernel
theorem dX4_cutOf_14 : decode cX4_cutOf 14 = .ok (.aload_n 0, 1) := by decide +kernel
theorem dX4_cutOf_15 : decode cX4_cutOf 15 = .ok (.iload_n 1, 1) := by decide +kernel
theorem dX4_cutOf_16 : decode cX4_cutOf 16 = .ok (.iload_n 3, 1) := by decide +kernel
theorem dX4_cutOf_17 : decode cX4_cutOf 17 = .ok (.invokevirtual 94, 3) := by decide +kernel
theorem dX4_cutOf_20 : decode cX4_cutOf 20 = .ok (.ifCond .ne 6, 3) := by decide +kernel
theorem dX4_cutOf_23 : decode cX4_cutOf 23 = .ok (.goto 209, 3) := by decide +kernel
theorem dX4_cutOf_26 : decode cX4_cutOf 26 = .ok (.bipush 8, 2) := by decide +kernel
theorem dX4_cutOf_28 : decode cX4_cutOf 28 = .ok (.iload_n 1, 1) := by decide +kernel
theorem dX4_cutOf_29 : decode cX4_cutOf 29 = .ok (.imul, 1) := by decide +kernel
theorem dX4_cutOf_30 : decode cX4_cutOf 30 = .ok (.iload_n 3, 1) := by decide +kernel
theorem dX4_cutOf_31 : decode cX4_cutOf 31 = .ok (.iadd, 1) := by decide +kernel
theorem dX4_cutOf_32 : decode cX4_cutOf 32 = .ok (.istore 4, 2) := by decide +kernel
theorem dX4_cutOf_34 : decode cX4_cutOf 34 = .ok (.aload_n 0, 1) := by decide +kernel
theorem dX4_cutOf_35 : decode cX4_cutOf 35 = .ok (.getfield 31, 3) := by decide +kernel
theorem dX4_cutOf_38 : decode cX4_cutOf 38 = .ok (.iload 4, 2) := by decide +kernel
theorem dX4_cutOf_40 : decode cX4_cutOf 40 = .ok (.iaload, 1) := by decide +kernel
theorem dX4_cutOf_41 : decode cX4_cutOf 41 = .ok (.aload_n 0, 1) := by decide +kernel
theorem dX4_cutOf_42 : decode cX4_cutOf 42 = .ok (.getfield 37, 3) := by decide +kernel
theorem dX4_cutOf_45 : decode cX4_cutOf 45 = .ok (.iload 4, 2) := by decide +kernel
theorem dX4_cutOf_47 : decode cX4_cutOf 47 = .ok (.iaload, 1) := by decide +kernel
theorem dX4_cutOf_48 : decode cX4_cutOf 48 = .ok (.isub, 1) := by decide +kernel
theorem dX4_cutOf_49 : decode cX4_cutOf 49 = .ok (.istore 5, 2) := by decide +kernel
theorem dX4_cutOf_51 : decode cX4_cutOf 51 = .ok (.aload_n 0, 1) := by decide +kernel
theorem dX4_cutOf_52 : decode cX4_cutOf 52 = .ok (.getfield 34, 3) := by decide +kernel
theorem dX4_cutOf_55 : decode cX4_cutOf 55 = .ok (.iload 4, 2) := by decide +kernel
theorem dX4_cutOf_57 : decode cX4_cutOf 57 = .ok (.iaload, 1) := by decide +kernel
theorem dX4_cutOf_58 : decode cX4_cutOf 58 = .ok (.aload_n 0, 1) := by decide +kernel
theorem dX4_cutOf_59 : decode cX4_cutOf 59 = .ok (.getfield 37, 3) := by decide +kernel
theorem dX4_cutOf_62 : decode cX4_cutOf 62 = .ok (.iload 4, 2) := by decide +kernel
theorem dX4_cutOf_64 : decode cX4_cutOf 64 = .ok (.iaload, 1) := by decide +kernel
theorem dX4_cutOf_65 : decode cX4_cutOf 65 = .ok (.isub, 1) := by decide +kernel
theorem dX4_cutOf_66 : decode cX4_cutOf 66 = .ok (.istore 6, 2) := by decide +kernel
theorem dX4_cutOf_68 : decode cX4_cutOf 68 = .ok (.aload_n 0, 1) := by decide +kernel
theorem dX4_cutOf_69 : decode cX4_cutOf 69 = .ok (.getfield 31, 3) := by decide +kernel
theorem dX4_cutOf_72 : decode cX4_cutOf 72 = .ok (.iload 4, 2) := by decide +kernel
theorem dX4_cutOf_74 : decode cX4_cutOf 74 = .ok (.iaload, 1) := by decide +kernel
theorem dX4_cutOf_75 : decode cX4_cutOf 75 = .ok (.aload_n 0, 1) := by decide +kernel
theorem dX4_cutOf_76 : decode cX4_cutOf 76 = .ok (.getfield 37, 3) := by decide +kernel
theorem dX4_cutOf_79 : decode cX4_cutOf 79 = .ok (.iload 4, 2) := by decide +kernel
theorem dX4_cutOf_81 : decode cX4_cutOf 81 = .ok (.iaload, 1) := by decide +kernel
theorem dX4_cutOf_82 : decode cX4_cutOf 82 = .ok (.iadd, 1) := by decide +kernel
theorem dX4_cutOf_83 : decode cX4_cutOf 83 = .ok (.istore 7, 2) := by decide +kernel
theorem dX4_cutOf_85 : decode cX4_cutOf 85 = .ok (.aload_n 0, 1) := by decide +kernel
theorem dX4_cutOf_86 : decode cX4_cutOf 86 = .ok (.getfield 34, 3) := by decide +kernel
theorem dX4_cutOf_89 : decode cX4_cutOf 89 = .ok (.iload 4, 2) := by decide +kernel
theorem dX4_cutOf_91 : decode cX4_cutOf 91 = .ok (.iaload, 1) := by decide +kernel
theorem dX4_cutOf_92 : decode cX4_cutOf 92 = .ok (.aload_n 0, 1) := by decide +kernel
theorem dX4_cutOf_93 : decode cX4_cutOf 93 = .ok (.getfield 37, 3) := by decide +kernel
theorem dX4_cutOf_96 : decode cX4_cutOf 96 = .ok (.iload 4, 2) := by decide +kernel
theorem dX4_cutOf_98 : decode cX4_cutOf 98 = .ok (.iaload, 1) := by decide +kernel
theorem dX4_cutOf_99 : decode cX4_cutOf 99 = .ok (.iadd, 1) := by decide +kernel
theorem dX4_cutOf_100 : decode cX4_cutOf 100 = .ok (.istore 8, 2) := by decide +kernel
theorem dX4_cutOf_102 : decode cX4_cutOf 102 = .ok (.aload_n 0, 1) := by decide +kernel
theorem dX4_cutOf_103 : decode cX4_cutOf 103 = .ok (.getfield 53, 3) := by decide +kernel
theorem dX4_cutOf_106 : decode cX4_cutOf 106 = .ok (.iconst 0, 1) := by decide +kernel
theorem dX4_cutOf_107 : decode cX4_cutOf 107 = .ok (.iload_n 2, 1) := by decide +kernel
theorem dX4_cutOf_108 : decode cX4_cutOf 108 = .ok (.ifCond .eq 14, 3) := by decide +kernel
theorem dX4_cutOf_111 : decode cX4_cutOf 111 = .ok (.iload 5, 2) := by decide +kernel
theorem dX4_cutOf_113 : decode cX4_cutOf 113 = .ok (.aload_n 0, 1) := by decide +kernel
theorem dX4_cutOf_114 : decode cX4_cutOf 114 = .ok (.getfield 53, 3) := by decide +kernel
theorem dX4_cutOf_117 : decode cX4_cutOf 117 = .ok (.iconst 0, 1) := by decide +kernel
theorem dX4_cutOf_118 : decode cX4_cutOf 118 = .ok (.iaload, 1) := by decide +kernel
theorem dX4_cutOf_119 : decode cX4_cutOf 119 = .ok (.if_icmp .ge 8, 3) := by decide +kernel
theorem dX4_cutOf_122 : decode cX4_cutOf 122 = .ok (.iload 5, 2) := by decide +kernel
theorem dX4_cutOf_124 : decode cX4_cutOf 124 = .ok (.goto 9, 3) := by decide +kernel
theorem dX4_cutOf_127 : decode cX4_cutOf 127 = .ok (.aload_n 0, 1) := by decide +kernel
theorem dX4_cutOf_128 : decode cX4_cutOf 128 = .ok (.getfield 53, 3) := by decide +kernel
theorem dX4_cutOf_131 : decode cX4_cutOf 131 = .ok (.iconst 0, 1) := by decide +kernel
theorem dX4_cutOf_132 : decode cX4_cutOf 132 = .ok (.iaload, 1) := by decide +kernel
theorem dX4_cutOf_133 : decode cX4_cutOf 133 = .ok (.iastore, 1) := by decide +kernel
theorem dX4_cutOf_134 : decode cX4_cutOf 134 = .ok (.aload_n 0, 1) := by decide +kernel
theorem dX4_cutOf_135 : decode cX4_cutOf 135 = .ok (.getfield 53, 3) := by decide +kernel
theorem dX4_cutOf_138 : decode cX4_cutOf 138 = .ok (.iconst 1, 1) := by decide +kernel
theorem dX4_cutOf_139 : decode cX4_cutOf 139 = .ok (.iload_n 2, 1) := by decide +kernel
theorem dX4_cutOf_140 : decode cX4_cutOf 140 = .ok (.ifCond .eq 14, 3) := by decide +kernel
theorem dX4_cutOf_143 : decode cX4_cutOf 143 = .ok (.iload 6, 2) := by decide +kernel
theorem dX4_cutOf_145 : decode cX4_cutOf 145 = .ok (.aload_n 0, 1) := by decide +kernel
theorem dX4_cutOf_146 : decode cX4_cutOf 146 = .ok (.getfield 53, 3) := by decide +kernel
theorem dX4_cutOf_149 : decode cX4_cutOf 149 = .ok (.iconst 1, 1) := by decide +kernel
theorem dX4_cutOf_150 : decode cX4_cutOf 150 = .ok (.iaload, 1) := by decide +kernel
theorem dX4_cutOf_151 : decode cX4_cutOf 151 = .ok (.if_icmp .ge 8, 3) := by decide +kernel
theorem dX4_cutOf_154 : decode cX4_cutOf 154 = .ok (.iload 6, 2) := by decide +kernel
theorem dX4_cutOf_156 : decode cX4_cutOf 156 = .ok (.goto 9, 3) := by decide +kernel
theorem dX4_cutOf_159 : decode cX4_cutOf 159 = .ok (.aload_n 0, 1) := by decide +kernel
theorem dX4_cutOf_160 : decode cX4_cutOf 160 = .ok (.getfield 53, 3) := by decide +kernel
theorem dX4_cutOf_163 : decode cX4_cutOf 163 = .ok (.iconst 1, 1) := by decide +kernel
theorem dX4_cutOf_164 : decode cX4_cutOf 164 = .ok (.iaload, 1) := by decide +kernel
theorem dX4_cutOf_165 : decode cX4_cutOf 165 = .ok (.iastore, 1) := by decide +kernel
theorem dX4_cutOf_166 : decode cX4_cutOf 166 = .ok (.aload_n 0, 1) := by decide +kernel
theorem dX4_cutOf_167 : decode cX4_cutOf 167 = .ok (.getfield 53, 3) := by decide +kernel
theorem dX4_cutOf_170 : decode cX4_cutOf 170 = .ok (.iconst 2, 1) := by decide +kernel
theorem dX4_cutOf_171 : decode cX4_cutOf 171 = .ok (.iload_n 2, 1) := by decide +kernel
theorem dX4_cutOf_172 : decode cX4_cutOf 172 = .ok (.ifCond .eq 14, 3) := by decide +kernel
theorem dX4_cutOf_175 : decode cX4_cutOf 175 = .ok (.iload 7, 2) := by decide +kernel
theorem dX4_cutOf_177 : decode cX4_cutOf 177 = .ok (.aload_n 0, 1) := by decide +kernel
theorem dX4_cutOf_178 : decode cX4_cutOf 178 = .ok (.getfield 53, 3) := by decide +kernel
theorem dX4_cutOf_181 : decode cX4_cutOf 181 = .ok (.iconst 2, 1) := by decide +kernel
theorem dX4_cutOf_182 : decode cX4_cutOf 182 = .ok (.iaload, 1) := by decide +kernel
theorem dX4_cutOf_183 : decode cX4_cutOf 183 = .ok (.if_icmp .le 8, 3) := by decide +kernel
theorem dX4_cutOf_186 : decode cX4_cutOf 186 = .ok (.iload 7, 2) := by decide +kernel
theorem dX4_cutOf_188 : decode cX4_cutOf 188 = .ok (.goto 9, 3) := by decide +kernel
theorem dX4_cutOf_191 : decode cX4_cutOf 191 = .ok (.aload_n 0, 1) := by decide +kernel
theorem dX4_cutOf_192 : decode cX4_cutOf 192 = .ok (.getfield 53, 3) := by decide +kernel
theorem dX4_cutOf_195 : decode cX4_cutOf 195 = .ok (.iconst 2, 1) := by decide +kernel
theorem dX4_cutOf_196 : decode cX4_cutOf 196 = .ok (.iaload, 1) := by decide +kernel
theorem dX4_cutOf_197 : decode cX4_cutOf 197 = .ok (.iastore, 1) := by decide +kernel
theorem dX4_cutOf_198 : decode cX4_cutOf 198 = .ok (.aload_n 0, 1) := by decide +kernel
theorem dX4_cutOf_199 : decode cX4_cutOf 199 = .ok (.getfield 53, 3) := by decide +kernel
theorem dX4_cutOf_202 : decode cX4_cutOf 202 = .ok (.iconst 3, 1) := by decide +kernel
theorem dX4_cutOf_203 : decode cX4_cutOf 203 = .ok (.iload_n 2, 1) := by decide +kernel
theorem dX4_cutOf_204 : decode cX4_cutOf 204 = .ok (.ifCond .eq 14, 3) := by decide +kernel
theorem dX4_cutOf_207 : decode cX4_cutOf 207 = .ok (.iload 8, 2) := by decide +kernel
theorem dX4_cutOf_209 : decode cX4_cutOf 209 = .ok (.aload_n 0, 1) := by decide +kernel
theorem dX4_cutOf_210 : decode cX4_cutOf 210 = .ok (.getfield 53, 3) := by decide +kernel
theorem dX4_cutOf_213 : decode cX4_cutOf 213 = .ok (.iconst 3, 1) := by decide +kernel
theorem dX4_cutOf_214 : decode cX4_cutOf 214 = .ok (.iaload, 1) := by decide +kernel
theorem dX4_cutOf_215 : decode cX4_cutOf 215 = .ok (.if_icmp .le 8, 3) := by decide +kernel
theorem dX4_cutOf_218 : decode cX4_cutOf 218 = .ok (.iload 8, 2) := by decide +kernel
theorem dX4_cutOf_220 : decode cX4_cutOf 220 = .ok (.goto 9, 3) := by decide +kernel
theorem dX4_cutOf_223 : decode cX4_cutOf 223 = .ok (.aload_n 0, 1) := by decide +kernel
theorem dX4_cutOf_224 : decode cX4_cutOf 224 = .ok (.getfield 53, 3) := by decide +kernel
theorem dX4_cutOf_227 : decode cX4_cutOf 227 = .ok (.iconst 3, 1) := by decide +kernel
theorem dX4_cutOf_228 : decode cX4_cutOf 228 = .ok (.iaload, 1) := by decide +kernel
theorem dX4_cutOf_229 : decode cX4_cutOf 229 = .ok (.iastore, 1) := by decide +kernel
theorem dX4_cutOf_230 : decode cX4_cutOf 230 = .ok (.iconst 1, 1) := by decide +kernel
theorem dX4_cutOf_231 : decode cX4_cutOf 231 = .ok (.istore_n 2, 1) := by decide +kernel
theorem dX4_cutOf_232 : decode cX4_cutOf 232 = .ok (.iinc 3 1, 3) := by decide +kernel
theorem dX4_cutOf_235 : decode cX4_cutOf 235 = .ok (.goto (-231), 3) := by decide +kernel
theorem dX4_cutOf_238 : decode cX4_cutOf 238 = .ok (.iload_n 2, 1) := by decide +kernel
theorem dX4_cutOf_239 : decode cX4_cutOf 239 = .ok (.ireturn, 1) := by decide +kernel
set_option maxRecDepth 20000 in
theorem ggX4_isGood_X4_cutOf : GoodIn wsX4_isGood wsX4_cutOf := goodIn_r _ [10, 1, 2, 3, 5, 4, 11, 12, 13, 9, 14, 15, 16, 17, 18, 19, 20, 21, 22, 23, 24, 25, 26, 27, 28, 29, 30, 31, 32, 33, 34, 35, 36, 37, 38, 39, 40, 41, 42, 43, 44] (by decide +kernel) (by decide +kernel)
set_option maxRecDepth 20000 in
theorem gX4_isGood_X4_cutOf : GoodIn wsX4_isGood (wsV RX4 98 RX4 yX4_cutOf wsX4_cutOf) := goodIn_app (goodIn_of _ (by decide +kernel)) ggX4_isGood_X4_cutOf
set_option maxRecDepth 20000 in
theorem ggX4_isGood_X4_may : GoodIn wsX4_isGood wsX4_may := goodIn_r _ [14, 15, 16, 17, 18, 19, 20, 21, 22, 23, 24, 25, 26, 27, 28, 29, 30, 31, 32, 33, 34, 35, 36, 37, 38, 39, 40, 41, 42, 43, 44] (by decide +kernel) (by decide +kernel)
set_option maxRecDepth 20000 in
theorem gX4_isGood_X4_may : GoodIn wsX4_isGood (wsV RX4 94 RX4 yX4_may wsX4_may) := goodIn_app (goodIn_of _ (by decide +kernel)) ggX4_isGood_X4_may
theorem dX4_isGood_0 : decode cX4_isGood 0 = .ok (.aload_n 0, 1) := by decide +kernel
theorem dX4_isGood_1 : decode cX4_isGood 1 = .ok (.iload_n 1, 1) := by decide +kernel
theorem dX4_isGood_2 : decode cX4_isGood 2 = .ok (.invokevirtual 98, 3) := by decide +kernel
theorem dX4_isGood_5 : decode cX4_isGood 5 = .ok (.ifCond .ne 5, 3) := by decide +kernel
theorem dX4_isGood_8 : decode cX4_isGood 8 = .ok (.iconst 0, 1) := by decide +kernel
theorem dX4_isGood_9 : decode cX4_isGood 9 = .ok (.ireturn, 1) := by decide +kernel
theorem dX4_isGood_10 : decode cX4_isGood 10 = .ok (.iconst 0, 1) := by decide +kernel
theorem dX4_isGood_11 : decode cX4_isGood 11 = .ok (.istore_n 2, 1) := by decide +kernel
theorem dX4_isGood_12 : decode cX4_isGood 12 = .ok (.iload_n 2, 1) := by decide +kernel
theorem dX4_isGood_13 : decode cX4_isGood 13 = .ok (.aload_n 0, 1) := by decide +kernel
theorem dX4_isGood_14 : decode cX4_isGood 14 = .ok (.getfield 25, 3) := by decide +kernel
theorem dX4_isGood_17 : decode cX4_isGood 17 = .ok (.iload_n 1, 1) := by decide +kernel
theorem dX4_isGood_18 : decode cX4_isGood 18 = .ok (.iaload, 1) := by decide +kernel
theorem dX4_isGood_19 : decode cX4_isGood 19 = .ok (.if_icmp .ge 127, 3) := by decide +kernel
theorem dX4_isGood_22 : decode cX4_isGood 22 = .ok (.bipush 8, 2) := by decide +kernel
theorem dX4_isGood_24 : decode cX4_isGood 24 = .ok (.iload_n 1, 1) := by decide +kernel
theorem dX4_isGood_25 : decode cX4_isGood 25 = .ok (.imul, 1) := by decide +kernel
theorem dX4_isGood_26 : decode cX4_isGood 26 = .ok (.iload_n 2, 1) := by decide +kernel
theorem dX4_isGood_27 : decode cX4_isGood 27 = .ok (.iadd, 1) := by decide +kernel
theorem dX4_isGood_28 : decode cX4_isGood 28 = .ok (.istore_n 3, 1) := by decide +kernel
theorem dX4_isGood_29 : decode cX4_isGood 29 = .ok (.aload_n 0, 1) := by decide +kernel
theorem dX4_isGood_30 : decode cX4_isGood 30 = .ok (.getfield 31, 3) := by decide +kernel
theorem dX4_isGood_33 : decode cX4_isGood 33 = .ok (.iload_n 3, 1) := by decide +kernel
theorem dX4_isGood_34 : decode cX4_isGood 34 = .ok (.iaload, 1) := by decide +kernel
theorem dX4_isGood_35 : decode cX4_isGood 35 = .ok (.aload_n 0, 1) := by decide +kernel
theorem dX4_isGood_36 : decode cX4_isGood 36 = .ok (.getfield 37, 3) := by decide +kernel
theorem dX4_isGood_39 : decode cX4_isGood 39 = .ok (.iload_n 3, 1) := by decide +kernel
theorem dX4_isGood_40 : decode cX4_isGood 40 = .ok (.iaload, 1) := by decide +kernel
theorem dX4_isGood_41 : decode cX4_isGood 41 = .ok (.iadd, 1) := by decide +kernel
theorem dX4_isGood_42 : decode cX4_isGood 42 = .ok (.aload_n 0, 1) := by decide +kernel
theorem dX4_isGood_43 : decode cX4_isGood 43 = .ok (.getfield 53, 3) := by decide +kernel
theorem dX4_isGood_46 : decode cX4_isGood 46 = .ok (.iconst 0, 1) := by decide +kernel
theorem dX4_isGood_47 : decode cX4_isGood 47 = .ok (.iaload, 1) := by decide +kernel
theorem dX4_isGood_48 : decode cX4_isGood 48 = .ok (.if_icmp .lt 69, 3) := by decide +kernel
theorem dX4_isGood_51 : decode cX4_isGood 51 = .ok (.aload_n 0, 1) := by decide +kernel
theorem dX4_isGood_52 : decode cX4_isGood 52 = .ok (.getfield 31, 3) := by decide +kernel
theorem dX4_isGood_55 : decode cX4_isGood 55 = .ok (.iload_n 3, 1) := by decide +kernel
theorem dX4_isGood_56 : decode cX4_isGood 56 = .ok (.iaload, 1) := by decide +kernel
theorem dX4_isGood_57 : decode cX4_isGood 57 = .ok (.aload_n 0, 1) := by decide +kernel
theorem dX4_isGood_58 : decode cX4_isGood 58 = .ok (.getfield 37, 3) := by decide +kernel
theorem dX4_isGood_61 : decode cX4_isGood 61 = .ok (.iload_n 3, 1) := by decide +kernel
theorem dX4_isGood_62 : decode cX4_isGood 62 = .ok (.iaload, 1) := by decide +kernel
theorem dX4_isGood_63 : decode cX4_isGood 63 = .ok (.isub, 1) := by decide +kernel
theorem dX4_isGood_64 : decode cX4_isGood 64 = .ok (.aload_n 0, 1) := by decide +kernel
theorem dX4_isGood_65 : decode cX4_isGood 65 = .ok (.getfield 53, 3) := by decide +kernel
theorem dX4_isGood_68 : decode cX4_isGood 68 = .ok (.iconst 2, 1) := by decide +kernel
theorem dX4_isGood_69 : decode cX4_isGood 69 = .ok (.iaload, 1) := by decide +kernel
theorem dX4_isGood_70 : decode cX4_isGood 70 = .ok (.if_icmp .gt 47, 3) := by decide +kernel
theorem dX4_isGood_73 : decode cX4_isGood 73 = .ok (.aload_n 0, 1) := by decide +kernel
theorem dX4_isGood_74 : decode cX4_isGood 74 = .ok (.getfield 34, 3) := by decide +kernel
theorem dX4_isGood_77 : decode cX4_isGood 77 = .ok (.iload_n 3, 1) := by decide +kernel
theorem dX4_isGood_78 : decode cX4_isGood 78 = .ok (.iaload, 1) := by decide +kernel
theorem dX4_isGood_79 : decode cX4_isGood 79 = .ok (.aload_n 0, 1) := by decide +kernel
theorem dX4_isGood_80 : decode cX4_isGood 80 = .ok (.getfield 37, 3) := by decide +kernel
theorem dX4_isGood_83 : decode cX4_isGood 83 = .ok (.iload_n 3, 1) := by decide +kernel
theorem dX4_isGood_84 : decode cX4_isGood 84 = .ok (.iaload, 1) := by decide +kernel
theorem dX4_isGood_85 : decode cX4_isGood 85 = .ok (.iadd, 1) := by decide +kernel
theorem dX4_isGood_86 : decode cX4_isGood 86 = .ok (.aload_n 0, 1) := by decide +kernel
theorem dX4_isGood_87 : decode cX4_isGood 87 = .ok (.getfield 53, 3) := by decide +kernel
theorem dX4_isGood_90 : decode cX4_isGood 90 = .ok (.iconst 1, 1) := by decide +kernel
theorem dX4_isGood_91 : decode cX4_isGood 91 = .ok (.iaload, 1) := by decide +kernel
theorem dX4_isGood_92 : decode cX4_isGood 92 = .ok (.if_icmp .lt 25, 3) := by decide +kernel
theorem dX4_isGood_95 : decode cX4_isGood 95 = .ok (.aload_n 0, 1) := by decide +kernel
theorem dX4_isGood_96 : decode cX4_isGood 96 = .ok (.getfield 34, 3) := by decide +kernel
theorem dX4_isGood_99 : decode cX4_isGood 99 = .ok (.iload_n 3, 1) := by decide +kernel
theorem dX4_isGood_100 : decode cX4_isGood 100 = .ok (.iaload, 1) := by decide +kernel
theorem dX4_isGood_101 : decode cX4_isGood 101 = .ok (.aload_n 0, 1) := by decide +kernel
theorem dX4_isGood_102 : decode cX4_isGood 102 = .ok (.getfield 37, 3) := by decide +kernel
theorem dX4_isGood_105 : decode cX4_isGood 105 = .ok (.iload_n 3, 1) := by decide +kernel
theorem dX4_isGood_106 : decode cX4_isGood 106 = .ok (.iaload, 1) := by decide +kernel
theorem dX4_isGood_107 : decode cX4_isGood 107 = .ok (.isub, 1) := by decide +kernel
theorem dX4_isGood_108 : decode cX4_isGood 108 = .ok (.aload_n 0, 1) := by decide +kernel
theorem dX4_isGood_109 : decode cX4_isGood 109 = .ok (.getfield 53, 3) := by decide +kernel
theorem dX4_isGood_112 : decode cX4_isGood 112 = .ok (.iconst 3, 1) := by decide +kernel
theorem dX4_isGood_113 : decode cX4_isGood 113 = .ok (.iaload, 1) := by decide +kernel
theorem dX4_isGood_114 : decode cX4_isGood 114 = .ok (.if_icmp .le 7, 3) := by decide +kernel
theorem dX4_isGood_117 : decode cX4_isGood 117 = .ok (.iconst 1, 1) := by decide +kernel
theorem dX4_isGood_118 : decode cX4_isGood 118 = .ok (.goto 4, 3) := by decide +kernel
theorem dX4_isGood_121 : decode cX4_isGood 121 = .ok (.iconst 0, 1) := by decide +kernel
theorem dX4_isGood_122 : decode cX4_isGood 122 = .ok (.istore 4, 2) := by decide +kernel
theorem dX4_isGood_124 : decode cX4_isGood 124 = .ok (.aload_n 0, 1) := by decide +kernel
theorem dX4_isGood_125 : decode cX4_isGood 125 = .ok (.iload_n 1, 1) := by decide +kernel
theorem dX4_isGood_126 : decode cX4_isGood 126 = .ok (.iload_n 2, 1) := by decide +kernel
theorem dX4_isGood_127 : decode cX4_isGood 127 = .ok (.invokevirtual 94, 3) := by decide +kernel
theorem dX4_isGood_130 : decode cX4_isGood 130 = .ok (.ifCond .ne 10, 3) := by decide +kernel
theorem dX4_isGood_133 : decode cX4_isGood 133 = .ok (.iload 4, 2) := by decide +kernel
theorem dX4_isGood_135 : decode cX4_isGood 135 = .ok (.ifCond .ne 5, 3) := by decide +kernel
theorem dX4_isGood_138 : decode cX4_isGood 138 = .ok (.iconst 0, 1) := by decide +kernel
theorem dX4_isGood_139 : decode cX4_isGood 139 = .ok (.ireturn, 1) := by decide +kernel
theorem dX4_isGood_140 : decode cX4_isGood 140 = .ok (.iinc 2 1, 3) := by decide +kernel
theorem dX4_isGood_143 : decode cX4_isGood 143 = .ok (.goto (-131), 3) := by decide +kernel
theorem dX4_isGood_146 : decode cX4_isGood 146 = .ok (.iconst 1, 1) := by decide +kernel
theorem dX4_isGood_147 : decode cX4_isGood 147 = .ok (.ireturn, 1) := by decide +kernel
set_option maxRecDepth 20000 in
theorem ggX4_seenIn_X4_isGood : GoodIn wsX4_seenIn wsX4_isGood := goodIn_r _ [7, 1, 8, 9, 10, 11, 12, 13, 14, 6, 15, 16, 17, 18, 19, 20, 2, 21, 22, 23, 24, 25, 26, 27, 28, 29, 30, 31, 32, 33, 34, 35, 36, 37, 38, 39, 40, 41, 42, 43, 44, 45, 46, 47, 48] (by decide +kernel) (by decide +kernel)
set_option maxRecDepth 20000 in
theorem gX4_seenIn_X4_isGood : GoodIn wsX4_seenIn (wsV RX4 101 RX4 yX4_isGood wsX4_isGood) := goodIn_app (goodIn_of _ (by decide +kernel)) ggX4_seenIn_X4_isGood
set_option maxRecDepth 20000 in
theorem ggX4_seenIn_X4_may : GoodIn wsX4_seenIn wsX4_may := goodIn_r _ [19, 20, 2, 21, 22, 23, 24, 25, 26, 27, 28, 29, 30, 31, 32, 33, 34, 35, 36, 37, 38, 39, 40, 41, 42, 43, 44, 45, 46, 47, 48] (by decide +kernel) (by decide +kernel)
set_option maxRecDepth 20000 in
theorem gX4_seenIn_X4_may : GoodIn wsX4_seenIn (wsV RX4 94 RX4 yX4_may wsX4_may) := goodIn_app (goodIn_of _ (by decide +kernel)) ggX4_seenIn_X4_may
theorem dX4_seenIn_0 : decode cX4_seenIn 0 = .ok (.aload_n 0, 1) := by decide +kernel
theorem dX4_seenIn_1 : decode cX4_seenIn 1 = .ok (.iload_n 1, 1) := by decide +kernel
theorem dX4_seenIn_2 : decode cX4_seenIn 2 = .ok (.invokevirtual 101, 3) := by decide +kernel
theorem dX4_seenIn_5 : decode cX4_seenIn 5 = .ok (.ifCond .ne 5, 3) := by decide +kernel
theorem dX4_seenIn_8 : decode cX4_seenIn 8 = .ok (.iconst 0, 1) := by decide +kernel
theorem dX4_seenIn_9 : decode cX4_seenIn 9 = .ok (.ireturn, 1) := by decide +kernel
theorem dX4_seenIn_10 : decode cX4_seenIn 10 = .ok (.iconst 0, 1) := by decide +kernel
theorem dX4_seenIn_11 : decode cX4_seenIn 11 = .ok (.istore_n 2, 1) := by decide +kernel
theorem dX4_seenIn_12 : decode cX4_seenIn 12 = .ok (.iconst 0, 1) := by decide +kernel
theorem dX4_seenIn_13 : decode cX4_seenIn 13 = .ok (.istore_n 3, 1) := by decide +kernel
theorem dX4_seenIn_14 : decode cX4_seenIn 14 = .ok (.iload_n 3, 1) := by decide +kernel
theorem dX4_seenIn_15 : decode cX4_seenIn 15 = .ok (.aload_n 0, 1) := by decide +kernel
theorem dX4_seenIn_16 : decode cX4_seenIn 16 = .ok (.getfield 25, 3) := by decide +kernel
theorem dX4_seenIn_19 : decode cX4_seenIn 19 = .ok (.iload_n 1, 1) := by decide +kernel
theorem dX4_seenIn_20 : decode cX4_seenIn 20 = .ok (.iaload, 1) := by decide +kernel
theorem dX4_seenIn_21 : decode cX4_seenIn 21 = .ok (.if_icmp .ge 34, 3) := by decide +kernel
theorem dX4_seenIn_24 : decode cX4_seenIn 24 = .ok (.aload_n 0, 1) := by decide +kernel
theorem dX4_seenIn_25 : decode cX4_seenIn 25 = .ok (.iload_n 1, 1) := by decide +kernel
theorem dX4_seenIn_26 : decode cX4_seenIn 26 = .ok (.iload_n 3, 1) := by decide +kernel
theorem dX4_seenIn_27 : decode cX4_seenIn 27 = .ok (.invokevirtual 94, 3) := by decide +kernel
theorem dX4_seenIn_30 : decode cX4_seenIn 30 = .ok (.ifCond .eq 19, 3) := by decide +kernel
theorem dX4_seenIn_33 : decode cX4_seenIn 33 = .ok (.iload_n 2, 1) := by decide +kernel
theorem dX4_seenIn_34 : decode cX4_seenIn 34 = .ok (.iconst 1, 1) := by decide +kernel
theorem dX4_seenIn_35 : decode cX4_seenIn 35 = .ok (.aload_n 0, 1) := by decide +kernel
theorem dX4_seenIn_36 : decode cX4_seenIn 36 = .ok (.getfield 28, 3) := by decide +kernel
theorem dX4_seenIn_39 : decode cX4_seenIn 39 = .ok (.bipush 8, 2) := by decide +kernel
theorem dX4_seenIn_41 : decode cX4_seenIn 41 = .ok (.iload_n 1, 1) := by decide +kernel
theorem dX4_seenIn_42 : decode cX4_seenIn 42 = .ok (.imul, 1) := by decide +kernel
theorem dX4_seenIn_43 : decode cX4_seenIn 43 = .ok (.iload_n 3, 1) := by decide +kernel
theorem dX4_seenIn_44 : decode cX4_seenIn 44 = .ok (.iadd, 1) := by decide +kernel
theorem dX4_seenIn_45 : decode cX4_seenIn 45 = .ok (.iaload, 1) := by decide +kernel
theorem dX4_seenIn_46 : decode cX4_seenIn 46 = .ok (.ishl, 1) := by decide +kernel
theorem dX4_seenIn_47 : decode cX4_seenIn 47 = .ok (.ior, 1) := by decide +kernel
theorem dX4_seenIn_48 : decode cX4_seenIn 48 = .ok (.istore_n 2, 1) := by decide +kernel
theorem dX4_seenIn_49 : decode cX4_seenIn 49 = .ok (.iinc 3 1, 3) := by decide +kernel
theorem dX4_seenIn_52 : decode cX4_seenIn 52 = .ok (.goto (-38), 3) := by decide +kernel
theorem dX4_seenIn_55 : decode cX4_seenIn 55 = .ok (.iload_n 2, 1) := by decide +kernel
theorem dX4_seenIn_56 : decode cX4_seenIn 56 = .ok (.ireturn, 1) := by decide +kernel
set_option maxRecDepth 20000 in
theorem ggX4_good_X4_isGood : GoodIn wsX4_good wsX4_isGood := goodIn_r _ [6, 7, 8, 9, 10, 11, 12, 13, 14, 5, 15, 16, 17, 18, 19, 20, 21, 22, 23, 24, 25, 26, 27, 28, 29, 30, 31, 32, 33, 34, 35, 36, 37, 38, 39, 40, 41, 42, 43, 44, 45, 46, 47, 48, 49] (by decide +kernel) (by decide +kernel)
set_option maxRecDepth 20000 in
theorem gX4_good_X4_isGood : GoodIn wsX4_good (wsV RX4 101 RX4 yX4_isGood wsX4_isGood) := goodIn_app (goodIn_of _ (by decide +kernel)) ggX4_good_X4_isGood
theorem dX4_good_0 : decode cX4_good 0 = .ok (.iconst 0, 1) := by decide +kernel
theorem dX4_good_1 : decode cX4_good 1 = .ok (.istore_n 1, 1) := by decide +kernel
theorem dX4_good_2 : decode cX4_good 2 = .ok (.iconst 0, 1) := by decide +kernel
theorem dX4_good_3 : decode cX4_good 3 = .ok (.istore_n 2, 1) := by decide +kernel
theorem dX4_good_4 : decode cX4_good 4 = .ok (.iload_n 2, 1) := by decide +kernel
theorem dX4_good_5 : decode cX4_good 5 = .ok (.aload_n 0, 1) := by decide +kernel
theorem dX4_good_6 : decode cX4_good 6 = .ok (.getfield 74, 3) := by decide +kernel
theorem dX4_good_9 : decode cX4_good 9 = .ok (.if_icmp .ge 23, 3) := by decide +kernel
theorem dX4_good_12 : decode cX4_good 12 = .ok (.aload_n 0, 1) := by decide +kernel
theorem dX4_good_13 : decode cX4_good 13 = .ok (.iload_n 2, 1) := by decide +kernel
theorem dX4_good_14 : decode cX4_good 14 = .ok (.invokevirtual 101, 3) := by decide +kernel
theorem dX4_good_17 : decode cX4_good 17 = .ok (.ifCond .eq 9, 3) := by decide +kernel
theorem dX4_good_20 : decode cX4_good 20 = .ok (.iload_n 1, 1) := by decide +kernel
theorem dX4_good_21 : decode cX4_good 21 = .ok (.iconst 1, 1) := by decide +kernel
theorem dX4_good_22 : decode cX4_good 22 = .ok (.iload_n 2, 1) := by decide +kernel
theorem dX4_good_23 : decode cX4_good 23 = .ok (.ishl, 1) := by decide +kernel
theorem dX4_good_24 : decode cX4_good 24 = .ok (.ior, 1) := by decide +kernel
theorem dX4_good_25 : decode cX4_good 25 = .ok (.istore_n 1, 1) := by decide +kernel
theorem dX4_good_26 : decode cX4_good 26 = .ok (.iinc 2 1, 3) := by decide +kernel
theorem dX4_good_29 : decode cX4_good 29 = .ok (.goto (-25), 3) := by decide +kernel
theorem dX4_good_32 : decode cX4_good 32 = .ok (.iload_n 1, 1) := by decide +kernel
theorem dX4_good_33 : decode cX4_good 33 = .ok (.ireturn, 1) := by decide +kernel
set_option maxRecDepth 20000 in
theorem ggX4_shown_X4_seenIn : GoodIn wsX4_shown wsX4_seenIn := goodIn_r _ [6, 7, 8, 9, 10, 11, 5, 12, 13, 14, 15, 16, 17, 18, 19, 20, 21, 22, 23, 24, 25, 26, 27, 28, 29, 30, 31, 32, 33, 34, 35, 36, 37, 38, 39, 40, 41, 42, 43, 44, 45, 46, 47, 48, 49, 50, 51, 52, 53] (by decide +kernel) (by decide +kernel)
set_option maxRecDepth 20000 in
theorem gX4_shown_X4_seenIn : GoodIn wsX4_shown (wsV RX4 104 RX4 yX4_seenIn wsX4_seenIn) := goodIn_app (goodIn_of _ (by decide +kernel)) ggX4_shown_X4_seenIn
theorem dX4_shown_0 : decode cX4_shown 0 = .ok (.iconst 0, 1) := by decide +kernel
theorem dX4_shown_1 : decode cX4_shown 1 = .ok (.istore_n 1, 1) := by decide +kernel
theorem dX4_shown_2 : decode cX4_shown 2 = .ok (.iconst 0, 1) := by decide +kernel
theorem dX4_shown_3 : decode cX4_shown 3 = .ok (.istore_n 2, 1) := by decide +kernel
theorem dX4_shown_4 : decode cX4_shown 4 = .ok (.iload_n 2, 1) := by decide +kernel
theorem dX4_shown_5 : decode cX4_shown 5 = .ok (.aload_n 0, 1) := by decide +kernel
theorem dX4_shown_6 : decode cX4_shown 6 = .ok (.getfield 74, 3) := by decide +kernel
theorem dX4_shown_9 : decode cX4_shown 9 = .ok (.if_icmp .ge 17, 3) := by decide +kernel
theorem dX4_shown_12 : decode cX4_shown 12 = .ok (.iload_n 1, 1) := by decide +kernel
theorem dX4_shown_13 : decode cX4_shown 13 = .ok (.aload_n 0, 1) := by decide +kernel
theorem dX4_shown_14 : decode cX4_shown 14 = .ok (.iload_n 2, 1) := by decide +kernel
theorem dX4_shown_15 : decode cX4_shown 15 = .ok (.invokevirtual 104, 3) := by decide +kernel
theorem dX4_shown_18 : decode cX4_shown 18 = .ok (.ior, 1) := by decide +kernel
theorem dX4_shown_19 : decode cX4_shown 19 = .ok (.istore_n 1, 1) := by decide +kernel
theorem dX4_shown_20 : decode cX4_shown 20 = .ok (.iinc 2 1, 3) := by decide +kernel
theorem dX4_shown_23 : decode cX4_shown 23 = .ok (.goto (-19), 3) := by decide +kernel
theorem dX4_shown_26 : decode cX4_shown 26 = .ok (.iload_n 1, 1) := by decide +kernel
theorem dX4_shown_27 : decode cX4_shown 27 = .ok (.ireturn, 1) := by decide +kernel
theorem dX4_sum_0 : decode cX4_sum 0 = .ok (.iconst 0, 1) := by decide +kernel
theorem dX4_sum_1 : decode cX4_sum 1 = .ok (.istore_n 2, 1) := by decide +kernel
theorem dX4_sum_2 : decode cX4_sum 2 = .ok (.iconst 0, 1) := by decide +kernel
theorem dX4_sum_3 : decode cX4_sum 3 = .ok (.istore_n 3, 1) := by decide +kernel
theorem dX4_sum_4 : decode cX4_sum 4 = .ok (.iload_n 3, 1) := by decide +kernel
theorem dX4_sum_5 : decode cX4_sum 5 = .ok (.aload_n 0, 1) := by decide +kernel
theorem dX4_sum_6 : decode cX4_sum 6 = .ok (.getfield 74, 3) := by decide +kernel
theorem dX4_sum_9 : decode cX4_sum 9 = .ok (.if_icmp .ge 27, 3) := by decide +kernel
theorem dX4_sum_12 : decode cX4_sum 12 = .ok (.iload_n 1, 1) := by decide +kernel
theorem dX4_sum_13 : decode cX4_sum 13 = .ok (.iload_n 3, 1) := by decide +kernel
theorem dX4_sum_14 : decode cX4_sum 14 = .ok (.ishr, 1) := by decide +kernel
theorem dX4_sum_15 : decode cX4_sum 15 = .ok (.iconst 1, 1) := by decide +kernel
theorem dX4_sum_16 : decode cX4_sum 16 = .ok (.iand, 1) := by decide +kernel
theorem dX4_sum_17 : decode cX4_sum 17 = .ok (.iconst 1, 1) := by decide +kernel
theorem dX4_sum_18 : decode cX4_sum 18 = .ok (.if_icmp .ne 12, 3) := by decide +kernel
theorem dX4_sum_21 : decode cX4_sum 21 = .ok (.iload_n 2, 1) := by decide +kernel
theorem dX4_sum_22 : decode cX4_sum 22 = .ok (.aload_n 0, 1) := by decide +kernel
theorem dX4_sum_23 : decode cX4_sum 23 = .ok (.getfield 19, 3) := by decide +kernel
theorem dX4_sum_26 : decode cX4_sum 26 = .ok (.iload_n 3, 1) := by decide +kernel
theorem dX4_sum_27 : decode cX4_sum 27 = .ok (.iaload, 1) := by decide +kernel
theorem dX4_sum_28 : decode cX4_sum 28 = .ok (.iadd, 1) := by decide +kernel
theorem dX4_sum_29 : decode cX4_sum 29 = .ok (.istore_n 2, 1) := by decide +kernel
theorem dX4_sum_30 : decode cX4_sum 30 = .ok (.iinc 3 1, 3) := by decide +kernel
theorem dX4_sum_33 : decode cX4_sum 33 = .ok (.goto (-29), 3) := by decide +kernel
theorem dX4_sum_36 : decode cX4_sum 36 = .ok (.iload_n 2, 1) := by decide +kernel
theorem dX4_sum_37 : decode cX4_sum 37 = .ok (.ireturn, 1) := by decide +kernel
set_option maxRecDepth 20000 in
theorem ggX4_count_X4_sum : GoodIn wsX4_count wsX4_sum := goodIn_r _ [10, 3, 11, 44, 45, 46, 47, 48, 49, 50, 51, 52, 53, 54, 55, 56, 57, 58, 59, 60, 61, 62, 63, 64, 65, 66, 67, 68, 69, 70] (by decide +kernel) (by decide +kernel)
set_option maxRecDepth 20000 in
theorem gX4_count_X4_sum : GoodIn wsX4_count (wsV RX4 111 RX4 yX4_sum wsX4_sum) := goodIn_app (goodIn_of _ (by decide +kernel)) ggX4_count_X4_sum
set_option maxRecDepth 20000 in
theorem ggX4_count_X4_good : GoodIn wsX4_count wsX4_good := goodIn_r _ [15, 3, 16, 17, 18, 9, 19, 20, 21, 22, 23, 24, 25, 26, 27, 28, 29, 30, 31, 32, 33, 34, 35, 44, 45, 46, 47, 48, 49, 50, 51, 52, 53, 54, 55, 56, 57, 58, 59, 60, 61, 62, 63, 64, 65, 66, 67, 68, 69, 70] (by decide +kernel) (by decide +kernel)
set_option maxRecDepth 20000 in
theorem gX4_count_X4_good : GoodIn wsX4_count (wsV RX4 117 RX4 yX4_good wsX4_good) := goodIn_app (goodIn_of _ (by decide +kernel)) ggX4_count_X4_good
set_option maxRecDepth 20000 in
theorem ggX4_count_X4_shown : GoodIn wsX4_count wsX4_shown := goodIn_r _ [39, 3, 40, 41, 42, 9, 43, 20, 34, 16, 17, 18, 19, 21, 22, 23, 24, 25, 26, 27, 28, 29, 30, 31, 32, 33, 35, 44, 45, 46, 47, 48, 49, 50, 51, 52, 53, 54, 55, 56, 57, 58, 59, 60, 61, 62, 63, 64, 65, 66, 67, 68, 69, 70] (by decide +kernel) (by decide +kernel)
set_option maxRecDepth 20000 in
theorem gX4_count_X4_shown : GoodIn wsX4_count (wsV RX4 121 RX4 yX4_shown wsX4_shown) := goodIn_app (goodIn_of _ (by decide +kernel)) ggX4_count_X4_shown
theorem dX4_count_0 : decode cX4_count 0 = .ok (.aload_n 0, 1) := by decide +kernel
theorem dX4_count_1 : decode cX4_count 1 = .ok (.iconst 0, 1) := by decide +kernel
theorem dX4_count_2 : decode cX4_count 2 = .ok (.putfield 71, 3) := by decide +kernel
theorem dX4_count_5 : decode cX4_count 5 = .ok (.iload_n 1, 1) := by decide +kernel
theorem dX4_count_6 : decode cX4_count 6 = .ok (.tableswitch 81 0 6 #[42, 47, 52, 57, 66, 71, 76], 42) := by decide +kernel
theorem dX4_count_48 : decode cX4_count 48 = .ok (.aload_n 0, 1) := by decide +kernel
theorem dX4_count_49 : decode cX4_count 49 = .ok (.getfield 81, 3) := by decide +kernel
theorem dX4_count_52 : decode cX4_count 52 = .ok (.ireturn, 1) := by decide +kernel
theorem dX4_count_53 : decode cX4_count 53 = .ok (.aload_n 0, 1) := by decide +kernel
theorem dX4_count_54 : decode cX4_count 54 = .ok (.getfield 74, 3) := by decide +kernel
theorem dX4_count_57 : decode cX4_count 57 = .ok (.ireturn, 1) := by decide +kernel
theorem dX4_count_58 : decode cX4_count 58 = .ok (.aload_n 0, 1) := by decide +kernel
theorem dX4_count_59 : decode cX4_count 59 = .ok (.getfield 108, 3) := by decide +kernel
theorem dX4_count_62 : decode cX4_count 62 = .ok (.ireturn, 1) := by decide +kernel
theorem dX4_count_63 : decode cX4_count 63 = .ok (.aload_n 0, 1) := by decide +kernel
theorem dX4_count_64 : decode cX4_count 64 = .ok (.aload_n 0, 1) := by decide +kernel
theorem dX4_count_65 : decode cX4_count 65 = .ok (.getfield 108, 3) := by decide +kernel
theorem dX4_count_68 : decode cX4_count 68 = .ok (.invokevirtual 111, 3) := by decide +kernel
theorem dX4_count_71 : decode cX4_count 71 = .ok (.ireturn, 1) := by decide +kernel
theorem dX4_count_72 : decode cX4_count 72 = .ok (.aload_n 0, 1) := by decide +kernel
theorem dX4_count_73 : decode cX4_count 73 = .ok (.getfield 114, 3) := by decide +kernel
theorem dX4_count_76 : decode cX4_count 76 = .ok (.ireturn, 1) := by decide +kernel
theorem dX4_count_77 : decode cX4_count 77 = .ok (.aload_n 0, 1) := by decide +kernel
theorem dX4_count_78 : decode cX4_count 78 = .ok (.invokevirtual 117, 3) := by decide +kernel
theorem dX4_count_81 : decode cX4_count 81 = .ok (.ireturn, 1) := by decide +kernel
theorem dX4_count_82 : decode cX4_count 82 = .ok (.aload_n 0, 1) := by decide +kernel
theorem dX4_count_83 : decode cX4_count 83 = .ok (.invokevirtual 121, 3) := by decide +kernel
theorem dX4_count_86 : decode cX4_count 86 = .ok (.ireturn, 1) := by decide +kernel
theorem dX4_count_87 : decode cX4_count 87 = .ok (.iconst (-1), 1) := by decide +kernel
theorem dX4_count_88 : decode cX4_count 88 = .ok (.ireturn, 1) := by decide +kernel
theorem dX4_pageOf_0 : decode cX4_pageOf 0 = .ok (.iconst 0, 1) := by decide +kernel
theorem dX4_pageOf_1 : decode cX4_pageOf 1 = .ok (.istore_n 2, 1) := by decide +kernel
theorem dX4_pageOf_2 : decode cX4_pageOf 2 = .ok (.iload_n 2, 1) := by decide +kernel
theorem dX4_pageOf_3 : decode cX4_pageOf 3 = .ok (.aload_n 0, 1) := by decide +kernel
theorem dX4_pageOf_4 : decode cX4_pageOf 4 = .ok (.getfield 114, 3) := by decide +kernel
theorem dX4_pageOf_7 : decode cX4_pageOf 7 = .ok (.if_icmp .ge 25, 3) := by decide +kernel
theorem dX4_pageOf_10 : decode cX4_pageOf 10 = .ok (.aload_n 0, 1) := by decide +kernel
theorem dX4_pageOf_11 : decode cX4_pageOf 11 = .ok (.getfield 50, 3) := by decide +kernel
theorem dX4_pageOf_14 : decode cX4_pageOf 14 = .ok (.iload_n 2, 1) := by decide +kernel
theorem dX4_pageOf_15 : decode cX4_pageOf 15 = .ok (.iaload, 1) := by decide +kernel
theorem dX4_pageOf_16 : decode cX4_pageOf 16 = .ok (.iload_n 1, 1) := by decide +kernel
theorem dX4_pageOf_17 : decode cX4_pageOf 17 = .ok (.ishr, 1) := by decide +kernel
theorem dX4_pageOf_18 : decode cX4_pageOf 18 = .ok (.iconst 1, 1) := by decide +kernel
theorem dX4_pageOf_19 : decode cX4_pageOf 19 = .ok (.iand, 1) := by decide +kernel
theorem dX4_pageOf_20 : decode cX4_pageOf 20 = .ok (.iconst 1, 1) := by decide +kernel
theorem dX4_pageOf_21 : decode cX4_pageOf 21 = .ok (.if_icmp .ne 5, 3) := by decide +kernel
theorem dX4_pageOf_24 : decode cX4_pageOf 24 = .ok (.iload_n 2, 1) := by decide +kernel
theorem dX4_pageOf_25 : decode cX4_pageOf 25 = .ok (.ireturn, 1) := by decide +kernel
theorem dX4_pageOf_26 : decode cX4_pageOf 26 = .ok (.iinc 2 1, 3) := by decide +kernel
theorem dX4_pageOf_29 : decode cX4_pageOf 29 = .ok (.goto (-27), 3) := by decide +kernel
theorem dX4_pageOf_32 : decode cX4_pageOf 32 = .ok (.iconst (-1), 1) := by decide +kernel
theorem dX4_pageOf_33 : decode cX4_pageOf 33 = .ok (.ireturn, 1) := by decide +kernel
set_option maxRecDepth 20000 in
theorem ggX4_told_X4_isPicture : GoodIn wsX4_told wsX4_isPicture := goodIn_r _ [11, 12, 13, 14, 10, 15, 43, 44, 45, 46, 47, 48, 49, 50, 51, 52, 53, 54, 55, 56, 57, 58, 59, 60, 61, 62, 63, 64, 65, 66, 67, 68, 69] (by decide +kernel) (by decide +kernel)
set_option maxRecDepth 20000 in
theorem gX4_told_X4_isPicture : GoodIn wsX4_told (wsV RX4 88 RX4 yX4_isPicture wsX4_isPicture) := goodIn_app (goodIn_of _ (by decide +kernel)) ggX4_told_X4_isPicture
set_option maxRecDepth 20000 in
theorem ggX4_told_X4_in : GoodIn wsX4_told wsX4_in := goodIn_r _ [15] (by decide +kernel) (by decide +kernel)
set_option maxRecDepth 20000 in
theorem gX4_told_X4_in : GoodIn wsX4_told (va_wsS RX4 77 yX4_in wsX4_in) := goodIn_app (goodIn_of _ (by decide +kernel)) ggX4_told_X4_in
set_option maxRecDepth 20000 in
theorem ggX4_told_X4_isGood : GoodIn wsX4_told wsX4_isGood := goodIn_r _ [19, 5, 20, 21, 6, 22, 23, 24, 25, 10, 26, 27, 28, 29, 30, 31, 32, 2, 43, 44, 45, 46, 47, 48, 49, 50, 51, 52, 53, 54, 55, 56, 57, 58, 59, 60, 61, 62, 63, 64, 65, 66, 67, 68, 69] (by decide +kernel) (by decide +kernel)
set_option maxRecDepth 20000 in
theorem gX4_told_X4_isGood : GoodIn wsX4_told (wsV RX4 101 RX4 yX4_isGood wsX4_isGood) := goodIn_app (goodIn_of _ (by decide +kernel)) ggX4_told_X4_isGood
set_option maxRecDepth 20000 in
theorem ggX4_told_X4_seenIn : GoodIn wsX4_told wsX4_seenIn := goodIn_r _ [36, 5, 32, 16, 17, 18, 10, 19, 20, 21, 6, 22, 23, 24, 25, 26, 27, 28, 29, 30, 31, 2, 43, 44, 45, 46, 47, 48, 49, 50, 51, 52, 53, 54, 55, 56, 57, 58, 59, 60, 61, 62, 63, 64, 65, 66, 67, 68, 69] (by decide +kernel) (by decide +kernel)
set_option maxRecDepth 20000 in
theorem gX4_told_X4_seenIn : GoodIn wsX4_told (wsV RX4 104 RX4 yX4_seenIn wsX4_seenIn) := goodIn_app (goodIn_of _ (by decide +kernel)) ggX4_told_X4_seenIn
set_option maxRecDepth 20000 in
theorem ggX4_told_X4_pageOf : GoodIn wsX4_told wsX4_pageOf := goodIn_r _ [40, 41, 42, 43, 44, 45, 46, 47, 48, 49, 50, 51, 52, 53, 54, 55, 56, 57, 58, 59, 60, 61, 62, 63, 64, 65, 66, 67, 68, 69] (by decide +kernel) (by decide +kernel)
set_option maxRecDepth 20000 in
theorem gX4_told_X4_pageOf : GoodIn wsX4_told (wsV RX4 124 RX4 yX4_pageOf wsX4_pageOf) := goodIn_app (goodIn_of _ (by decide +kernel)) ggX4_told_X4_pageOf
set_option maxRecDepth 20000 in
theorem ggX4_told_X4_cutOf : GoodIn wsX4_told wsX4_cutOf := goodIn_r _ [26, 5, 20, 21, 22, 6, 27, 28, 29, 10, 30, 31, 32, 2, 43, 44, 45, 46, 47, 48, 49, 50, 51, 52, 53, 54, 55, 56, 57, 58, 59, 60, 61, 62, 63, 64, 65, 66, 67, 68, 69] (by decide +kernel) (by decide +kernel)
set_option maxRecDepth 20000 in
theorem gX4_told_X4_cutOf : GoodIn wsX4_told (wsV RX4 98 RX4 yX4_cutOf wsX4_cutOf) := goodIn_app (goodIn_of _ (by decide +kernel)) ggX4_told_X4_cutOf
theorem dX4_told_0 : decode cX4_told 0 = .ok (.aload_n 0, 1) := by decide +kernel
theorem dX4_told_1 : decode cX4_told 1 = .ok (.iconst 0, 1) := by decide +kernel
theorem dX4_told_2 : decode cX4_told 2 = .ok (.putfield 71, 3) := by decide +kernel
theorem dX4_told_5 : decode cX4_told 5 = .ok (.aload_n 0, 1) := by decide +kernel
theorem dX4_told_6 : decode cX4_told 6 = .ok (.iload_n 1, 1) := by decide +kernel
theorem dX4_told_7 : decode cX4_told 7 = .ok (.invokevirtual 88, 3) := by decide +kernel
theorem dX4_told_10 : decode cX4_told 10 = .ok (.ifCond .eq 13, 3) := by decide +kernel
theorem dX4_told_13 : decode cX4_told 13 = .ok (.iload_n 2, 1) := by decide +kernel
theorem dX4_told_14 : decode cX4_told 14 = .ok (.iconst 0, 1) := by decide +kernel
theorem dX4_told_15 : decode cX4_told 15 = .ok (.bipush 10, 2) := by decide +kernel
theorem dX4_told_17 : decode cX4_told 17 = .ok (.invokestatic 77, 3) := by decide +kernel
theorem dX4_told_20 : decode cX4_told 20 = .ok (.ifCond .ne 10, 3) := by decide +kernel
theorem dX4_told_23 : decode cX4_told 23 = .ok (.aload_n 0, 1) := by decide +kernel
theorem dX4_told_24 : decode cX4_told 24 = .ok (.iconst 1, 1) := by decide +kernel
theorem dX4_told_25 : decode cX4_told 25 = .ok (.putfield 71, 3) := by decide +kernel
theorem dX4_told_28 : decode cX4_told 28 = .ok (.iconst 0, 1) := by decide +kernel
theorem dX4_told_29 : decode cX4_told 29 = .ok (.ireturn, 1) := by decide +kernel
theorem dX4_told_30 : decode cX4_told 30 = .ok (.iload_n 2, 1) := by decide +kernel
theorem dX4_told_31 : decode cX4_told 31 = .ok (.tableswitch 111 0 10 #[57, 64, 71, 78, 85, 99, 111, 111, 111, 111, 105], 57) := by decide +kernel
theorem dX4_told_88 : decode cX4_told 88 = .ok (.aload_n 0, 1) := by decide +kernel
theorem dX4_told_89 : decode cX4_told 89 = .ok (.getfield 16, 3) := by decide +kernel
theorem dX4_told_92 : decode cX4_told 92 = .ok (.iload_n 1, 1) := by decide +kernel
theorem dX4_told_93 : decode cX4_told 93 = .ok (.iaload, 1) := by decide +kernel
theorem dX4_told_94 : decode cX4_told 94 = .ok (.ireturn, 1) := by decide +kernel
theorem dX4_told_95 : decode cX4_told 95 = .ok (.aload_n 0, 1) := by decide +kernel
theorem dX4_told_96 : decode cX4_told 96 = .ok (.getfield 19, 3) := by decide +kernel
theorem dX4_told_99 : decode cX4_told 99 = .ok (.iload_n 1, 1) := by decide +kernel
