/-! printed names, part 05.d6 -/
set_option maxRecDepth 20000 in
theorem ggX6_init_X6_whole : GoodIn wsX6_init wsX6_whole := goodIn_r _ [17, 8, 11, 12, 18, 19, 20, 21, 22, 23, 24, 25, 26, 27, 28, 29, 30, 31, 32] (by decide +kernel) (by decide +kernel)
set_option maxRecDepth 20000 in
theorem gX6_init_X6_whole : GoodIn wsX6_init (wsV RX6 33 RX6 yX6_whole wsX6_whole) := goodIn_app (goodIn_of _ (by decide +kernel)) ggX6_init_X6_whole
theorem dX6_init_0 : decode cX6_init 0 = .ok (.aload_n 0, 1) := by decide +kernel
theorem dX6_init_1 : decode cX6_init 1 = .ok (.invokespecial 1, 3) := by decide +kernel
theorem dX6_init_4 : decode cX6_init 4 = .ok (.aload_n 0, 1) := by decide +kernel
theorem dX6_init_5 : decode cX6_init 5 = .ok (.sipush 576, 3) := by decide +kernel
theorem dX6_init_8 : decode cX6_init 8 = .ok (.newarray .boolean, 2) := by decide +kernel
theorem dX6_init_10 : decode cX6_init 10 = .ok (.putfield 7, 3) := by decide +kernel
theorem dX6_init_13 : decode cX6_init 13 = .ok (.aload_n 0, 1) := by decide +kernel
theorem dX6_init_14 : decode cX6_init 14 = .ok (.sipush 576, 3) := by decide +kernel
theorem dX6_init_17 : decode cX6_init 17 = .ok (.newarray .boolean, 2) := by decide +kernel
theorem dX6_init_19 : decode cX6_init 19 = .ok (.putfield 13, 3) := by decide +kernel
theorem dX6_init_22 : decode cX6_init 22 = .ok (.aload_n 0, 1) := by decide +kernel
theorem dX6_init_23 : decode cX6_init 23 = .ok (.iconst 4, 1) := by decide +kernel
theorem dX6_init_24 : decode cX6_init 24 = .ok (.newarray .int, 2) := by decide +kernel
theorem dX6_init_26 : decode cX6_init 26 = .ok (.putfield 16, 3) := by decide +kernel
theorem dX6_init_29 : decode cX6_init 29 = .ok (.aload_n 0, 1) := by decide +kernel
theorem dX6_init_30 : decode cX6_init 30 = .ok (.bipush 16, 2) := by decide +kernel
theorem dX6_init_32 : decode cX6_init 32 = .ok (.newarray .int, 2) := by decide +kernel
theorem dX6_init_34 : decode cX6_init 34 = .ok (.putfield 20, 3) := by decide +kernel
theorem dX6_init_37 : decode cX6_init 37 = .ok (.aload_n 0, 1) := by decide +kernel
theorem dX6_init_38 : decode cX6_init 38 = .ok (.bipush 104, 2) := by decide +kernel
theorem dX6_init_40 : decode cX6_init 40 = .ok (.newarray .int, 2) := by decide +kernel
theorem dX6_init_42 : decode cX6_init 42 = .ok (.putfield 23, 3) := by decide +kernel
theorem dX6_init_45 : decode cX6_init 45 = .ok (.aload_n 0, 1) := by decide +kernel
theorem dX6_init_46 : decode cX6_init 46 = .ok (.iload_n 1, 1) := by decide +kernel
theorem dX6_init_47 : decode cX6_init 47 = .ok (.iconst 1, 1) := by decide +kernel
theorem dX6_init_48 : decode cX6_init 48 = .ok (.if_icmp .ge 7, 3) := by decide +kernel
theorem dX6_init_51 : decode cX6_init 51 = .ok (.iconst 1, 1) := by decide +kernel
theorem dX6_init_52 : decode cX6_init 52 = .ok (.goto 15, 3) := by decide +kernel
theorem dX6_init_55 : decode cX6_init 55 = .ok (.iload_n 1, 1) := by decide +kernel
theorem dX6_init_56 : decode cX6_init 56 = .ok (.bipush 24, 2) := by decide +kernel
theorem dX6_init_58 : decode cX6_init 58 = .ok (.if_icmp .le 8, 3) := by decide +kernel
theorem dX6_init_61 : decode cX6_init 61 = .ok (.bipush 24, 2) := by decide +kernel
theorem dX6_init_63 : decode cX6_init 63 = .ok (.goto 4, 3) := by decide +kernel
theorem dX6_init_66 : decode cX6_init 66 = .ok (.iload_n 1, 1) := by decide +kernel
theorem dX6_init_67 : decode cX6_init 67 = .ok (.putfield 26, 3) := by decide +kernel
theorem dX6_init_70 : decode cX6_init 70 = .ok (.aload_n 0, 1) := by decide +kernel
theorem dX6_init_71 : decode cX6_init 71 = .ok (.iload_n 2, 1) := by decide +kernel
theorem dX6_init_72 : decode cX6_init 72 = .ok (.iconst 1, 1) := by decide +kernel
theorem dX6_init_73 : decode cX6_init 73 = .ok (.if_icmp .ge 7, 3) := by decide +kernel
theorem dX6_init_76 : decode cX6_init 76 = .ok (.iconst 1, 1) := by decide +kernel
theorem dX6_init_77 : decode cX6_init 77 = .ok (.goto 15, 3) := by decide +kernel
theorem dX6_init_80 : decode cX6_init 80 = .ok (.iload_n 2, 1) := by decide +kernel
theorem dX6_init_81 : decode cX6_init 81 = .ok (.bipush 24, 2) := by decide +kernel
theorem dX6_init_83 : decode cX6_init 83 = .ok (.if_icmp .le 8, 3) := by decide +kernel
theorem dX6_init_86 : decode cX6_init 86 = .ok (.bipush 24, 2) := by decide +kernel
theorem dX6_init_88 : decode cX6_init 88 = .ok (.goto 4, 3) := by decide +kernel
theorem dX6_init_91 : decode cX6_init 91 = .ok (.iload_n 2, 1) := by decide +kernel
theorem dX6_init_92 : decode cX6_init 92 = .ok (.putfield 30, 3) := by decide +kernel
theorem dX6_init_95 : decode cX6_init 95 = .ok (.aload_n 0, 1) := by decide +kernel
theorem dX6_init_96 : decode cX6_init 96 = .ok (.invokevirtual 33, 3) := by decide +kernel
theorem dX6_init_99 : decode cX6_init 99 = .ok (.return_, 1) := by decide +kernel
theorem dX6_thrown_0 : decode cX6_thrown 0 = .ok (.aload_n 0, 1) := by decide +kernel
theorem dX6_thrown_1 : decode cX6_thrown 1 = .ok (.getfield 36, 3) := by decide +kernel
theorem dX6_thrown_4 : decode cX6_thrown 4 = .ok (.ireturn, 1) := by decide +kernel
theorem dX6_refuses_0 : decode cX6_refuses 0 = .ok (.aload_n 0, 1) := by decide +kernel
theorem dX6_refuses_1 : decode cX6_refuses 1 = .ok (.iload_n 1, 1) := by decide +kernel
theorem dX6_refuses_2 : decode cX6_refuses 2 = .ok (.putfield 36, 3) := by decide +kernel
theorem dX6_refuses_5 : decode cX6_refuses 5 = .ok (.iload_n 1, 1) := by decide +kernel
theorem dX6_refuses_6 : decode cX6_refuses 6 = .ok (.ifCond .le 7, 3) := by decide +kernel
theorem dX6_refuses_9 : decode cX6_refuses 9 = .ok (.iconst 1, 1) := by decide +kernel
theorem dX6_refuses_10 : decode cX6_refuses 10 = .ok (.goto 4, 3) := by decide +kernel
theorem dX6_refuses_13 : decode cX6_refuses 13 = .ok (.iconst 0, 1) := by decide +kernel
theorem dX6_refuses_14 : decode cX6_refuses 14 = .ok (.ireturn, 1) := by decide +kernel
theorem dX6_whole_0 : decode cX6_whole 0 = .ok (.aload_n 0, 1) := by decide +kernel
theorem dX6_whole_1 : decode cX6_whole 1 = .ok (.getfield 16, 3) := by decide +kernel
theorem dX6_whole_4 : decode cX6_whole 4 = .ok (.iconst 0, 1) := by decide +kernel
theorem dX6_whole_5 : decode cX6_whole 5 = .ok (.iconst 0, 1) := by decide +kernel
theorem dX6_whole_6 : decode cX6_whole 6 = .ok (.iastore, 1) := by decide +kernel
theorem dX6_whole_7 : decode cX6_whole 7 = .ok (.aload_n 0, 1) := by decide +kernel
theorem dX6_whole_8 : decode cX6_whole 8 = .ok (.getfield 16, 3) := by decide +kernel
theorem dX6_whole_11 : decode cX6_whole 11 = .ok (.iconst 1, 1) := by decide +kernel
theorem dX6_whole_12 : decode cX6_whole 12 = .ok (.iconst 0, 1) := by decide +kernel
theorem dX6_whole_13 : decode cX6_whole 13 = .ok (.iastore, 1) := by decide +kernel
theorem dX6_whole_14 : decode cX6_whole 14 = .ok (.aload_n 0, 1) := by decide +kernel
theorem dX6_whole_15 : decode cX6_whole 15 = .ok (.getfield 16, 3) := by decide +kernel
theorem dX6_whole_18 : decode cX6_whole 18 = .ok (.iconst 2, 1) := by decide +kernel
theorem dX6_whole_19 : decode cX6_whole 19 = .ok (.aload_n 0, 1) := by decide +kernel
theorem dX6_whole_20 : decode cX6_whole 20 = .ok (.getfield 26, 3) := by decide +kernel
theorem dX6_whole_23 : decode cX6_whole 23 = .ok (.iastore, 1) := by decide +kernel
theorem dX6_whole_24 : decode cX6_whole 24 = .ok (.aload_n 0, 1) := by decide +kernel
theorem dX6_whole_25 : decode cX6_whole 25 = .ok (.getfield 16, 3) := by decide +kernel
theorem dX6_whole_28 : decode cX6_whole 28 = .ok (.iconst 3, 1) := by decide +kernel
theorem dX6_whole_29 : decode cX6_whole 29 = .ok (.aload_n 0, 1) := by decide +kernel
theorem dX6_whole_30 : decode cX6_whole 30 = .ok (.getfield 30, 3) := by decide +kernel
theorem dX6_whole_33 : decode cX6_whole 33 = .ok (.iastore, 1) := by decide +kernel
theorem dX6_whole_34 : decode cX6_whole 34 = .ok (.aload_n 0, 1) := by decide +kernel
theorem dX6_whole_35 : decode cX6_whole 35 = .ok (.iconst 0, 1) := by decide +kernel
theorem dX6_whole_36 : decode cX6_whole 36 = .ok (.putfield 39, 3) := by decide +kernel
theorem dX6_whole_39 : decode cX6_whole 39 = .ok (.return_, 1) := by decide +kernel
theorem dX6_isOn_0 : decode cX6_isOn 0 = .ok (.iload_n 1, 1) := by decide +kernel
theorem dX6_isOn_1 : decode cX6_isOn 1 = .ok (.ifCond .lt 41, 3) := by decide +kernel
theorem dX6_isOn_4 : decode cX6_isOn 4 = .ok (.iload_n 1, 1) := by decide +kernel
theorem dX6_isOn_5 : decode cX6_isOn 5 = .ok (.aload_n 0, 1) := by decide +kernel
theorem dX6_isOn_6 : decode cX6_isOn 6 = .ok (.getfield 26, 3) := by decide +kernel
theorem dX6_isOn_9 : decode cX6_isOn 9 = .ok (.if_icmp .ge 33, 3) := by decide +kernel
theorem dX6_isOn_12 : decode cX6_isOn 12 = .ok (.iload_n 2, 1) := by decide +kernel
theorem dX6_isOn_13 : decode cX6_isOn 13 = .ok (.ifCond .lt 29, 3) := by decide +kernel
theorem dX6_isOn_16 : decode cX6_isOn 16 = .ok (.iload_n 2, 1) := by decide +kernel
theorem dX6_isOn_17 : decode cX6_isOn 17 = .ok (.aload_n 0, 1) := by decide +kernel
theorem dX6_isOn_18 : decode cX6_isOn 18 = .ok (.getfield 30, 3) := by decide +kernel
theorem dX6_isOn_21 : decode cX6_isOn 21 = .ok (.if_icmp .ge 21, 3) := by decide +kernel
theorem dX6_isOn_24 : decode cX6_isOn 24 = .ok (.aload_n 0, 1) := by decide +kernel
theorem dX6_isOn_25 : decode cX6_isOn 25 = .ok (.getfield 7, 3) := by decide +kernel
theorem dX6_isOn_28 : decode cX6_isOn 28 = .ok (.bipush 24, 2) := by decide +kernel
theorem dX6_isOn_30 : decode cX6_isOn 30 = .ok (.iload_n 2, 1) := by decide +kernel
theorem dX6_isOn_31 : decode cX6_isOn 31 = .ok (.imul, 1) := by decide +kernel
theorem dX6_isOn_32 : decode cX6_isOn 32 = .ok (.iload_n 1, 1) := by decide +kernel
theorem dX6_isOn_33 : decode cX6_isOn 33 = .ok (.iadd, 1) := by decide +kernel
theorem dX6_isOn_34 : decode cX6_isOn 34 = .ok (.baload, 1) := by decide +kernel
theorem dX6_isOn_35 : decode cX6_isOn 35 = .ok (.ifCond .eq 7, 3) := by decide +kernel
theorem dX6_isOn_38 : decode cX6_isOn 38 = .ok (.iconst 1, 1) := by decide +kernel
theorem dX6_isOn_39 : decode cX6_isOn 39 = .ok (.goto 4, 3) := by decide +kernel
theorem dX6_isOn_42 : decode cX6_isOn 42 = .ok (.iconst 0, 1) := by decide +kernel
theorem dX6_isOn_43 : decode cX6_isOn 43 = .ok (.ireturn, 1) := by decide +kernel
theorem dX6_isSample_0 : decode cX6_isSample 0 = .ok (.iload_n 1, 1) := by decide +kernel
theorem dX6_isSample_1 : decode cX6_isSample 1 = .ok (.ifCond .lt 27, 3) := by decide +kernel
theorem dX6_isSample_4 : decode cX6_isSample 4 = .ok (.iload_n 1, 1) := by decide +kernel
theorem dX6_isSample_5 : decode cX6_isSample 5 = .ok (.aload_n 0, 1) := by decide +kernel
theorem dX6_isSample_6 : decode cX6_isSample 6 = .ok (.getfield 26, 3) := by decide +kernel
theorem dX6_isSample_9 : decode cX6_isSample 9 = .ok (.if_icmp .ge 19, 3) := by decide +kernel
theorem dX6_isSample_12 : decode cX6_isSample 12 = .ok (.iload_n 2, 1) := by decide +kernel
theorem dX6_isSample_13 : decode cX6_isSample 13 = .ok (.ifCond .lt 15, 3) := by decide +kernel
theorem dX6_isSample_16 : decode cX6_isSample 16 = .ok (.iload_n 2, 1) := by decide +kernel
theorem dX6_isSample_17 : decode cX6_isSample 17 = .ok (.aload_n 0, 1) := by decide +kernel
theorem dX6_isSample_18 : decode cX6_isSample 18 = .ok (.getfield 30, 3) := by decide +kernel
theorem dX6_isSample_21 : decode cX6_isSample 21 = .ok (.if_icmp .ge 7, 3) := by decide +kernel
theorem dX6_isSample_24 : decode cX6_isSample 24 = .ok (.iconst 1, 1) := by decide +kernel
theorem dX6_isSample_25 : decode cX6_isSample 25 = .ok (.goto 4, 3) := by decide +kernel
theorem dX6_isSample_28 : decode cX6_isSample 28 = .ok (.iconst 0, 1) := by decide +kernel
theorem dX6_isSample_29 : decode cX6_isSample 29 = .ok (.ireturn, 1) := by decide +kernel
theorem dX6_countOn_0 : decode cX6_countOn 0 = .ok (.iconst 0, 1) := by decide +kernel
theorem dX6_countOn_1 : decode cX6_countOn 1 = .ok (.istore_n 1, 1) := by decide +kernel
theorem dX6_countOn_2 : decode cX6_countOn 2 = .ok (.iconst 0, 1) := by decide +kernel
theorem dX6_countOn_3 : decode cX6_countOn 3 = .ok (.istore_n 2, 1) := by decide +kernel
theorem dX6_countOn_4 : decode cX6_countOn 4 = .ok (.iload_n 2, 1) := by decide +kernel
theorem dX6_countOn_5 : decode cX6_countOn 5 = .ok (.sipush 576, 3) := by decide +kernel
theorem dX6_countOn_8 : decode cX6_countOn 8 = .ok (.if_icmp .ge 26, 3) := by decide +kernel
theorem dX6_countOn_11 : decode cX6_countOn 11 = .ok (.iload_n 1, 1) := by decide +kernel
theorem dX6_countOn_12 : decode cX6_countOn 12 = .ok (.aload_n 0, 1) := by decide +kernel
theorem dX6_countOn_13 : decode cX6_countOn 13 = .ok (.getfield 7, 3) := by decide +kernel
theorem dX6_countOn_16 : decode cX6_countOn 16 = .ok (.iload_n 2, 1) := by decide +kernel
theorem dX6_countOn_17 : decode cX6_countOn 17 = .ok (.baload, 1) := by decide +kernel
theorem dX6_countOn_18 : decode cX6_countOn 18 = .ok (.ifCond .eq 7, 3) := by decide +kernel
theorem dX6_countOn_21 : decode cX6_countOn 21 = .ok (.iconst 1, 1) := by decide +kernel
theorem dX6_countOn_22 : decode cX6_countOn 22 = .ok (.goto 4, 3) := by decide +kernel
theorem dX6_countOn_25 : decode cX6_countOn 25 = .ok (.iconst 0, 1) := by decide +kernel
theorem dX6_countOn_26 : decode cX6_countOn 26 = .ok (.iadd, 1) := by decide +kernel
theorem dX6_countOn_27 : decode cX6_countOn 27 = .ok (.istore_n 1, 1) := by decide +kernel
theorem dX6_countOn_28 : decode cX6_countOn 28 = .ok (.iinc 2 1, 3) := by decide +kernel
theorem dX6_countOn_31 : decode cX6_countOn 31 = .ok (.goto (-27), 3) := by decide +kernel
theorem dX6_countOn_34 : decode cX6_countOn 34 = .ok (.iload_n 1, 1) := by decide +kernel
theorem dX6_countOn_35 : decode cX6_countOn 35 = .ok (.ireturn, 1) := by decide +kernel
theorem dX6_wholeOf_0 : decode cX6_wholeOf 0 = .ok (.dload_n 0, 1) := by decide +kernel
theorem dX6_wholeOf_1 : decode cX6_wholeOf 1 = .ok (.ldc2_w 43, 3) := by decide +kernel
theorem dX6_wholeOf_4 : decode cX6_wholeOf 4 = .ok (.dadd, 1) := by decide +kernel
theorem dX6_wholeOf_5 : decode cX6_wholeOf 5 = .ok (.dstore_n 2, 1) := by decide +kernel
theorem dX6_wholeOf_6 : decode cX6_wholeOf 6 = .ok (.dload_n 2, 1) := by decide +kernel
theorem dX6_wholeOf_7 : decode cX6_wholeOf 7 = .ok (.d2i, 1) := by decide +kernel
theorem dX6_wholeOf_8 : decode cX6_wholeOf 8 = .ok (.istore 4, 2) := by decide +kernel
theorem dX6_wholeOf_10 : decode cX6_wholeOf 10 = .ok (.iload 4, 2) := by decide +kernel
theorem dX6_wholeOf_12 : decode cX6_wholeOf 12 = .ok (.i2d, 1) := by decide +kernel
theorem dX6_wholeOf_13 : decode cX6_wholeOf 13 = .ok (.dload_n 2, 1) := by decide +kernel
theorem dX6_wholeOf_14 : decode cX6_wholeOf 14 = .ok (.dcmp .l, 1) := by decide +kernel
theorem dX6_wholeOf_15 : decode cX6_wholeOf 15 = .ok (.ifCond .le 10, 3) := by decide +kernel
theorem dX6_wholeOf_18 : decode cX6_wholeOf 18 = .ok (.iload 4, 2) := by decide +kernel
theorem dX6_wholeOf_20 : decode cX6_wholeOf 20 = .ok (.iconst 1, 1) := by decide +kernel
theorem dX6_wholeOf_21 : decode cX6_wholeOf 21 = .ok (.isub, 1) := by decide +kernel
theorem dX6_wholeOf_22 : decode cX6_wholeOf 22 = .ok (.goto 5, 3) := by decide +kernel
theorem dX6_wholeOf_25 : decode cX6_wholeOf 25 = .ok (.iload 4, 2) := by decide +kernel
theorem dX6_wholeOf_27 : decode cX6_wholeOf 27 = .ok (.ireturn, 1) := by decide +kernel
theorem dX6_radians_0 : decode cX6_radians 0 = .ok (.dload_n 0, 1) := by decide +kernel
theorem dX6_radians_1 : decode cX6_radians 1 = .ok (.ldc2_w 45, 3) := by decide +kernel
theorem dX6_radians_4 : decode cX6_radians 4 = .ok (.dmul, 1) := by decide +kernel
theorem dX6_radians_5 : decode cX6_radians 5 = .ok (.ldc2_w 47, 3) := by decide +kernel
theorem dX6_radians_8 : decode cX6_radians 8 = .ok (.ddiv, 1) := by decide +kernel
theorem dX6_radians_9 : decode cX6_radians 9 = .ok (.dreturn, 1) := by decide +kernel
set_option maxRecDepth 20000 in
theorem ggX6_slope_X6_radians : GoodIn wsX6_slope wsX6_radians := goodIn_r _ [7, 8, 9] (by decide +kernel) (by decide +kernel)
set_option maxRecDepth 20000 in
theorem gX6_slope_X6_radians : GoodIn wsX6_slope (va_wsS RX6 49 yX6_radians wsX6_radians) := goodIn_app (goodIn_of _ (by decide +kernel)) ggX6_slope_X6_radians
theorem dX6_slope_0 : decode cX6_slope 0 = .ok (.dload_n 0, 1) := by decide +kernel
theorem dX6_slope_1 : decode cX6_slope 1 = .ok (.invokestatic 49, 3) := by decide +kernel
theorem dX6_slope_4 : decode cX6_slope 4 = .ok (.dstore_n 2, 1) := by decide +kernel
theorem dX6_slope_5 : decode cX6_slope 5 = .ok (.dload_n 2, 1) := by decide +kernel
theorem dX6_slope_6 : decode cX6_slope 6 = .ok (.dload_n 2, 1) := by decide +kernel
theorem dX6_slope_7 : decode cX6_slope 7 = .ok (.dmul, 1) := by decide +kernel
theorem dX6_slope_8 : decode cX6_slope 8 = .ok (.dstore 4, 2) := by decide +kernel
theorem dX6_slope_10 : decode cX6_slope 10 = .ok (.dload_n 2, 1) := by decide +kernel
theorem dX6_slope_11 : decode cX6_slope 11 = .ok (.dconst 1, 1) := by decide +kernel
theorem dX6_slope_12 : decode cX6_slope 12 = .ok (.dload 4, 2) := by decide +kernel
theorem dX6_slope_14 : decode cX6_slope 14 = .ok (.ldc2_w 53, 3) := by decide +kernel
theorem dX6_slope_17 : decode cX6_slope 17 = .ok (.dload 4, 2) := by decide +kernel
theorem dX6_slope_19 : decode cX6_slope 19 = .ok (.ldc2_w 55, 3) := by decide +kernel
theorem dX6_slope_22 : decode cX6_slope 22 = .ok (.dload 4, 2) := by decide +kernel
theorem dX6_slope_24 : decode cX6_slope 24 = .ok (.ldc2_w 57, 3) := by decide +kernel
theorem dX6_slope_27 : decode cX6_slope 27 = .ok (.dmul, 1) := by decide +kernel
theorem dX6_slope_28 : decode cX6_slope 28 = .ok (.dadd, 1) := by decide +kernel
theorem dX6_slope_29 : decode cX6_slope 29 = .ok (.dmul, 1) := by decide +kernel
theorem dX6_slope_30 : decode cX6_slope 30 = .ok (.dadd, 1) := by decide +kernel
theorem dX6_slope_31 : decode cX6_slope 31 = .ok (.dmul, 1) := by decide +kernel
theorem dX6_slope_32 : decode cX6_slope 32 = .ok (.dadd, 1) := by decide +kernel
theorem dX6_slope_33 : decode cX6_slope 33 = .ok (.dmul, 1) := by decide +kernel
theorem dX6_slope_34 : decode cX6_slope 34 = .ok (.dreturn, 1) := by decide +kernel
set_option maxRecDepth 20000 in
theorem ggX6_sine_X6_radians : GoodIn wsX6_sine wsX6_radians := goodIn_r _ [7, 8, 9] (by decide +kernel) (by decide +kernel)
set_option maxRecDepth 20000 in
theorem gX6_sine_X6_radians : GoodIn wsX6_sine (va_wsS RX6 49 yX6_radians wsX6_radians) := goodIn_app (goodIn_of _ (by decide +kernel)) ggX6_sine_X6_radians
theorem dX6_sine_0 : decode cX6_sine 0 = .ok (.dload_n 0, 1) := by decide +kernel
theorem dX6_sine_1 : decode cX6_sine 1 = .ok (.invokestatic 49, 3) := by decide +kernel
theorem dX6_sine_4 : decode cX6_sine 4 = .ok (.dstore_n 2, 1) := by decide +kernel
theorem dX6_sine_5 : decode cX6_sine 5 = .ok (.dload_n 2, 1) := by decide +kernel
theorem dX6_sine_6 : decode cX6_sine 6 = .ok (.dload_n 2, 1) := by decide +kernel
theorem dX6_sine_7 : decode cX6_sine 7 = .ok (.dmul, 1) := by decide +kernel
theorem dX6_sine_8 : decode cX6_sine 8 = .ok (.dstore 4, 2) := by decide +kernel
theorem dX6_sine_10 : decode cX6_sine 10 = .ok (.dload_n 2, 1) := by decide +kernel
theorem dX6_sine_11 : decode cX6_sine 11 = .ok (.dconst 1, 1) := by decide +kernel
theorem dX6_sine_12 : decode cX6_sine 12 = .ok (.dload 4, 2) := by decide +kernel
theorem dX6_sine_14 : decode cX6_sine 14 = .ok (.ldc2_w 59, 3) := by decide +kernel
theorem dX6_sine_17 : decode cX6_sine 17 = .ok (.dload 4, 2) := by decide +kernel
theorem dX6_sine_19 : decode cX6_sine 19 = .ok (.ldc2_w 61, 3) := by decide +kernel
theorem dX6_sine_22 : decode cX6_sine 22 = .ok (.dload 4, 2) := by decide +kernel
theorem dX6_sine_24 : decode cX6_sine 24 = .ok (.ldc2_w 63, 3) := by decide +kernel
theorem dX6_sine_27 : decode cX6_sine 27 = .ok (.dmul, 1) := by decide +kernel
theorem dX6_sine_28 : decode cX6_sine 28 = .ok (.dadd, 1) := by decide +kernel
theorem dX6_sine_29 : decode cX6_sine 29 = .ok (.dmul, 1) := by decide +kernel
theorem dX6_sine_30 : decode cX6_sine 30 = .ok (.dadd, 1) := by decide +kernel
theorem dX6_sine_31 : decode cX6_sine 31 = .ok (.dmul, 1) := by decide +kernel
theorem dX6_sine_32 : decode cX6_sine 32 = .ok (.dadd, 1) := by decide +kernel
theorem dX6_sine_33 : decode cX6_sine 33 = .ok (.dmul, 1) := by decide +kernel
theorem dX6_sine_34 : decode cX6_sine 34 = .ok (.dreturn, 1) := by decide +kernel
set_option maxRecDepth 20000 in
theorem ggX6_cosine_X6_radians : GoodIn wsX6_cosine wsX6_radians := goodIn_r _ [7, 8, 9] (by decide +kernel) (by decide +kernel)
set_option maxRecDepth 20000 in
theorem gX6_cosine_X6_radians : GoodIn wsX6_cosine (va_wsS RX6 49 yX6_radians wsX6_radians) := goodIn_app (goodIn_of _ (by decide +kernel)) ggX6_cosine_X6_radians
theorem dX6_cosine_0 : decode cX6_cosine 0 = .ok (.dload_n 0, 1) := by decide +kernel
theorem dX6_cosine_1 : decode cX6_cosine 1 = .ok (.invokestatic 49, 3) := by decide +kernel
theorem dX6_cosine_4 : decode cX6_cosine 4 = .ok (.dstore_n 2, 1) := by decide +kernel
theorem dX6_cosine_5 : decode cX6_cosine 5 = .ok (.dload_n 2, 1) := by decide +kernel
theorem dX6_cosine_6 : decode cX6_cosine 6 = .ok (.dload_n 2, 1) := by decide +kernel
theorem dX6_cosine_7 : decode cX6_cosine 7 = .ok (.dmul, 1) := by decide +kernel
theorem dX6_cosine_8 : decode cX6_cosine 8 = .ok (.dstore 4, 2) := by decide +kernel
theorem dX6_cosine_10 : decode cX6_cosine 10 = .ok (.dconst 1, 1) := by decide +kernel
theorem dX6_cosine_11 : decode cX6_cosine 11 = .ok (.dload 4, 2) := by decide +kernel
theorem dX6_cosine_13 : decode cX6_cosine 13 = .ok (.ldc2_w 65, 3) := by decide +kernel
theorem dX6_cosine_16 : decode cX6_cosine 16 = .ok (.dload 4, 2) := by decide +kernel
theorem dX6_cosine_18 : decode cX6_cosine 18 = .ok (.ldc2_w 67, 3) := by decide +kernel
theorem dX6_cosine_21 : decode cX6_cosine 21 = .ok (.dload 4, 2) := by decide +kernel
theorem dX6_cosine_23 : decode cX6_cosine 23 = .ok (.ldc2_w 69, 3) := by decide +kernel
theorem dX6_cosine_26 : decode cX6_cosine 26 = .ok (.dmul, 1) := by decide +kernel
theorem dX6_cosine_27 : decode cX6_cosine 27 = .ok (.dadd, 1) := by decide +kernel
theorem dX6_cosine_28 : decode cX6_cosine 28 = .ok (.dmul, 1) := by decide +kernel
theorem dX6_cosine_29 : decode cX6_cosine 29 = .ok (.dadd, 1) := by decide +kernel
theorem dX6_cosine_30 : decode cX6_cosine 30 = .ok (.dmul, 1) := by decide +kernel
theorem dX6_cosine_31 : decode cX6_cosine 31 = .ok (.dadd, 1) := by decide +kernel
theorem dX6_cosine_32 : decode cX6_cosine 32 = .ok (.dreturn, 1) := by decide +kernel
set_option maxRecDepth 20000 in
theorem ggX6_put_X6_isSample : GoodIn wsX6_put wsX6_isSample := goodIn_r _ [7, 1, 8, 20, 21, 22, 23, 24, 25, 26, 27, 28, 29, 30, 31, 32, 33] (by decide +kernel) (by decide +kernel)
set_option maxRecDepth 20000 in
theorem gX6_put_X6_isSample : GoodIn wsX6_put (wsV RX6 71 RX6 yX6_isSample wsX6_isSample) := goodIn_app (goodIn_of _ (by decide +kernel)) ggX6_put_X6_isSample
set_option maxRecDepth 20000 in
theorem ggX6_put_X6_refuses : GoodIn wsX6_put wsX6_refuses := goodIn_r _ [12, 13, 20, 21, 22, 23, 24, 25, 26, 27, 28, 29, 30, 31, 32, 33] (by decide +kernel) (by decide +kernel)
set_option maxRecDepth 20000 in
theorem gX6_put_X6_refuses : GoodIn wsX6_put (wsV RX6 75 RX6 yX6_refuses wsX6_refuses) := goodIn_app (goodIn_of _ (by decide +kernel)) ggX6_put_X6_refuses
set_option maxRecDepth 20000 in
theorem ggX6_put_X6_whole : GoodIn wsX6_put wsX6_whole := goodIn_r _ [17, 18, 1, 8, 19, 20, 21, 22, 23, 24, 25, 26, 27, 28, 29, 30, 31, 32, 33] (by decide +kernel) (by decide +kernel)
set_option maxRecDepth 20000 in
theorem gX6_put_X6_whole : GoodIn wsX6_put (wsV RX6 33 RX6 yX6_whole wsX6_whole) := goodIn_app (goodIn_of _ (by decide +kernel)) ggX6_put_X6_whole
theorem dX6_put_0 : decode cX6_put 0 = .ok (.aload_n 0, 1) := by decide +kernel
theorem dX6_put_1 : decode cX6_put 1 = .ok (.aload_n 0, 1) := by decide +kernel
theorem dX6_put_2 : decode cX6_put 2 = .ok (.iload_n 1, 1) := by decide +kernel
theorem dX6_put_3 : decode cX6_put 3 = .ok (.iload_n 2, 1) := by decide +kernel
theorem dX6_put_4 : decode cX6_put 4 = .ok (.invokevirtual 71, 3) := by decide +kernel
theorem dX6_put_7 : decode cX6_put 7 = .ok (.ifCond .ne 7, 3) := by decide +kernel
theorem dX6_put_10 : decode cX6_put 10 = .ok (.iconst 1, 1) := by decide +kernel
theorem dX6_put_11 : decode cX6_put 11 = .ok (.goto 13, 3) := by decide +kernel
theorem dX6_put_14 : decode cX6_put 14 = .ok (.iload_n 3, 1) := by decide +kernel
theorem dX6_put_15 : decode cX6_put 15 = .ok (.iconst 1, 1) := by decide +kernel
theorem dX6_put_16 : decode cX6_put 16 = .ok (.if_icmp .ge 7, 3) := by decide +kernel
theorem dX6_put_19 : decode cX6_put 19 = .ok (.iconst 2, 1) := by decide +kernel
theorem dX6_put_20 : decode cX6_put 20 = .ok (.goto 4, 3) := by decide +kernel
theorem dX6_put_23 : decode cX6_put 23 = .ok (.iconst 0, 1) := by decide +kernel
theorem dX6_put_24 : decode cX6_put 24 = .ok (.invokevirtual 75, 3) := by decide +kernel
theorem dX6_put_27 : decode cX6_put 27 = .ok (.ifCond .eq 5, 3) := by decide +kernel
theorem dX6_put_30 : decode cX6_put 30 = .ok (.iconst 0, 1) := by decide +kernel
theorem dX6_put_31 : decode cX6_put 31 = .ok (.ireturn, 1) := by decide +kernel
theorem dX6_put_32 : decode cX6_put 32 = .ok (.iconst 0, 1) := by decide +kernel
theorem dX6_put_33 : decode cX6_put 33 = .ok (.istore 5, 2) := by decide +kernel
theorem dX6_put_35 : decode cX6_put 35 = .ok (.iload_n 1, 1) := by decide +kernel
theorem dX6_put_36 : decode cX6_put 36 = .ok (.istore 6, 2) := by decide +kernel
theorem dX6_put_38 : decode cX6_put 38 = .ok (.iload 6, 2) := by decide +kernel
theorem dX6_put_40 : decode cX6_put 40 = .ok (.aload_n 0, 1) := by decide +kernel
theorem dX6_put_41 : decode cX6_put 41 = .ok (.getfield 26, 3) := by decide +kernel
theorem dX6_put_44 : decode cX6_put 44 = .ok (.if_icmp .ge 58, 3) := by decide +kernel
theorem dX6_put_47 : decode cX6_put 47 = .ok (.iload 6, 2) := by decide +kernel
theorem dX6_put_49 : decode cX6_put 49 = .ok (.iload_n 1, 1) := by decide +kernel
theorem dX6_put_50 : decode cX6_put 50 = .ok (.isub, 1) := by decide +kernel
theorem dX6_put_51 : decode cX6_put 51 = .ok (.iload_n 3, 1) := by decide +kernel
theorem dX6_put_52 : decode cX6_put 52 = .ok (.if_icmp .ge 50, 3) := by decide +kernel
theorem dX6_put_55 : decode cX6_put 55 = .ok (.iload 5, 2) := by decide +kernel
theorem dX6_put_57 : decode cX6_put 57 = .ok (.aload_n 0, 1) := by decide +kernel
theorem dX6_put_58 : decode cX6_put 58 = .ok (.getfield 7, 3) := by decide +kernel
theorem dX6_put_61 : decode cX6_put 61 = .ok (.bipush 24, 2) := by decide +kernel
theorem dX6_put_63 : decode cX6_put 63 = .ok (.iload_n 2, 1) := by decide +kernel
theorem dX6_put_64 : decode cX6_put 64 = .ok (.imul, 1) := by decide +kernel
theorem dX6_put_65 : decode cX6_put 65 = .ok (.iload 6, 2) := by decide +kernel
theorem dX6_put_67 : decode cX6_put 67 = .ok (.iadd, 1) := by decide +kernel
theorem dX6_put_68 : decode cX6_put 68 = .ok (.baload, 1) := by decide +kernel
theorem dX6_put_69 : decode cX6_put 69 = .ok (.iload 4, 2) := by decide +kernel
theorem dX6_put_71 : decode cX6_put 71 = .ok (.if_icmp .eq 7, 3) := by decide +kernel
theorem dX6_put_74 : decode cX6_put 74 = .ok (.iconst 1, 1) := by decide +kernel
theorem dX6_put_75 : decode cX6_put 75 = .ok (.goto 4, 3) := by decide +kernel
theorem dX6_put_78 : decode cX6_put 78 = .ok (.iconst 0, 1) := by decide +kernel
theorem dX6_put_79 : decode cX6_put 79 = .ok (.iadd, 1) := by decide +kernel
theorem dX6_put_80 : decode cX6_put 80 = .ok (.istore 5, 2) := by decide +kernel
theorem dX6_put_82 : decode cX6_put 82 = .ok (.aload_n 0, 1) := by decide +kernel
theorem dX6_put_83 : decode cX6_put 83 = .ok (.getfield 7, 3) := by decide +kernel
theorem dX6_put_86 : decode cX6_put 86 = .ok (.bipush 24, 2) := by decide +kernel
theorem dX6_put_88 : decode cX6_put 88 = .ok (.iload_n 2, 1) := by decide +kernel
theorem dX6_put_89 : decode cX6_put 89 = .ok (.imul, 1) := by decide +kernel
theorem dX6_put_90 : decode cX6_put 90 = .ok (.iload 6, 2) := by decide +kernel
theorem dX6_put_92 : decode cX6_put 92 = .ok (.iadd, 1) := by decide +kernel
theorem dX6_put_93 : decode cX6_put 93 = .ok (.iload 4, 2) := by decide +kernel
theorem dX6_put_95 : decode cX6_put 95 = .ok (.bastore, 1) := by decide +kernel
theorem dX6_put_96 : decode cX6_put 96 = .ok (.iinc 6 1, 3) := by decide +kernel
theorem dX6_put_99 : decode cX6_put 99 = .ok (.goto (-61), 3) := by decide +kernel
theorem dX6_put_102 : decode cX6_put 102 = .ok (.iload 5, 2) := by decide +kernel
theorem dX6_put_104 : decode cX6_put 104 = .ok (.ifCond .le 7, 3) := by decide +kernel
theorem dX6_put_107 : decode cX6_put 107 = .ok (.aload_n 0, 1) := by decide +kernel
theorem dX6_put_108 : decode cX6_put 108 = .ok (.invokevirtual 33, 3) := by decide +kernel
theorem dX6_put_111 : decode cX6_put 111 = .ok (.iload 5, 2) := by decide +kernel
theorem dX6_put_113 : decode cX6_put 113 = .ok (.ireturn, 1) := by decide +kernel
set_option maxRecDepth 20000 in
theorem ggX6_at_X6_isSample : GoodIn wsX6_at wsX6_isSample := goodIn_r _ [5, 6, 7, 18, 19, 20, 21, 22, 23, 24, 25, 26, 27, 28, 29, 30, 31] (by decide +kernel) (by decide +kernel)
set_option maxRecDepth 20000 in
theorem gX6_at_X6_isSample : GoodIn wsX6_at (wsV RX6 71 RX6 yX6_isSample wsX6_isSample) := goodIn_app (goodIn_of _ (by decide +kernel)) ggX6_at_X6_isSample
set_option maxRecDepth 20000 in
theorem ggX6_at_X6_refuses : GoodIn wsX6_at wsX6_refuses := goodIn_r _ [11, 12, 18, 19, 20, 21, 22, 23, 24, 25, 26, 27, 28, 29, 30, 31] (by decide +kernel) (by decide +kernel)
set_option maxRecDepth 20000 in
theorem gX6_at_X6_refuses : GoodIn wsX6_at (wsV RX6 75 RX6 yX6_refuses wsX6_refuses) := goodIn_app (goodIn_of _ (by decide +kernel)) ggX6_at_X6_refuses
set_option maxRecDepth 20000 in
theorem ggX6_at_X6_isOn : GoodIn wsX6_at wsX6_isOn := goodIn_r _ [16, 6, 7, 17, 18, 19, 20, 21, 22, 23, 24, 25, 26, 27, 28, 29, 30, 31] (by decide +kernel) (by decide +kernel)
set_option maxRecDepth 20000 in
theorem gX6_at_X6_isOn : GoodIn wsX6_at (wsV RX6 79 RX6 yX6_isOn wsX6_isOn) := goodIn_app (goodIn_of _ (by decide +kernel)) ggX6_at_X6_isOn
theorem dX6_at_0 : decode cX6_at 0 = .ok (.aload_n 0, 1) := by decide +kernel
theorem dX6_at_1 : decode cX6_at 1 = .ok (.aload_n 0, 1) := by decide +kernel
theorem dX6_at_2 : decode cX6_at 2 = .ok (.iload_n 1, 1) := by decide +kernel
theorem dX6_at_3 : decode cX6_at 3 = .ok (.iload_n 2, 1) := by decide +kernel
theorem dX6_at_4 : decode cX6_at 4 = .ok (.invokevirtual 71, 3) := by decide +kernel
theorem dX6_at_7 : decode cX6_at 7 = .ok (.ifCond .eq 7, 3) := by decide +kernel
theorem dX6_at_10 : decode cX6_at 10 = .ok (.iconst 0, 1) := by decide +kernel
theorem dX6_at_11 : decode cX6_at 11 = .ok (.goto 4, 3) := by decide +kernel
theorem dX6_at_14 : decode cX6_at 14 = .ok (.iconst 1, 1) := by decide +kernel
theorem dX6_at_15 : decode cX6_at 15 = .ok (.invokevirtual 75, 3) := by decide +kernel
theorem dX6_at_18 : decode cX6_at 18 = .ok (.ifCond .ne 16, 3) := by decide +kernel
theorem dX6_at_21 : decode cX6_at 21 = .ok (.aload_n 0, 1) := by decide +kernel
theorem dX6_at_22 : decode cX6_at 22 = .ok (.iload_n 1, 1) := by decide +kernel
theorem dX6_at_23 : decode cX6_at 23 = .ok (.iload_n 2, 1) := by decide +kernel
theorem dX6_at_24 : decode cX6_at 24 = .ok (.invokevirtual 79, 3) := by decide +kernel
theorem dX6_at_27 : decode cX6_at 27 = .ok (.ifCond .eq 7, 3) := by decide +kernel
theorem dX6_at_30 : decode cX6_at 30 = .ok (.iconst 1, 1) := by decide +kernel
theorem dX6_at_31 : decode cX6_at 31 = .ok (.goto 4, 3) := by decide +kernel
theorem dX6_at_34 : decode cX6_at 34 = .ok (.iconst 0, 1) := by decide +kernel
theorem dX6_at_35 : decode cX6_at 35 = .ok (.ireturn, 1) := by decide +kernel
set_option maxRecDepth 20000 in
theorem ggX6_isEnd_X6_isOn : GoodIn wsX6_isEnd wsX6_isOn := goodIn_r _ [5, 6, 7, 8, 9, 10, 11, 12, 13, 14, 15, 16, 17, 18, 19, 20, 21, 22] (by decide +kernel) (by decide +kernel)
set_option maxRecDepth 20000 in
theorem gX6_isEnd_X6_isOn : GoodIn wsX6_isEnd (wsV RX6 79 RX6 yX6_isOn wsX6_isOn) := goodIn_app (goodIn_of _ (by decide +kernel)) ggX6_isEnd_X6_isOn
theorem dX6_isEnd_0 : decode cX6_isEnd 0 = .ok (.aload_n 0, 1) := by decide +kernel
theorem dX6_isEnd_1 : decode cX6_isEnd 1 = .ok (.iload_n 1, 1) := by decide +kernel
theorem dX6_isEnd_2 : decode cX6_isEnd 2 = .ok (.iload_n 2, 1) := by decide +kernel
theorem dX6_isEnd_3 : decode cX6_isEnd 3 = .ok (.invokevirtual 79, 3) := by decide +kernel
theorem dX6_isEnd_6 : decode cX6_isEnd 6 = .ok (.ifCond .eq 18, 3) := by decide +kernel
theorem dX6_isEnd_9 : decode cX6_isEnd 9 = .ok (.aload_n 0, 1) := by decide +kernel
theorem dX6_isEnd_10 : decode cX6_isEnd 10 = .ok (.iload_n 1, 1) := by decide +kernel
theorem dX6_isEnd_11 : decode cX6_isEnd 11 = .ok (.iconst 1, 1) := by decide +kernel
theorem dX6_isEnd_12 : decode cX6_isEnd 12 = .ok (.iadd, 1) := by decide +kernel
theorem dX6_isEnd_13 : decode cX6_isEnd 13 = .ok (.iload_n 2, 1) := by decide +kernel
theorem dX6_isEnd_14 : decode cX6_isEnd 14 = .ok (.invokevirtual 79, 3) := by decide +kernel
theorem dX6_isEnd_17 : decode cX6_isEnd 17 = .ok (.ifCond .ne 7, 3) := by decide +kernel
theorem dX6_isEnd_20 : decode cX6_isEnd 20 = .ok (.iconst 1, 1) := by decide +kernel
theorem dX6_isEnd_21 : decode cX6_isEnd 21 = .ok (.goto 4, 3) := by decide +kernel
theorem dX6_isEnd_24 : decode cX6_isEnd 24 = .ok (.iconst 0, 1) := by decide +kernel
theorem dX6_isEnd_25 : decode cX6_isEnd 25 = .ok (.ireturn, 1) := by decide +kernel
set_option maxRecDepth 20000 in
theorem ggX6_countEnds_X6_isEnd : GoodIn wsX6_countEnds wsX6_isEnd := goodIn_r _ [7, 8, 9, 10, 6, 11, 2, 1, 12, 13, 14, 15, 16, 17, 18, 19, 20, 21, 22, 23, 24, 25, 26] (by decide +kernel) (by decide +kernel)
set_option maxRecDepth 20000 in
theorem gX6_countEnds_X6_isEnd : GoodIn wsX6_countEnds (wsV RX6 82 RX6 yX6_isEnd wsX6_isEnd) := goodIn_app (goodIn_of _ (by decide +kernel)) ggX6_countEnds_X6_isEnd
theorem dX6_countEnds_0 : decode cX6_countEnds 0 = .ok (.iconst 0, 1) := by decide +kernel
theorem dX6_countEnds_1 : decode cX6_countEnds 1 = .ok (.istore_n 1, 1) := by decide +kernel
theorem dX6_countEnds_2 : decode cX6_countEnds 2 = .ok (.iconst 0, 1) := by decide +kernel
theorem dX6_countEnds_3 : decode cX6_countEnds 3 = .ok (.istore_n 2, 1) := by decide +kernel
theorem dX6_countEnds_4 : decode cX6_countEnds 4 = .ok (.iload_n 2, 1) := by decide +kernel
theorem dX6_countEnds_5 : decode cX6_countEnds 5 = .ok (.aload_n 0, 1) := by decide +kernel
theorem dX6_countEnds_6 : decode cX6_countEnds 6 = .ok (.getfield 30, 3) := by decide +kernel
theorem dX6_countEnds_9 : decode cX6_countEnds 9 = .ok (.if_icmp .ge 42, 3) := by decide +kernel
theorem dX6_countEnds_12 : decode cX6_countEnds 12 = .ok (.iconst 0, 1) := by decide +kernel
theorem dX6_countEnds_13 : decode cX6_countEnds 13 = .ok (.istore_n 3, 1) := by decide +kernel
theorem dX6_countEnds_14 : decode cX6_countEnds 14 = .ok (.iload_n 3, 1) := by decide +kernel
theorem dX6_countEnds_15 : decode cX6_countEnds 15 = .ok (.aload_n 0, 1) := by decide +kernel
theorem dX6_countEnds_16 : decode cX6_countEnds 16 = .ok (.getfield 26, 3) := by decide +kernel
theorem dX6_countEnds_19 : decode cX6_countEnds 19 = .ok (.if_icmp .ge 26, 3) := by decide +kernel
theorem dX6_countEnds_22 : decode cX6_countEnds 22 = .ok (.iload_n 1, 1) := by decide +kernel
theorem dX6_countEnds_23 : decode cX6_countEnds 23 = .ok (.aload_n 0, 1) := by decide +kernel
theorem dX6_countEnds_24 : decode cX6_countEnds 24 = .ok (.iload_n 3, 1) := by decide +kernel
theorem dX6_countEnds_25 : decode cX6_countEnds 25 = .ok (.iload_n 2, 1) := by decide +kernel
theorem dX6_countEnds_26 : decode cX6_countEnds 26 = .ok (.invokevirtual 82, 3) := by decide +kernel
theorem dX6_countEnds_29 : decode cX6_countEnds 29 = .ok (.ifCond .eq 7, 3) := by decide +kernel
theorem dX6_countEnds_32 : decode cX6_countEnds 32 = .ok (.iconst 1, 1) := by decide +kernel
theorem dX6_countEnds_33 : decode cX6_countEnds 33 = .ok (.goto 4, 3) := by decide +kernel
theorem dX6_countEnds_36 : decode cX6_countEnds 36 = .ok (.iconst 0, 1) := by decide +kernel
theorem dX6_countEnds_37 : decode cX6_countEnds 37 = .ok (.iadd, 1) := by decide +kernel
theorem dX6_countEnds_38 : decode cX6_countEnds 38 = .ok (.istore_n 1, 1) := by decide +kernel
theorem dX6_countEnds_39 : decode cX6_countEnds 39 = .ok (.iinc 3 1, 3) := by decide +kernel
theorem dX6_countEnds_42 : decode cX6_countEnds 42 = .ok (.goto (-28), 3) := by decide +kernel
theorem dX6_countEnds_45 : decode cX6_countEnds 45 = .ok (.iinc 2 1, 3) := by decide +kernel
theorem dX6_countEnds_48 : decode cX6_countEnds 48 = .ok (.goto (-44), 3) := by decide +kernel
theorem dX6_countEnds_51 : decode cX6_countEnds 51 = .ok (.iload_n 1, 1) := by decide +kernel
theorem dX6_countEnds_52 : decode cX6_countEnds 52 = .ok (.ireturn, 1) := by decide +kernel
set_option maxRecDepth 20000 in
theorem ggX6_sumOf_X6_slope : GoodIn wsX6_sumOf wsX6_slope := goodIn_r _ [7, 8, 9, 10, 11, 12, 6, 13, 14, 15] (by decide +kernel) (by decide +kernel)
set_option maxRecDepth 20000 in
theorem gX6_sumOf_X6_slope : GoodIn wsX6_sumOf (va_wsS RX6 85 yX6_slope wsX6_slope) := goodIn_app (goodIn_of _ (by decide +kernel)) ggX6_sumOf_X6_slope
set_option maxRecDepth 20000 in
theorem ggX6_sumOf_X6_countEnds : GoodIn wsX6_sumOf wsX6_countEnds := goodIn_r _ [19, 2, 3, 20, 21, 22, 6, 23, 24, 25, 26, 27, 28, 33, 34, 35, 36, 37, 38, 39, 40, 41, 42, 43, 44, 45, 46] (by decide +kernel) (by decide +kernel)
set_option maxRecDepth 20000 in
theorem gX6_sumOf_X6_countEnds : GoodIn wsX6_sumOf (wsV RX6 88 RX6 yX6_countEnds wsX6_countEnds) := goodIn_app (goodIn_of _ (by decide +kernel)) ggX6_sumOf_X6_countEnds
set_option maxRecDepth 20000 in
theorem ggX6_sumOf_X6_isEnd : GoodIn wsX6_sumOf wsX6_isEnd := goodIn_r _ [23, 24, 25, 26, 6, 27, 3, 2, 28, 33, 34, 35, 36, 37, 38, 39, 40, 41, 42, 43, 44, 45, 46] (by decide +kernel) (by decide +kernel)
set_option maxRecDepth 20000 in
theorem gX6_sumOf_X6_isEnd : GoodIn wsX6_sumOf (wsV RX6 82 RX6 yX6_isEnd wsX6_isEnd) := goodIn_app (goodIn_of _ (by decide +kernel)) ggX6_sumOf_X6_isEnd
set_option maxRecDepth 20000 in
theorem ggX6_sumOf_X6_wholeOf : GoodIn wsX6_sumOf wsX6_wholeOf := goodIn_r _ [31, 32] (by decide +kernel) (by decide +kernel)
set_option maxRecDepth 20000 in
theorem gX6_sumOf_X6_wholeOf : GoodIn wsX6_sumOf (va_wsS RX6 92 yX6_wholeOf wsX6_wholeOf) := goodIn_app (goodIn_of _ (by decide +kernel)) ggX6_sumOf_X6_wholeOf
theorem dX6_sumOf_0 : decode cX6_sumOf 0 = .ok (.iload_n 1, 1) := by decide +kernel
theorem dX6_sumOf_1 : decode cX6_sumOf 1 = .ok (.i2d, 1) := by decide +kernel
theorem dX6_sumOf_2 : decode cX6_sumOf 2 = .ok (.invokestatic 85, 3) := by decide +kernel
theorem dX6_sumOf_5 : decode cX6_sumOf 5 = .ok (.dstore_n 2, 1) := by decide +kernel
theorem dX6_sumOf_6 : decode cX6_sumOf 6 = .ok (.aload_n 0, 1) := by decide +kernel
theorem dX6_sumOf_7 : decode cX6_sumOf 7 = .ok (.invokevirtual 88, 3) := by decide +kernel
theorem dX6_sumOf_10 : decode cX6_sumOf 10 = .ok (.istore 4, 2) := by decide +kernel
theorem dX6_sumOf_12 : decode cX6_sumOf 12 = .ok (.iload 4, 2) := by decide +kernel
theorem dX6_sumOf_14 : decode cX6_sumOf 14 = .ok (.ifCond .ne 5, 3) := by decide +kernel
theorem dX6_sumOf_17 : decode cX6_sumOf 17 = .ok (.dconst 0, 1) := by decide +kernel
theorem dX6_sumOf_18 : decode cX6_sumOf 18 = .ok (.dreturn, 1) := by decide +kernel
theorem dX6_sumOf_19 : decode cX6_sumOf 19 = .ok (.iconst 0, 1) := by decide +kernel
theorem dX6_sumOf_20 : decode cX6_sumOf 20 = .ok (.istore 5, 2) := by decide +kernel
theorem dX6_sumOf_22 : decode cX6_sumOf 22 = .ok (.iload 5, 2) := by decide +kernel
theorem dX6_sumOf_24 : decode cX6_sumOf 24 = .ok (.bipush 104, 2) := by decide +kernel
theorem dX6_sumOf_26 : decode cX6_sumOf 26 = .ok (.if_icmp .ge 17, 3) := by decide +kernel
theorem dX6_sumOf_29 : decode cX6_sumOf 29 = .ok (.aload_n 0, 1) := by decide +kernel
theorem dX6_sumOf_30 : decode cX6_sumOf 30 = .ok (.getfield 23, 3) := by decide +kernel
theorem dX6_sumOf_33 : decode cX6_sumOf 33 = .ok (.iload 5, 2) := by decide +kernel
theorem dX6_sumOf_35 : decode cX6_sumOf 35 = .ok (.iconst 0, 1) := by decide +kernel
theorem dX6_sumOf_36 : decode cX6_sumOf 36 = .ok (.iastore, 1) := by decide +kernel
theorem dX6_sumOf_37 : decode cX6_sumOf 37 = .ok (.iinc 5 1, 3) := by decide +kernel
theorem dX6_sumOf_40 : decode cX6_sumOf 40 = .ok (.goto (-18), 3) := by decide +kernel
theorem dX6_sumOf_43 : decode cX6_sumOf 43 = .ok (.iconst 0, 1) := by decide +kernel
theorem dX6_sumOf_44 : decode cX6_sumOf 44 = .ok (.istore 5, 2) := by decide +kernel
theorem dX6_sumOf_46 : decode cX6_sumOf 46 = .ok (.iload 5, 2) := by decide +kernel
theorem dX6_sumOf_48 : decode cX6_sumOf 48 = .ok (.aload_n 0, 1) := by decide +kernel
theorem dX6_sumOf_49 : decode cX6_sumOf 49 = .ok (.getfield 30, 3) := by decide +kernel
theorem dX6_sumOf_52 : decode cX6_sumOf 52 = .ok (.if_icmp .ge 62, 3) := by decide +kernel
theorem dX6_sumOf_55 : decode cX6_sumOf 55 = .ok (.iconst 0, 1) := by decide +kernel
theorem dX6_sumOf_56 : decode cX6_sumOf 56 = .ok (.istore 6, 2) := by decide +kernel
theorem dX6_sumOf_58 : decode cX6_sumOf 58 = .ok (.iload 6, 2) := by decide +kernel
theorem dX6_sumOf_60 : decode cX6_sumOf 60 = .ok (.aload_n 0, 1) := by decide +kernel
theorem dX6_sumOf_61 : decode cX6_sumOf 61 = .ok (.getfield 26, 3) := by decide +kernel
theorem dX6_sumOf_64 : decode cX6_sumOf 64 = .ok (.if_icmp .ge 44, 3) := by decide +kernel
theorem dX6_sumOf_67 : decode cX6_sumOf 67 = .ok (.aload_n 0, 1) := by decide +kernel
theorem dX6_sumOf_68 : decode cX6_sumOf 68 = .ok (.iload 6, 2) := by decide +kernel
theorem dX6_sumOf_70 : decode cX6_sumOf 70 = .ok (.iload 5, 2) := by decide +kernel
theorem dX6_sumOf_72 : decode cX6_sumOf 72 = .ok (.invokevirtual 82, 3) := by decide +kernel
theorem dX6_sumOf_75 : decode cX6_sumOf 75 = .ok (.ifCond .eq 27, 3) := by decide +kernel
theorem dX6_sumOf_78 : decode cX6_sumOf 78 = .ok (.aload_n 0, 1) := by decide +kernel
theorem dX6_sumOf_79 : decode cX6_sumOf 79 = .ok (.getfield 23, 3) := by decide +kernel
theorem dX6_sumOf_82 : decode cX6_sumOf 82 = .ok (.iload 5, 2) := by decide +kernel
theorem dX6_sumOf_84 : decode cX6_sumOf 84 = .ok (.i2d, 1) := by decide +kernel
theorem dX6_sumOf_85 : decode cX6_sumOf 85 = .ok (.iload 6, 2) := by decide +kernel
theorem dX6_sumOf_87 : decode cX6_sumOf 87 = .ok (.i2d, 1) := by decide +kernel
theorem dX6_sumOf_88 : decode cX6_sumOf 88 = .ok (.dload_n 2, 1) := by decide +kernel
theorem dX6_sumOf_89 : decode cX6_sumOf 89 = .ok (.dmul, 1) := by decide +kernel
theorem dX6_sumOf_90 : decode cX6_sumOf 90 = .ok (.dsub, 1) := by decide +kernel
theorem dX6_sumOf_91 : decode cX6_sumOf 91 = .ok (.invokestatic 92, 3) := by decide +kernel
theorem dX6_sumOf_94 : decode cX6_sumOf 94 = .ok (.bipush 40, 2) := by decide +kernel
theorem dX6_sumOf_96 : decode cX6_sumOf 96 = .ok (.iadd, 1) := by decide +kernel
theorem dX6_sumOf_97 : decode cX6_sumOf 97 = .ok (.dup2, 1) := by decide +kernel
theorem dX6_sumOf_98 : decode cX6_sumOf 98 = .ok (.iaload, 1) := by decide +kernel
theorem dX6_sumOf_99 : decode cX6_sumOf 99 = .ok (.iconst 1, 1) := by decide +kernel
theorem dX6_sumOf_100 : decode cX6_sumOf 100 = .ok (.iadd, 1) := by decide +kernel
theorem dX6_sumOf_101 : decode cX6_sumOf 101 = .ok (.iastore, 1) := by decide +kernel
theorem dX6_sumOf_102 : decode cX6_sumOf 102 = .ok (.iinc 6 1, 3) := by decide +kernel
theorem dX6_sumOf_105 : decode cX6_sumOf 105 = .ok (.goto (-47), 3) := by decide +kernel
theorem dX6_sumOf_108 : decode cX6_sumOf 108 = .ok (.iinc 5 1, 3) := by decide +kernel
theorem dX6_sumOf_111 : decode cX6_sumOf 111 = .ok (.goto (-65), 3) := by decide +kernel
theorem dX6_sumOf_114 : decode cX6_sumOf 114 = .ok (.iconst 0, 1) := by decide +kernel
theorem dX6_sumOf_115 : decode cX6_sumOf 115 = .ok (.istore 5, 2) := by decide +kernel
theorem dX6_sumOf_117 : decode cX6_sumOf 117 = .ok (.iconst 0, 1) := by decide +kernel
theorem dX6_sumOf_118 : decode cX6_sumOf 118 = .ok (.istore 6, 2) := by decide +kernel
theorem dX6_sumOf_120 : decode cX6_sumOf 120 = .ok (.iload 6, 2) := by decide +kernel
theorem dX6_sumOf_122 : decode cX6_sumOf 122 = .ok (.bipush 104, 2) := by decide +kernel
theorem dX6_sumOf_124 : decode cX6_sumOf 124 = .ok (.if_icmp .ge 29, 3) := by decide +kernel
theorem dX6_sumOf_127 : decode cX6_sumOf 127 = .ok (.iload 5, 2) := by decide +kernel
theorem dX6_sumOf_129 : decode cX6_sumOf 129 = .ok (.aload_n 0, 1) := by decide +kernel
theorem dX6_sumOf_130 : decode cX6_sumOf 130 = .ok (.getfield 23, 3) := by decide +kernel
theorem dX6_sumOf_133 : decode cX6_sumOf 133 = .ok (.iload 6, 2) := by decide +kernel
theorem dX6_sumOf_135 : decode cX6_sumOf 135 = .ok (.iaload, 1) := by decide +kernel
theorem dX6_sumOf_136 : decode cX6_sumOf 136 = .ok (.aload_n 0, 1) := by decide +kernel
theorem dX6_sumOf_137 : decode cX6_sumOf 137 = .ok (.getfield 23, 3) := by decide +kernel
theorem dX6_sumOf_140 : decode cX6_sumOf 140 = .ok (.iload 6, 2) := by decide +kernel
theorem dX6_sumOf_142 : decode cX6_sumOf 142 = .ok (.iaload, 1) := by decide +kernel
theorem dX6_sumOf_143 : decode cX6_sumOf 143 = .ok (.imul, 1) := by decide +kernel
theorem dX6_sumOf_144 : decode cX6_sumOf 144 = .ok (.iadd, 1) := by decide +kernel
theorem dX6_sumOf_145 : decode cX6_sumOf 145 = .ok (.istore 5, 2) := by decide +kernel
theorem dX6_sumOf_147 : decode cX6_sumOf 147 = .ok (.iinc 6 1, 3) := by decide +kernel
theorem dX6_sumOf_150 : decode cX6_sumOf 150 = .ok (.goto (-30), 3) := by decide +kernel
theorem dX6_sumOf_153 : decode cX6_sumOf 153 = .ok (.iload 5, 2) := by decide +kernel
theorem dX6_sumOf_155 : decode cX6_sumOf 155 = .ok (.i2d, 1) := by decide +kernel
theorem dX6_sumOf_156 : decode cX6_sumOf 156 = .ok (.iload 4, 2) := by decide +kernel
theorem dX6_sumOf_158 : decode cX6_sumOf 158 = .ok (.i2d, 1) := by decide +kernel
theorem dX6_sumOf_159 : decode cX6_sumOf 159 = .ok (.ddiv, 1) := by decide +kernel
theorem dX6_sumOf_160 : decode cX6_sumOf 160 = .ok (.dreturn, 1) := by decide +kernel
set_option maxRecDepth 20000 in
theorem ggX6_sum_X6_refuses : GoodIn wsX6_sum wsX6_refuses := goodIn_r _ [5, 6, 42, 43, 44, 45, 46, 47, 48, 49, 50, 51, 52, 53, 54, 55] (by decide +kernel) (by decide +kernel)
set_option maxRecDepth 20000 in
theorem gX6_sum_X6_refuses : GoodIn wsX6_sum (wsV RX6 75 RX6 yX6_refuses wsX6_refuses) := goodIn_app (goodIn_of _ (by decide +kernel)) ggX6_sum_X6_refuses
set_option maxRecDepth 20000 in
theorem ggX6_sum_X6_sumOf : GoodIn wsX6_sum wsX6_sumOf := goodIn_r _ [10, 11, 12, 13, 14, 15, 4, 16, 17, 18, 19, 20, 21, 22, 23, 24, 25, 26, 27, 28, 29, 30, 31, 32, 33, 34, 35, 36, 37, 38, 39, 40, 41, 42, 43, 44, 45, 46, 47, 48, 49, 50, 51, 52, 53, 54, 55] (by decide +kernel) (by decide +kernel)
set_option maxRecDepth 20000 in
theorem gX6_sum_X6_sumOf : GoodIn wsX6_sum (wsV RX6 96 RX6 yX6_sumOf wsX6_sumOf) := goodIn_app (goodIn_of _ (by decide +kernel)) ggX6_sum_X6_sumOf
theorem dX6_sum_0 : decode cX6_sum 0 = .ok (.aload_n 0, 1) := by decide +kernel
theorem dX6_sum_1 : decode cX6_sum 1 = .ok (.iload_n 1, 1) := by decide +kernel
theorem dX6_sum_2 : decode cX6_sum 2 = .ok (.sipush (-2000), 3) := by decide +kernel
theorem dX6_sum_5 : decode cX6_sum 5 = .ok (.if_icmp .lt 10, 3) := by decide +kernel
theorem dX6_sum_8 : decode cX6_sum 8 = .ok (.iload_n 1, 1) := by decide +kernel
theorem dX6_sum_9 : decode cX6_sum 9 = .ok (.sipush 2000, 3) := by decide +kernel
theorem dX6_sum_12 : decode cX6_sum 12 = .ok (.if_icmp .le 7, 3) := by decide +kernel
theorem dX6_sum_15 : decode cX6_sum 15 = .ok (.iconst 1, 1) := by decide +kernel
theorem dX6_sum_16 : decode cX6_sum 16 = .ok (.goto 4, 3) := by decide +kernel
theorem dX6_sum_19 : decode cX6_sum 19 = .ok (.iconst 0, 1) := by decide +kernel
theorem dX6_sum_20 : decode cX6_sum 20 = .ok (.invokevirtual 75, 3) := by decide +kernel
theorem dX6_sum_23 : decode cX6_sum 23 = .ok (.ifCond .eq 7, 3) := by decide +kernel
theorem dX6_sum_26 : decode cX6_sum 26 = .ok (.dconst 0, 1) := by decide +kernel
theorem dX6_sum_27 : decode cX6_sum 27 = .ok (.goto 8, 3) := by decide +kernel
theorem dX6_sum_30 : decode cX6_sum 30 = .ok (.aload_n 0, 1) := by decide +kernel
theorem dX6_sum_31 : decode cX6_sum 31 = .ok (.iload_n 1, 1) := by decide +kernel
theorem dX6_sum_32 : decode cX6_sum 32 = .ok (.invokevirtual 96, 3) := by decide +kernel
theorem dX6_sum_35 : decode cX6_sum 35 = .ok (.dreturn, 1) := by decide +kernel
theorem dX6_stepOf_0 : decode cX6_stepOf 0 = .ok (.iload_n 0, 1) := by decide +kernel
theorem dX6_stepOf_1 : decode cX6_stepOf 1 = .ok (.tableswitch 49 0 4 #[35, 38, 41, 44, 47], 35) := by decide +kernel
theorem dX6_stepOf_36 : decode cX6_stepOf 36 = .ok (.bipush 50, 2) := by decide +kernel
theorem dX6_stepOf_38 : decode cX6_stepOf 38 = .ok (.ireturn, 1) := by decide +kernel
theorem dX6_stepOf_39 : decode cX6_stepOf 39 = .ok (.bipush 25, 2) := by decide +kernel
theorem dX6_stepOf_41 : decode cX6_stepOf 41 = .ok (.ireturn, 1) := by decide +kernel
theorem dX6_stepOf_42 : decode cX6_stepOf 42 = .ok (.bipush 12, 2) := by decide +kernel
theorem dX6_stepOf_44 : decode cX6_stepOf 44 = .ok (.ireturn, 1) := by decide +kernel
theorem dX6_stepOf_45 : decode cX6_stepOf 45 = .ok (.bipush 6, 2) := by decide +kernel
theorem dX6_stepOf_47 : decode cX6_stepOf 47 = .ok (.ireturn, 1) := by decide +kernel
theorem dX6_stepOf_48 : decode cX6_stepOf 48 = .ok (.iconst 3, 1) := by decide +kernel
theorem dX6_stepOf_49 : decode cX6_stepOf 49 = .ok (.ireturn, 1) := by decide +kernel
theorem dX6_stepOf_50 : decode cX6_stepOf 50 = .ok (.iconst 1, 1) := by decide +kernel
theorem dX6_stepOf_51 : decode cX6_stepOf 51 = .ok (.ireturn, 1) := by decide +kernel
set_option maxRecDepth 20000 in
theorem ggX6_angle_X6_refuses : GoodIn wsX6_angle wsX6_refuses := goodIn_r _ [11, 12, 55, 56, 57, 58, 59, 60, 61, 62, 63, 64, 65, 66, 67, 68] (by decide +kernel) (by decide +kernel)
set_option maxRecDepth 20000 in
theorem gX6_angle_X6_refuses : GoodIn wsX6_angle (wsV RX6 75 RX6 yX6_refuses wsX6_refuses) := goodIn_app (goodIn_of _ (by decide +kernel)) ggX6_angle_X6_refuses
set_option maxRecDepth 20000 in
theorem ggX6_angle_X6_countOn : GoodIn wsX6_angle wsX6_countOn := goodIn_r _ [16, 17, 55, 56, 57, 58, 59, 60, 61, 62, 63, 64, 65, 66, 67, 68] (by decide +kernel) (by decide +kernel)
set_option maxRecDepth 20000 in
theorem gX6_angle_X6_countOn : GoodIn wsX6_angle (wsV RX6 107 RX6 yX6_countOn wsX6_countOn) := goodIn_app (goodIn_of _ (by decide +kernel)) ggX6_angle_X6_countOn
set_option maxRecDepth 20000 in
theorem ggX6_angle_X6_sumOf : GoodIn wsX6_angle wsX6_sumOf := goodIn_r _ [21, 22, 23, 24, 25, 26, 10, 27, 28, 29, 30, 31, 32, 33, 34, 35, 36, 37, 38, 39, 40, 41, 42, 43, 44, 45, 46, 47, 17, 48, 49, 50, 51, 55, 56, 57, 58, 59, 60, 61, 62, 63, 64, 65, 66, 67, 68] (by decide +kernel) (by decide +kernel)
set_option maxRecDepth 20000 in
theorem gX6_angle_X6_sumOf : GoodIn wsX6_angle (wsV RX6 96 RX6 yX6_sumOf wsX6_sumOf) := goodIn_app (goodIn_of _ (by decide +kernel)) ggX6_angle_X6_sumOf
set_option maxRecDepth 20000 in
theorem ggX6_angle_X6_stepOf : GoodIn wsX6_angle wsX6_stepOf := goodIn_r _ [54] (by decide +kernel) (by decide +kernel)
set_option maxRecDepth 20000 in
theorem gX6_angle_X6_stepOf : GoodIn wsX6_angle (va_wsS RX6 113 yX6_stepOf wsX6_stepOf) := goodIn_app (goodIn_of _ (by decide +kernel)) ggX6_angle_X6_stepOf
theorem dX6_angle_0 : decode cX6_angle 0 = .ok (.aload_n 0, 1) := by decide +kernel
theorem dX6_angle_1 : decode cX6_angle 1 = .ok (.iload_n 1, 1) := by decide +kernel
theorem dX6_angle_2 : decode cX6_angle 2 = .ok (.ifCond .lt 10, 3) := by decide +kernel
theorem dX6_angle_5 : decode cX6_angle 5 = .ok (.iload_n 1, 1) := by decide +kernel
theorem dX6_angle_6 : decode cX6_angle 6 = .ok (.sipush 2000, 3) := by decide +kernel
theorem dX6_angle_9 : decode cX6_angle 9 = .ok (.if_icmp .le 7, 3) := by decide +kernel
theorem dX6_angle_12 : decode cX6_angle 12 = .ok (.iconst 1, 1) := by decide +kernel
theorem dX6_angle_13 : decode cX6_angle 13 = .ok (.goto 4, 3) := by decide +kernel
theorem dX6_angle_16 : decode cX6_angle 16 = .ok (.iconst 0, 1) := by decide +kernel
theorem dX6_angle_17 : decode cX6_angle 17 = .ok (.invokevirtual 75, 3) := by decide +kernel
theorem dX6_angle_20 : decode cX6_angle 20 = .ok (.ifCond .eq 5, 3) := by decide +kernel
theorem dX6_angle_23 : decode cX6_angle 23 = .ok (.iconst 0, 1) := by decide +kernel
theorem dX6_angle_24 : decode cX6_angle 24 = .ok (.ireturn, 1) := by decide +kernel
theorem dX6_angle_25 : decode cX6_angle 25 = .ok (.aload_n 0, 1) := by decide +kernel
theorem dX6_angle_26 : decode cX6_angle 26 = .ok (.iconst 1, 1) := by decide +kernel
theorem dX6_angle_27 : decode cX6_angle 27 = .ok (.putfield 39, 3) := by decide +kernel
theorem dX6_angle_30 : decode cX6_angle 30 = .ok (.aload_n 0, 1) := by decide +kernel
theorem dX6_angle_31 : decode cX6_angle 31 = .ok (.iconst 0, 1) := by decide +kernel
theorem dX6_angle_32 : decode cX6_angle 32 = .ok (.putfield 100, 3) := by decide +kernel
theorem dX6_angle_35 : decode cX6_angle 35 = .ok (.aload_n 0, 1) := by decide +kernel
theorem dX6_angle_36 : decode cX6_angle 36 = .ok (.dconst 0, 1) := by decide +kernel
theorem dX6_angle_37 : decode cX6_angle 37 = .ok (.putfield 103, 3) := by decide +kernel
theorem dX6_angle_40 : decode cX6_angle 40 = .ok (.aload_n 0, 1) := by decide +kernel
theorem dX6_angle_41 : decode cX6_angle 41 = .ok (.invokevirtual 107, 3) := by decide +kernel
theorem dX6_angle_44 : decode cX6_angle 44 = .ok (.ifCond .ne 6, 3) := by decide +kernel
theorem dX6_angle_47 : decode cX6_angle 47 = .ok (.ldc 110, 2) := by decide +kernel
theorem dX6_angle_49 : decode cX6_angle 49 = .ok (.ireturn, 1) := by decide +kernel
theorem dX6_angle_50 : decode cX6_angle 50 = .ok (.iload_n 1, 1) := by decide +kernel
theorem dX6_angle_51 : decode cX6_angle 51 = .ok (.ineg, 1) := by decide +kernel
theorem dX6_angle_52 : decode cX6_angle 52 = .ok (.istore_n 2, 1) := by decide +kernel
theorem dX6_angle_53 : decode cX6_angle 53 = .ok (.ldc2_w 111, 3) := by decide +kernel
theorem dX6_angle_56 : decode cX6_angle 56 = .ok (.dstore_n 3, 1) := by decide +kernel
theorem dX6_angle_57 : decode cX6_angle 57 = .ok (.dconst 0, 1) := by decide +kernel
theorem dX6_angle_58 : decode cX6_angle 58 = .ok (.dstore 5, 2) := by decide +kernel
theorem dX6_angle_60 : decode cX6_angle 60 = .ok (.iconst 0, 1) := by decide +kernel
theorem dX6_angle_61 : decode cX6_angle 61 = .ok (.istore 7, 2) := by decide +kernel
theorem dX6_angle_63 : decode cX6_angle 63 = .ok (.iload_n 1, 1) := by decide +kernel
theorem dX6_angle_64 : decode cX6_angle 64 = .ok (.ineg, 1) := by decide +kernel
theorem dX6_angle_65 : decode cX6_angle 65 = .ok (.istore 8, 2) := by decide +kernel
theorem dX6_angle_67 : decode cX6_angle 67 = .ok (.iload 8, 2) := by decide +kernel
theorem dX6_angle_69 : decode cX6_angle 69 = .ok (.iload_n 1, 1) := by decide +kernel
theorem dX6_angle_70 : decode cX6_angle 70 = .ok (.if_icmp .gt 40, 3) := by decide +kernel
theorem dX6_angle_73 : decode cX6_angle 73 = .ok (.aload_n 0, 1) := by decide +kernel
theorem dX6_angle_74 : decode cX6_angle 74 = .ok (.iload 8, 2) := by decide +kernel
theorem dX6_angle_76 : decode cX6_angle 76 = .ok (.invokevirtual 96, 3) := by decide +kernel
theorem dX6_angle_79 : decode cX6_angle 79 = .ok (.dstore 9, 2) := by decide +kernel
theorem dX6_angle_81 : decode cX6_angle 81 = .ok (.dload 5, 2) := by decide +kernel
theorem dX6_angle_83 : decode cX6_angle 83 = .ok (.dload 9, 2) := by decide +kernel
theorem dX6_angle_85 : decode cX6_angle 85 = .ok (.dadd, 1) := by decide +kernel
theorem dX6_angle_86 : decode cX6_angle 86 = .ok (.dstore 5, 2) := by decide +kernel
theorem dX6_angle_88 : decode cX6_angle 88 = .ok (.iinc 7 1, 3) := by decide +kernel
theorem dX6_angle_91 : decode cX6_angle 91 = .ok (.dload 9, 2) := by decide +kernel
theorem dX6_angle_93 : decode cX6_angle 93 = .ok (.dload_n 3, 1) := by decide +kernel
theorem dX6_angle_94 : decode cX6_angle 94 = .ok (.dcmp .l, 1) := by decide +kernel
theorem dX6_angle_95 : decode cX6_angle 95 = .ok (.ifCond .le 9, 3) := by decide +kernel
theorem dX6_angle_98 : decode cX6_angle 98 = .ok (.dload 9, 2) := by decide +kernel
theorem dX6_angle_100 : decode cX6_angle 100 = .ok (.dstore_n 3, 1) := by decide +kernel
theorem dX6_angle_101 : decode cX6_angle 101 = .ok (.iload 8, 2) := by decide +kernel
theorem dX6_angle_103 : decode cX6_angle 103 = .ok (.istore_n 2, 1) := by decide +kernel
theorem dX6_angle_104 : decode cX6_angle 104 = .ok (.iinc 8 100, 3) := by decide +kernel
theorem dX6_angle_107 : decode cX6_angle 107 = .ok (.goto (-40), 3) := by decide +kernel
theorem dX6_angle_110 : decode cX6_angle 110 = .ok (.aload_n 0, 1) := by decide +kernel
theorem dX6_angle_111 : decode cX6_angle 111 = .ok (.dload 5, 2) := by decide +kernel
theorem dX6_angle_113 : decode cX6_angle 113 = .ok (.iload 7, 2) := by decide +kernel
theorem dX6_angle_115 : decode cX6_angle 115 = .ok (.i2d, 1) := by decide +kernel
theorem dX6_angle_116 : decode cX6_angle 116 = .ok (.ddiv, 1) := by decide +kernel
theorem dX6_angle_117 : decode cX6_angle 117 = .ok (.putfield 103, 3) := by decide +kernel
theorem dX6_angle_120 : decode cX6_angle 120 = .ok (.iconst 0, 1) := by decide +kernel
theorem dX6_angle_121 : decode cX6_angle 121 = .ok (.istore 8, 2) := by decide +kernel
theorem dX6_angle_123 : decode cX6_angle 123 = .ok (.iload 8, 2) := by decide +kernel
theorem dX6_angle_125 : decode cX6_angle 125 = .ok (.bipush 6, 2) := by decide +kernel
theorem dX6_angle_127 : decode cX6_angle 127 = .ok (.if_icmp .ge 104, 3) := by decide +kernel
theorem dX6_angle_130 : decode cX6_angle 130 = .ok (.iload 8, 2) := by decide +kernel
theorem dX6_angle_132 : decode cX6_angle 132 = .ok (.invokestatic 113, 3) := by decide +kernel
theorem dX6_angle_135 : decode cX6_angle 135 = .ok (.istore 9, 2) := by decide +kernel
theorem dX6_angle_137 : decode cX6_angle 137 = .ok (.iload_n 2, 1) := by decide +kernel
theorem dX6_angle_138 : decode cX6_angle 138 = .ok (.istore 10, 2) := by decide +kernel
theorem dX6_angle_140 : decode cX6_angle 140 = .ok (.iload 10, 2) := by decide +kernel
theorem dX6_angle_142 : decode cX6_angle 142 = .ok (.iload 9, 2) := by decide +kernel
theorem dX6_angle_144 : decode cX6_angle 144 = .ok (.isub, 1) := by decide +kernel
theorem dX6_angle_145 : decode cX6_angle 145 = .ok (.iload_n 1, 1) := by decide +kernel
theorem dX6_angle_146 : decode cX6_angle 146 = .ok (.ineg, 1) := by decide +kernel
theorem dX6_angle_147 : decode cX6_angle 147 = .ok (.if_icmp .lt 15, 3) := by decide +kernel
theorem dX6_angle_150 : decode cX6_angle 150 = .ok (.aload_n 0, 1) := by decide +kernel
theorem dX6_angle_151 : decode cX6_angle 151 = .ok (.iload 10, 2) := by decide +kernel
theorem dX6_angle_153 : decode cX6_angle 153 = .ok (.iload 9, 2) := by decide +kernel
theorem dX6_angle_155 : decode cX6_angle 155 = .ok (.isub, 1) := by decide +kernel
theorem dX6_angle_156 : decode cX6_angle 156 = .ok (.invokevirtual 96, 3) := by decide +kernel
theorem dX6_angle_159 : decode cX6_angle 159 = .ok (.goto 6, 3) := by decide +kernel
theorem dX6_angle_162 : decode cX6_angle 162 = .ok (.ldc2_w 111, 3) := by decide +kernel
theorem dX6_angle_165 : decode cX6_angle 165 = .ok (.dstore 11, 2) := by decide +kernel
theorem dX6_angle_167 : decode cX6_angle 167 = .ok (.iload 10, 2) := by decide +kernel
theorem dX6_angle_169 : decode cX6_angle 169 = .ok (.iload 9, 2) := by decide +kernel
theorem dX6_angle_171 : decode cX6_angle 171 = .ok (.iadd, 1) := by decide +kernel
theorem dX6_angle_172 : decode cX6_angle 172 = .ok (.iload_n 1, 1) := by decide +kernel
theorem dX6_angle_173 : decode cX6_angle 173 = .ok (.if_icmp .gt 15, 3) := by decide +kernel
theorem dX6_angle_176 : decode cX6_angle 176 = .ok (.aload_n 0, 1) := by decide +kernel
theorem dX6_angle_177 : decode cX6_angle 177 = .ok (.iload 10, 2) := by decide +kernel
theorem dX6_angle_179 : decode cX6_angle 179 = .ok (.iload 9, 2) := by decide +kernel
theorem dX6_angle_181 : decode cX6_angle 181 = .ok (.iadd, 1) := by decide +kernel
theorem dX6_angle_182 : decode cX6_angle 182 = .ok (.invokevirtual 96, 3) := by decide +kernel
theorem dX6_angle_185 : decode cX6_angle 185 = .ok (.goto 6, 3) := by decide +kernel
theorem dX6_angle_188 : decode cX6_angle 188 = .ok (.ldc2_w 111, 3) := by decide +kernel
theorem dX6_angle_191 : decode cX6_angle 191 = .ok (.dstore 13, 2) := by decide +kernel
theorem dX6_angle_193 : decode cX6_angle 193 = .ok (.dload 11, 2) := by decide +kernel
theorem dX6_angle_195 : decode cX6_angle 195 = .ok (.dload_n 3, 1) := by decide +kernel
theorem dX6_angle_196 : decode cX6_angle 196 = .ok (.dcmp .l, 1) := by decide +kernel
theorem dX6_angle_197 : decode cX6_angle 197 = .ok (.ifCond .lt 12, 3) := by decide +kernel
theorem dX6_angle_200 : decode cX6_angle 200 = .ok (.iload 10, 2) := by decide +kernel
theorem dX6_angle_202 : decode cX6_angle 202 = .ok (.iload 9, 2) := by decide +kernel
theorem dX6_angle_204 : decode cX6_angle 204 = .ok (.isub, 1) := by decide +kernel
theorem dX6_angle_205 : decode cX6_angle 205 = .ok (.istore_n 2, 1) := by decide +kernel
theorem dX6_angle_206 : decode cX6_angle 206 = .ok (.dload 11, 2) := by decide +kernel
theorem dX6_angle_208 : decode cX6_angle 208 = .ok (.dstore_n 3, 1) := by decide +kernel
theorem dX6_angle_209 : decode cX6_angle 209 = .ok (.dload 13, 2) := by decide +kernel
theorem dX6_angle_211 : decode cX6_angle 211 = .ok (.dload_n 3, 1) := by decide +kernel
theorem dX6_angle_212 : decode cX6_angle 212 = .ok (.dcmp .l, 1) := by decide +kernel
theorem dX6_angle_213 : decode cX6_angle 213 = .ok (.ifCond .le 12, 3) := by decide +kernel
theorem dX6_angle_216 : decode cX6_angle 216 = .ok (.iload 10, 2) := by decide +kernel
theorem dX6_angle_218 : decode cX6_angle 218 = .ok (.iload 9, 2) := by decide +kernel
theorem dX6_angle_220 : decode cX6_angle 220 = .ok (.iadd, 1) := by decide +kernel
theorem dX6_angle_221 : decode cX6_angle 221 = .ok (.istore_n 2, 1) := by decide +kernel
theorem dX6_angle_222 : decode cX6_angle 222 = .ok (.dload 13, 2) := by decide +kernel
theorem dX6_angle_224 : decode cX6_angle 224 = .ok (.dstore_n 3, 1) := by decide +kernel
theorem dX6_angle_225 : decode cX6_angle 225 = .ok (.iinc 8 1, 3) := by decide +kernel
theorem dX6_angle_228 : decode cX6_angle 228 = .ok (.goto (-105), 3) := by decide +kernel
theorem dX6_angle_231 : decode cX6_angle 231 = .ok (.aload_n 0, 1) := by decide +kernel
theorem dX6_angle_232 : decode cX6_angle 232 = .ok (.dload_n 3, 1) := by decide +kernel
theorem dX6_angle_233 : decode cX6_angle 233 = .ok (.ldc2_w 117, 3) := by decide +kernel
theorem dX6_angle_236 : decode cX6_angle 236 = .ok (.aload_n 0, 1) := by decide +kernel
theorem dX6_angle_237 : decode cX6_angle 237 = .ok (.getfield 103, 3) := by decide +kernel
theorem dX6_angle_240 : decode cX6_angle 240 = .ok (.dmul, 1) := by decide +kernel
theorem dX6_angle_241 : decode cX6_angle 241 = .ok (.dcmp .l, 1) := by decide +kernel
theorem dX6_angle_242 : decode cX6_angle 242 = .ok (.ifCond .lt 7, 3) := by decide +kernel
theorem dX6_angle_245 : decode cX6_angle 245 = .ok (.iconst 1, 1) := by decide +kernel
theorem dX6_angle_246 : decode cX6_angle 246 = .ok (.goto 4, 3) := by decide +kernel
theorem dX6_angle_249 : decode cX6_angle 249 = .ok (.iconst 0, 1) := by decide +kernel
theorem dX6_angle_250 : decode cX6_angle 250 = .ok (.putfield 100, 3) := by decide +kernel
theorem dX6_angle_253 : decode cX6_angle 253 = .ok (.iload_n 2, 1) := by decide +kernel
theorem dX6_angle_254 : decode cX6_angle 254 = .ok (.ireturn, 1) := by decide +kernel
set_option maxRecDepth 20000 in
theorem ggX6_sure_X6_refuses : GoodIn wsX6_sure wsX6_refuses := goodIn_r _ [7, 8, 9, 10, 11, 12, 13, 14, 15, 16, 17, 18, 19, 20, 21, 22] (by decide +kernel) (by decide +kernel)
set_option maxRecDepth 20000 in
theorem gX6_sure_X6_refuses : GoodIn wsX6_sure (wsV RX6 75 RX6 yX6_refuses wsX6_refuses) := goodIn_app (goodIn_of _ (by decide +kernel)) ggX6_sure_X6_refuses
theorem dX6_sure_0 : decode cX6_sure 0 = .ok (.aload_n 0, 1) := by decide +kernel
theorem dX6_sure_1 : decode cX6_sure 1 = .ok (.aload_n 0, 1) := by decide +kernel
theorem dX6_sure_2 : decode cX6_sure 2 = .ok (.getfield 39, 3) := by decide +kernel
theorem dX6_sure_5 : decode cX6_sure 5 = .ok (.ifCond .eq 7, 3) := by decide +kernel
theorem dX6_sure_8 : decode cX6_sure 8 = .ok (.iconst 0, 1) := by decide +kernel
theorem dX6_sure_9 : decode cX6_sure 9 = .ok (.goto 4, 3) := by decide +kernel
theorem dX6_sure_12 : decode cX6_sure 12 = .ok (.iconst 1, 1) := by decide +kernel
theorem dX6_sure_13 : decode cX6_sure 13 = .ok (.invokevirtual 75, 3) := by decide +kernel
theorem dX6_sure_16 : decode cX6_sure 16 = .ok (.ifCond .ne 14, 3) := by decide +kernel
theorem dX6_sure_19 : decode cX6_sure 19 = .ok (.aload_n 0, 1) := by decide +kernel
theorem dX6_sure_20 : decode cX6_sure 20 = .ok (.getfield 100, 3) := by decide +kernel
theorem dX6_sure_23 : decode cX6_sure 23 = .ok (.ifCond .eq 7, 3) := by decide +kernel
theorem dX6_sure_26 : decode cX6_sure 26 = .ok (.iconst 1, 1) := by decide +kernel
theorem dX6_sure_27 : decode cX6_sure 27 = .ok (.goto 4, 3) := by decide +kernel
theorem dX6_sure_30 : decode cX6_sure 30 = .ok (.iconst 0, 1) := by decide +kernel
theorem dX6_sure_31 : decode cX6_sure 31 = .ok (.ireturn, 1) := by decide +kernel
set_option maxRecDepth 20000 in
theorem ggX6_mean_X6_refuses : GoodIn wsX6_mean wsX6_refuses := goodIn_r _ [7, 8, 9, 10, 11, 12, 13, 14, 15, 16, 17, 18, 19, 20, 21, 22] (by decide +kernel) (by decide +kernel)
set_option maxRecDepth 20000 in
theorem gX6_mean_X6_refuses : GoodIn wsX6_mean (wsV RX6 75 RX6 yX6_refuses wsX6_refuses) := goodIn_app (goodIn_of _ (by decide +kernel)) ggX6_mean_X6_refuses
theorem dX6_mean_0 : decode cX6_mean 0 = .ok (.aload_n 0, 1) := by decide +kernel
theorem dX6_mean_1 : decode cX6_mean 1 = .ok (.aload_n 0, 1) := by decide +kernel
theorem dX6_mean_2 : decode cX6_mean 2 = .ok (.getfield 39, 3) := by decide +kernel
theorem dX6_mean_5 : decode cX6_mean 5 = .ok (.ifCond .eq 7, 3) := by decide +kernel
theorem dX6_mean_8 : decode cX6_mean 8 = .ok (.iconst 0, 1) := by decide +kernel
theorem dX6_mean_9 : decode cX6_mean 9 = .ok (.goto 4, 3) := by decide +kernel
theorem dX6_mean_12 : decode cX6_mean 12 = .ok (.iconst 1, 1) := by decide +kernel
theorem dX6_mean_13 : decode cX6_mean 13 = .ok (.invokevirtual 75, 3) := by decide +kernel
theorem dX6_mean_16 : decode cX6_mean 16 = .ok (.ifCond .eq 7, 3) := by decide +kernel
theorem dX6_mean_19 : decode cX6_mean 19 = .ok (.dconst 0, 1) := by decide +kernel
theorem dX6_mean_20 : decode cX6_mean 20 = .ok (.goto 7, 3) := by decide +kernel
theorem dX6_mean_23 : decode cX6_mean 23 = .ok (.aload_n 0, 1) := by decide +kernel
theorem dX6_mean_24 : decode cX6_mean 24 = .ok (.getfield 103, 3) := by decide +kernel
theorem dX6_mean_27 : decode cX6_mean 27 = .ok (.dreturn, 1) := by decide +kernel
theorem dX6_within_0 : decode cX6_within 0 = .ok (.iload_n 0, 1) := by decide +kernel
theorem dX6_within_1 : decode cX6_within 1 = .ok (.iload_n 1, 1) := by decide +kernel
theorem dX6_within_2 : decode cX6_within 2 = .ok (.irem, 1) := by decide +kernel
theorem dX6_within_3 : decode cX6_within 3 = .ok (.istore_n 2, 1) := by decide +kernel
theorem dX6_within_4 : decode cX6_within 4 = .ok (.iload_n 2, 1) := by decide +kernel
theorem dX6_within_5 : decode cX6_within 5 = .ok (.ifCond .ge 9, 3) := by decide +kernel
theorem dX6_within_8 : decode cX6_within 8 = .ok (.iload_n 2, 1) := by decide +kernel
theorem dX6_within_9 : decode cX6_within 9 = .ok (.iload_n 1, 1) := by decide +kernel
theorem dX6_within_10 : decode cX6_within 10 = .ok (.iadd, 1) := by decide +kernel
theorem dX6_within_11 : decode cX6_within 11 = .ok (.goto 4, 3) := by decide +kernel
theorem dX6_within_14 : decode cX6_within 14 = .ok (.iload_n 2, 1) := by decide +kernel
theorem dX6_within_15 : decode cX6_within 15 = .ok (.ireturn, 1) := by decide +kernel
theorem dX6_change_0 : decode cX6_change 0 = .ok (.iconst 0, 1) := by decide +kernel
theorem dX6_change_1 : decode cX6_change 1 = .ok (.istore_n 1, 1) := by decide +kernel
theorem dX6_change_2 : decode cX6_change 2 = .ok (.iload_n 1, 1) := by decide +kernel
theorem dX6_change_3 : decode cX6_change 3 = .ok (.sipush 576, 3) := by decide +kernel
theorem dX6_change_6 : decode cX6_change 6 = .ok (.if_icmp .ge 21, 3) := by decide +kernel
theorem dX6_change_9 : decode cX6_change 9 = .ok (.aload_n 0, 1) := by decide +kernel
theorem dX6_change_10 : decode cX6_change 10 = .ok (.getfield 7, 3) := by decide +kernel
theorem dX6_change_13 : decode cX6_change 13 = .ok (.iload_n 1, 1) := by decide +kernel
theorem dX6_change_14 : decode cX6_change 14 = .ok (.aload_n 0, 1) := by decide +kernel
theorem dX6_change_15 : decode cX6_change 15 = .ok (.getfield 13, 3) := by decide +kernel
theorem dX6_change_18 : decode cX6_change 18 = .ok (.iload_n 1, 1) := by decide +kernel
theorem dX6_change_19 : decode cX6_change 19 = .ok (.baload, 1) := by decide +kernel
theorem dX6_change_20 : decode cX6_change 20 = .ok (.bastore, 1) := by decide +kernel
theorem dX6_change_21 : decode cX6_change 21 = .ok (.iinc 1 1, 3) := by decide +kernel
theorem dX6_change_24 : decode cX6_change 24 = .ok (.goto (-22), 3) := by decide +kernel
theorem dX6_change_27 : decode cX6_change 27 = .ok (.return_, 1) := by decide +kernel
theorem dX6_forget_0 : decode cX6_forget 0 = .ok (.iconst 0, 1) := by decide +kernel
theorem dX6_forget_1 : decode cX6_forget 1 = .ok (.istore_n 1, 1) := by decide +kernel
theorem dX6_forget_2 : decode cX6_forget 2 = .ok (.iload_n 1, 1) := by decide +kernel
theorem dX6_forget_3 : decode cX6_forget 3 = .ok (.sipush 576, 3) := by decide +kernel
theorem dX6_forget_6 : decode cX6_forget 6 = .ok (.if_icmp .ge 16, 3) := by decide +kernel
theorem dX6_forget_9 : decode cX6_forget 9 = .ok (.aload_n 0, 1) := by decide +kernel
theorem dX6_forget_10 : decode cX6_forget 10 = .ok (.getfield 13, 3) := by decide +kernel
theorem dX6_forget_13 : decode cX6_forget 13 = .ok (.iload_n 1, 1) := by decide +kernel
theorem dX6_forget_14 : decode cX6_forget 14 = .ok (.iconst 0, 1) := by decide +kernel
theorem dX6_forget_15 : decode cX6_forget 15 = .ok (.bastore, 1) := by decide +kernel
theorem dX6_forget_16 : decode cX6_forget 16 = .ok (.iinc 1 1, 3) := by decide +kernel
theorem dX6_forget_19 : decode cX6_forget 19 = .ok (.goto (-17), 3) := by decide +kernel
theorem dX6_forget_22 : decode cX6_forget 22 = .ok (.return_, 1) := by decide +kernel
set_option maxRecDepth 20000 in
theorem ggX6_shearRows_X6_forget : GoodIn wsX6_shearRows wsX6_forget := goodIn_r _ [10, 4, 22, 23, 24, 25, 26, 27, 28, 29, 30, 31, 32, 33, 34, 35] (by decide +kernel) (by decide +kernel)
set_option maxRecDepth 20000 in
theorem gX6_shearRows_X6_forget : GoodIn wsX6_shearRows (wsV RX6 121 RX6 yX6_forget wsX6_forget) := goodIn_app (goodIn_of _ (by decide +kernel)) ggX6_shearRows_X6_forget
set_option maxRecDepth 20000 in
theorem ggX6_shearRows_X6_wholeOf : GoodIn wsX6_shearRows wsX6_wholeOf := goodIn_r _ [13, 14] (by decide +kernel) (by decide +kernel)
set_option maxRecDepth 20000 in
theorem gX6_shearRows_X6_wholeOf : GoodIn wsX6_shearRows (va_wsS RX6 92 yX6_wholeOf wsX6_wholeOf) := goodIn_app (goodIn_of _ (by decide +kernel)) ggX6_shearRows_X6_wholeOf
set_option maxRecDepth 20000 in
theorem ggX6_shearRows_X6_within : GoodIn wsX6_shearRows wsX6_within := goodIn_r _ [17] (by decide +kernel) (by decide +kernel)
set_option maxRecDepth 20000 in
theorem gX6_shearRows_X6_within : GoodIn wsX6_shearRows (va_wsS RX6 124 yX6_within wsX6_within) := goodIn_app (goodIn_of _ (by decide +kernel)) ggX6_shearRows_X6_within
set_option maxRecDepth 20000 in
theorem ggX6_shearRows_X6_change : GoodIn wsX6_shearRows wsX6_change := goodIn_r _ [21, 5, 4, 22, 23, 24, 25, 26, 27, 28, 29, 30, 31, 32, 33, 34, 35] (by decide +kernel) (by decide +kernel)
set_option maxRecDepth 20000 in
theorem gX6_shearRows_X6_change : GoodIn wsX6_shearRows (wsV RX6 128 RX6 yX6_change wsX6_change) := goodIn_app (goodIn_of _ (by decide +kernel)) ggX6_shearRows_X6_change
theorem dX6_shearRows_0 : decode cX6_shearRows 0 = .ok (.aload_n 0, 1) := by decide +kernel
theorem dX6_shearRows_1 : decode cX6_shearRows 1 = .ok (.getfield 30, 3) := by decide +kernel
theorem dX6_shearRows_4 : decode cX6_shearRows 4 = .ok (.iconst 1, 1) := by decide +kernel
theorem dX6_shearRows_5 : decode cX6_shearRows 5 = .ok (.isub, 1) := by decide +kernel
theorem dX6_shearRows_6 : decode cX6_shearRows 6 = .ok (.i2d, 1) := by decide +kernel
theorem dX6_shearRows_7 : decode cX6_shearRows 7 = .ok (.ldc2_w 119, 3) := by decide +kernel
theorem dX6_shearRows_10 : decode cX6_shearRows 10 = .ok (.ddiv, 1) := by decide +kernel
theorem dX6_shearRows_11 : decode cX6_shearRows 11 = .ok (.dstore 4, 2) := by decide +kernel
theorem dX6_shearRows_13 : decode cX6_shearRows 13 = .ok (.aload_n 0, 1) := by decide +kernel
theorem dX6_shearRows_14 : decode cX6_shearRows 14 = .ok (.invokevirtual 121, 3) := by decide +kernel
theorem dX6_shearRows_17 : decode cX6_shearRows 17 = .ok (.iconst 0, 1) := by decide +kernel
theorem dX6_shearRows_18 : decode cX6_shearRows 18 = .ok (.istore 6, 2) := by decide +kernel
theorem dX6_shearRows_20 : decode cX6_shearRows 20 = .ok (.iload 6, 2) := by decide +kernel
theorem dX6_shearRows_22 : decode cX6_shearRows 22 = .ok (.aload_n 0, 1) := by decide +kernel
theorem dX6_shearRows_23 : decode cX6_shearRows 23 = .ok (.getfield 30, 3) := by decide +kernel
theorem dX6_shearRows_26 : decode cX6_shearRows 26 = .ok (.if_icmp .ge 78, 3) := by decide +kernel
theorem dX6_shearRows_29 : decode cX6_shearRows 29 = .ok (.iload_n 3, 1) := by decide +kernel
theorem dX6_shearRows_30 : decode cX6_shearRows 30 = .ok (.dload 4, 2) := by decide +kernel
theorem dX6_shearRows_32 : decode cX6_shearRows 32 = .ok (.iload 6, 2) := by decide +kernel
theorem dX6_shearRows_34 : decode cX6_shearRows 34 = .ok (.i2d, 1) := by decide +kernel
theorem dX6_shearRows_35 : decode cX6_shearRows 35 = .ok (.dsub, 1) := by decide +kernel
theorem dX6_shearRows_36 : decode cX6_shearRows 36 = .ok (.dload_n 1, 1) := by decide +kernel
theorem dX6_shearRows_37 : decode cX6_shearRows 37 = .ok (.dmul, 1) := by decide +kernel
theorem dX6_shearRows_38 : decode cX6_shearRows 38 = .ok (.invokestatic 92, 3) := by decide +kernel
theorem dX6_shearRows_41 : decode cX6_shearRows 41 = .ok (.imul, 1) := by decide +kernel
theorem dX6_shearRows_42 : decode cX6_shearRows 42 = .ok (.istore 7, 2) := by decide +kernel
theorem dX6_shearRows_44 : decode cX6_shearRows 44 = .ok (.iconst 0, 1) := by decide +kernel
theorem dX6_shearRows_45 : decode cX6_shearRows 45 = .ok (.istore 8, 2) := by decide +kernel
theorem dX6_shearRows_47 : decode cX6_shearRows 47 = .ok (.iload 8, 2) := by decide +kernel
theorem dX6_shearRows_49 : decode cX6_shearRows 49 = .ok (.aload_n 0, 1) := by decide +kernel
theorem dX6_shearRows_50 : decode cX6_shearRows 50 = .ok (.getfield 26, 3) := by decide +kernel
theorem dX6_shearRows_53 : decode cX6_shearRows 53 = .ok (.if_icmp .ge 45, 3) := by decide +kernel
theorem dX6_shearRows_56 : decode cX6_shearRows 56 = .ok (.aload_n 0, 1) := by decide +kernel
theorem dX6_shearRows_57 : decode cX6_shearRows 57 = .ok (.getfield 13, 3) := by decide +kernel
theorem dX6_shearRows_60 : decode cX6_shearRows 60 = .ok (.bipush 24, 2) := by decide +kernel
theorem dX6_shearRows_62 : decode cX6_shearRows 62 = .ok (.iload 6, 2) := by decide +kernel
theorem dX6_shearRows_64 : decode cX6_shearRows 64 = .ok (.imul, 1) := by decide +kernel
theorem dX6_shearRows_65 : decode cX6_shearRows 65 = .ok (.iload 8, 2) := by decide +kernel
theorem dX6_shearRows_67 : decode cX6_shearRows 67 = .ok (.iload 7, 2) := by decide +kernel
theorem dX6_shearRows_69 : decode cX6_shearRows 69 = .ok (.iadd, 1) := by decide +kernel
theorem dX6_shearRows_70 : decode cX6_shearRows 70 = .ok (.aload_n 0, 1) := by decide +kernel
theorem dX6_shearRows_71 : decode cX6_shearRows 71 = .ok (.getfield 26, 3) := by decide +kernel
theorem dX6_shearRows_74 : decode cX6_shearRows 74 = .ok (.invokestatic 124, 3) := by decide +kernel
theorem dX6_shearRows_77 : decode cX6_shearRows 77 = .ok (.iadd, 1) := by decide +kernel
theorem dX6_shearRows_78 : decode cX6_shearRows 78 = .ok (.aload_n 0, 1) := by decide +kernel
theorem dX6_shearRows_79 : decode cX6_shearRows 79 = .ok (.getfield 7, 3) := by decide +kernel
theorem dX6_shearRows_82 : decode cX6_shearRows 82 = .ok (.bipush 24, 2) := by decide +kernel
theorem dX6_shearRows_84 : decode cX6_shearRows 84 = .ok (.iload 6, 2) := by decide +kernel
theorem dX6_shearRows_86 : decode cX6_shearRows 86 = .ok (.imul, 1) := by decide +kernel
theorem dX6_shearRows_87 : decode cX6_shearRows 87 = .ok (.iload 8, 2) := by decide +kernel
theorem dX6_shearRows_89 : decode cX6_shearRows 89 = .ok (.iadd, 1) := by decide +kernel
theorem dX6_shearRows_90 : decode cX6_shearRows 90 = .ok (.baload, 1) := by decide +kernel
theorem dX6_shearRows_91 : decode cX6_shearRows 91 = .ok (.bastore, 1) := by decide +kernel
theorem dX6_shearRows_92 : decode cX6_shearRows 92 = .ok (.iinc 8 1, 3) := by decide +kernel
theorem dX6_shearRows_95 : decode cX6_shearRows 95 = .ok (.goto (-48), 3) := by decide +kernel
theorem dX6_shearRows_98 : decode cX6_shearRows 98 = .ok (.iinc 6 1, 3) := by decide +kernel
theorem dX6_shearRows_101 : decode cX6_shearRows 101 = .ok (.goto (-81), 3) := by decide +kernel
theorem dX6_shearRows_104 : decode cX6_shearRows 104 = .ok (.aload_n 0, 1) := by decide +kernel
theorem dX6_shearRows_105 : decode cX6_shearRows 105 = .ok (.invokevirtual 128, 3) := by decide +kernel
theorem dX6_shearRows_108 : decode cX6_shearRows 108 = .ok (.return_, 1) := by decide +kernel
set_option maxRecDepth 20000 in
theorem ggX6_shearColumns_X6_forget : GoodIn wsX6_shearColumns wsX6_forget := goodIn_r _ [10, 4, 22, 23, 24, 25, 26, 27, 28, 29, 30, 31, 32, 33, 34, 35] (by decide +kernel) (by decide +kernel)
set_option maxRecDepth 20000 in
theorem gX6_shearColumns_X6_forget : GoodIn wsX6_shearColumns (wsV RX6 121 RX6 yX6_forget wsX6_forget) := goodIn_app (goodIn_of _ (by decide +kernel)) ggX6_shearColumns_X6_forget
set_option maxRecDepth 20000 in
theorem ggX6_shearColumns_X6_wholeOf : GoodIn wsX6_shearColumns wsX6_wholeOf := goodIn_r _ [13, 14] (by decide +kernel) (by decide +kernel)
set_option maxRecDepth 20000 in
theorem gX6_shearColumns_X6_wholeOf : GoodIn wsX6_shearColumns (va_wsS RX6 92 yX6_wholeOf wsX6_wholeOf) := goodIn_app (goodIn_of _ (by decide +kernel)) ggX6_shearColumns_X6_wholeOf
set_option maxRecDepth 20000 in
theorem ggX6_shearColumns_X6_within : GoodIn wsX6_shearColumns wsX6_within := goodIn_r _ [17] (by decide +kernel) (by decide +kernel)
set_option maxRecDepth 20000 in
theorem gX6_shearColumns_X6_within : GoodIn wsX6_shearColumns (va_wsS RX6 124 yX6_within wsX6_within) := goodIn_app (goodIn_of _ (by decide +kernel)) ggX6_shearColumns_X6_within
set_option maxRecDepth 20000 in
theorem ggX6_shearColumns_X6_change : GoodIn wsX6_shearColumns wsX6_change := goodIn_r _ [21, 5, 4, 22, 23, 24, 25, 26, 27, 28, 29, 30, 31, 32, 33, 34, 35] (by decide +kernel) (by decide +kernel)
set_option maxRecDepth 20000 in
theorem gX6_shearColumns_X6_change : GoodIn wsX6_shearColumns (wsV RX6 128 RX6 yX6_change wsX6_change) := goodIn_app (goodIn_of _ (by decide +kernel)) ggX6_shearColumns_X6_change
theorem dX6_shearColumns_0 : decode cX6_shearColumns 0 = .ok (.aload_n 0, 1) := by decide +kernel
theorem dX6_shearColumns_1 : decode cX6_shearColumns 1 = .ok (.getfield 26, 3) := by decide +kernel
theorem dX6_shearColumns_4 : decode cX6_shearColumns 4 = .ok (.iconst 1, 1) := by decide +kernel
theorem dX6_shearColumns_5 : decode cX6_shearColumns 5 = .ok (.isub, 1) := by decide +kernel
theorem dX6_shearColumns_6 : decode cX6_shearColumns 6 = .ok (.i2d, 1) := by decide +kernel
theorem dX6_shearColumns_7 : decode cX6_shearColumns 7 = .ok (.ldc2_w 119, 3) := by decide +kernel
theorem dX6_shearColumns_10 : decode cX6_shearColumns 10 = .ok (.ddiv, 1) := by decide +kernel
theorem dX6_shearColumns_11 : decode cX6_shearColumns 11 = .ok (.dstore 4, 2) := by decide +kernel
theorem dX6_shearColumns_13 : decode cX6_shearColumns 13 = .ok (.aload_n 0, 1) := by decide +kernel
theorem dX6_shearColumns_14 : decode cX6_shearColumns 14 = .ok (.invokevirtual 121, 3) := by decide +kernel
theorem dX6_shearColumns_17 : decode cX6_shearColumns 17 = .ok (.iconst 0, 1) := by decide +kernel
theorem dX6_shearColumns_18 : decode cX6_shearColumns 18 = .ok (.istore 6, 2) := by decide +kernel
theorem dX6_shearColumns_20 : decode cX6_shearColumns 20 = .ok (.iload 6, 2) := by decide +kernel
theorem dX6_shearColumns_22 : decode cX6_shearColumns 22 = .ok (.aload_n 0, 1) := by decide +kernel
theorem dX6_shearColumns_23 : decode cX6_shearColumns 23 = .ok (.getfield 26, 3) := by decide +kernel
theorem dX6_shearColumns_26 : decode cX6_shearColumns 26 = .ok (.if_icmp .ge 78, 3) := by decide +kernel
theorem dX6_shearColumns_29 : decode cX6_shearColumns 29 = .ok (.iload_n 3, 1) := by decide +kernel
theorem dX6_shearColumns_30 : decode cX6_shearColumns 30 = .ok (.iload 6, 2) := by decide +kernel
theorem dX6_shearColumns_32 : decode cX6_shearColumns 32 = .ok (.i2d, 1) := by decide +kernel
theorem dX6_shearColumns_33 : decode cX6_shearColumns 33 = .ok (.dload 4, 2) := by decide +kernel
theorem dX6_shearColumns_35 : decode cX6_shearColumns 35 = .ok (.dsub, 1) := by decide +kernel
theorem dX6_shearColumns_36 : decode cX6_shearColumns 36 = .ok (.dload_n 1, 1) := by decide +kernel
theorem dX6_shearColumns_37 : decode cX6_shearColumns 37 = .ok (.dmul, 1) := by decide +kernel
theorem dX6_shearColumns_38 : decode cX6_shearColumns 38 = .ok (.invokestatic 92, 3) := by decide +kernel
theorem dX6_shearColumns_41 : decode cX6_shearColumns 41 = .ok (.imul, 1) := by decide +kernel
theorem dX6_shearColumns_42 : decode cX6_shearColumns 42 = .ok (.istore 7, 2) := by decide +kernel
theorem dX6_shearColumns_44 : decode cX6_shearColumns 44 = .ok (.iconst 0, 1) := by decide +kernel
theorem dX6_shearColumns_45 : decode cX6_shearColumns 45 = .ok (.istore 8, 2) := by decide +kernel
theorem dX6_shearColumns_47 : decode cX6_shearColumns 47 = .ok (.iload 8, 2) := by decide +kernel
theorem dX6_shearColumns_49 : decode cX6_shearColumns 49 = .ok (.aload_n 0, 1) := by decide +kernel
theorem dX6_shearColumns_50 : decode cX6_shearColumns 50 = .ok (.getfield 30, 3) := by decide +kernel
theorem dX6_shearColumns_53 : decode cX6_shearColumns 53 = .ok (.if_icmp .ge 45, 3) := by decide +kernel
theorem dX6_shearColumns_56 : decode cX6_shearColumns 56 = .ok (.aload_n 0, 1) := by decide +kernel
theorem dX6_shearColumns_57 : decode cX6_shearColumns 57 = .ok (.getfield 13, 3) := by decide +kernel
theorem dX6_shearColumns_60 : decode cX6_shearColumns 60 = .ok (.bipush 24, 2) := by decide +kernel
theorem dX6_shearColumns_62 : decode cX6_shearColumns 62 = .ok (.iload 8, 2) := by decide +kernel
theorem dX6_shearColumns_64 : decode cX6_shearColumns 64 = .ok (.iload 7, 2) := by decide +kernel
theorem dX6_shearColumns_66 : decode cX6_shearColumns 66 = .ok (.iadd, 1) := by decide +kernel
theorem dX6_shearColumns_67 : decode cX6_shearColumns 67 = .ok (.aload_n 0, 1) := by decide +kernel
theorem dX6_shearColumns_68 : decode cX6_shearColumns 68 = .ok (.getfield 30, 3) := by decide +kernel
theorem dX6_shearColumns_71 : decode cX6_shearColumns 71 = .ok (.invokestatic 124, 3) := by decide +kernel
theorem dX6_shearColumns_74 : decode cX6_shearColumns 74 = .ok (.imul, 1) := by decide +kernel
theorem dX6_shearColumns_75 : decode cX6_shearColumns 75 = .ok (.iload 6, 2) := by decide +kernel
theorem dX6_shearColumns_77 : decode cX6_shearColumns 77 = .ok (.iadd, 1) := by decide +kernel
theorem dX6_shearColumns_78 : decode cX6_shearColumns 78 = .ok (.aload_n 0, 1) := by decide +kernel
theorem dX6_shearColumns_79 : decode cX6_shearColumns 79 = .ok (.getfield 7, 3) := by decide +kernel
theorem dX6_shearColumns_82 : decode cX6_shearColumns 82 = .ok (.bipush 24, 2) := by decide +kernel
theorem dX6_shearColumns_84 : decode cX6_shearColumns 84 = .ok (.iload 8, 2) := by decide +kernel
theorem dX6_shearColumns_86 : decode cX6_shearColumns 86 = .ok (.imul, 1) := by decide +kernel
theorem dX6_shearColumns_87 : decode cX6_shearColumns 87 = .ok (.iload 6, 2) := by decide +kernel
theorem dX6_shearColumns_89 : decode cX6_shearColumns 89 = .ok (.iadd, 1) := by decide +kernel
theorem dX6_shearColumns_90 : decode cX6_shearColumns 90 = .ok (.baload, 1) := by decide +kernel
theorem dX6_shearColumns_91 : decode cX6_shearColumns 91 = .ok (.bastore, 1) := by decide +kernel
theorem dX6_shearColumns_92 : decode cX6_shearColumns 92 = .ok (.iinc 8 1, 3) := by decide +kernel
theorem dX6_shearColumns_95 : decode cX6_shearColumns 95 = .ok (.goto (-48), 3) := by decide +kernel
theorem dX6_shearColumns_98 : decode cX6_shearColumns 98 = .ok (.iinc 6 1, 3) := by decide +kernel
theorem dX6_shearColumns_101 : decode cX6_shearColumns 101 = .ok (.goto (-81), 3) := by decide +kernel
theorem dX6_shearColumns_104 : decode cX6_shearColumns 104 = .ok (.aload_n 0, 1) := by decide +kernel
theorem dX6_shearColumns_105 : decode cX6_shearColumns 105 = .ok (.invokevirtual 128, 3) := by decide +kernel
theorem dX6_shearColumns_108 : decode cX6_shearColumns 108 = .ok (.return_, 1) := by decide +kernel
set_option maxRecDepth 20000 in
theorem ggX6_shear_X6_slope : GoodIn wsX6_shear wsX6_slope := goodIn_r _ [5, 6, 7, 8, 9, 10, 4, 11, 12, 13] (by decide +kernel) (by decide +kernel)
set_option maxRecDepth 20000 in
theorem gX6_shear_X6_slope : GoodIn wsX6_shear (va_wsS RX6 85 yX6_slope wsX6_slope) := goodIn_app (goodIn_of _ (by decide +kernel)) ggX6_shear_X6_slope
set_option maxRecDepth 20000 in
theorem ggX6_shear_X6_shearRows : GoodIn wsX6_shear wsX6_shearRows := goodIn_r _ [17, 18, 1, 19, 20, 21, 22, 23, 24, 4, 25, 26, 27, 28, 29, 30, 31, 32, 33, 34, 35, 36, 47, 48, 49, 50, 51, 52, 53, 54, 55, 56, 57, 58, 59, 60] (by decide +kernel) (by decide +kernel)
set_option maxRecDepth 20000 in
theorem gX6_shear_X6_shearRows : GoodIn wsX6_shear (wsV RX6 131 RX6 yX6_shearRows wsX6_shearRows) := goodIn_app (goodIn_of _ (by decide +kernel)) ggX6_shear_X6_shearRows
set_option maxRecDepth 20000 in
theorem ggX6_shear_X6_sine : GoodIn wsX6_shear wsX6_sine := goodIn_r _ [39, 40, 41, 42, 9, 10, 4, 11, 12, 13] (by decide +kernel) (by decide +kernel)
set_option maxRecDepth 20000 in
theorem gX6_shear_X6_sine : GoodIn wsX6_shear (va_wsS RX6 135 yX6_sine wsX6_sine) := goodIn_app (goodIn_of _ (by decide +kernel)) ggX6_shear_X6_sine
set_option maxRecDepth 20000 in
theorem ggX6_shear_X6_shearColumns : GoodIn wsX6_shear wsX6_shearColumns := goodIn_r _ [46, 19, 1, 18, 20, 21, 22, 23, 24, 4, 25, 26, 27, 28, 29, 30, 31, 32, 33, 34, 35, 36, 47, 48, 49, 50, 51, 52, 53, 54, 55, 56, 57, 58, 59, 60] (by decide +kernel) (by decide +kernel)
set_option maxRecDepth 20000 in
theorem gX6_shear_X6_shearColumns : GoodIn wsX6_shear (wsV RX6 138 RX6 yX6_shearColumns wsX6_shearColumns) := goodIn_app (goodIn_of _ (by decide +kernel)) ggX6_shear_X6_shearColumns
theorem dX6_shear_0 : decode cX6_shear 0 = .ok (.iload_n 1, 1) := by decide +kernel
theorem dX6_shear_1 : decode cX6_shear 1 = .ok (.i2d, 1) := by decide +kernel
theorem dX6_shear_2 : decode cX6_shear 2 = .ok (.ldc2_w 119, 3) := by decide +kernel
theorem dX6_shear_5 : decode cX6_shear 5 = .ok (.ddiv, 1) := by decide +kernel
theorem dX6_shear_6 : decode cX6_shear 6 = .ok (.invokestatic 85, 3) := by decide +kernel
theorem dX6_shear_9 : decode cX6_shear 9 = .ok (.dstore_n 3, 1) := by decide +kernel
theorem dX6_shear_10 : decode cX6_shear 10 = .ok (.aload_n 0, 1) := by decide +kernel
theorem dX6_shear_11 : decode cX6_shear 11 = .ok (.dload_n 3, 1) := by decide +kernel
theorem dX6_shear_12 : decode cX6_shear 12 = .ok (.iload_n 2, 1) := by decide +kernel
theorem dX6_shear_13 : decode cX6_shear 13 = .ok (.invokevirtual 131, 3) := by decide +kernel
theorem dX6_shear_16 : decode cX6_shear 16 = .ok (.aload_n 0, 1) := by decide +kernel
theorem dX6_shear_17 : decode cX6_shear 17 = .ok (.iload_n 1, 1) := by decide +kernel
theorem dX6_shear_18 : decode cX6_shear 18 = .ok (.i2d, 1) := by decide +kernel
theorem dX6_shear_19 : decode cX6_shear 19 = .ok (.invokestatic 135, 3) := by decide +kernel
theorem dX6_shear_22 : decode cX6_shear 22 = .ok (.iload_n 2, 1) := by decide +kernel
theorem dX6_shear_23 : decode cX6_shear 23 = .ok (.invokevirtual 138, 3) := by decide +kernel
theorem dX6_shear_26 : decode cX6_shear 26 = .ok (.aload_n 0, 1) := by decide +kernel
theorem dX6_shear_27 : decode cX6_shear 27 = .ok (.dload_n 3, 1) := by decide +kernel
theorem dX6_shear_28 : decode cX6_shear 28 = .ok (.iload_n 2, 1) := by decide +kernel
theorem dX6_shear_29 : decode cX6_shear 29 = .ok (.invokevirtual 131, 3) := by decide +kernel
theorem dX6_shear_32 : decode cX6_shear 32 = .ok (.return_, 1) := by decide +kernel
set_option maxRecDepth 20000 in
theorem ggX6_sample_X6_sine : GoodIn wsX6_sample wsX6_sine := goodIn_r _ [8, 9, 10, 11, 12, 13, 7, 14, 15, 16] (by decide +kernel) (by decide +kernel)
set_option maxRecDepth 20000 in
theorem gX6_sample_X6_sine : GoodIn wsX6_sample (va_wsS RX6 135 yX6_sine wsX6_sine) := goodIn_app (goodIn_of _ (by decide +kernel)) ggX6_sample_X6_sine
set_option maxRecDepth 20000 in
theorem ggX6_sample_X6_cosine : GoodIn wsX6_sample wsX6_cosine := goodIn_r _ [19, 20, 21, 22, 12, 13, 7, 14, 15, 16] (by decide +kernel) (by decide +kernel)
set_option maxRecDepth 20000 in
theorem gX6_sample_X6_cosine : GoodIn wsX6_sample (va_wsS RX6 141 yX6_cosine wsX6_cosine) := goodIn_app (goodIn_of _ (by decide +kernel)) ggX6_sample_X6_cosine
set_option maxRecDepth 20000 in
theorem ggX6_sample_X6_forget : GoodIn wsX6_sample wsX6_forget := goodIn_r _ [26, 4, 40, 41, 42, 43, 44, 45, 46, 47, 48, 49, 50, 51, 52, 53] (by decide +kernel) (by decide +kernel)
set_option maxRecDepth 20000 in
theorem gX6_sample_X6_forget : GoodIn wsX6_sample (wsV RX6 121 RX6 yX6_forget wsX6_forget) := goodIn_app (goodIn_of _ (by decide +kernel)) ggX6_sample_X6_forget
set_option maxRecDepth 20000 in
theorem ggX6_sample_X6_wholeOf : GoodIn wsX6_sample wsX6_wholeOf := goodIn_r _ [29, 30] (by decide +kernel) (by decide +kernel)
set_option maxRecDepth 20000 in
theorem gX6_sample_X6_wholeOf : GoodIn wsX6_sample (va_wsS RX6 92 yX6_wholeOf wsX6_wholeOf) := goodIn_app (goodIn_of _ (by decide +kernel)) ggX6_sample_X6_wholeOf
set_option maxRecDepth 20000 in
theorem ggX6_sample_X6_isOn : GoodIn wsX6_sample wsX6_isOn := goodIn_r _ [34, 1, 3, 35, 40, 41, 42, 43, 44, 45, 46, 47, 48, 49, 50, 51, 52, 53] (by decide +kernel) (by decide +kernel)
set_option maxRecDepth 20000 in
theorem gX6_sample_X6_isOn : GoodIn wsX6_sample (wsV RX6 79 RX6 yX6_isOn wsX6_isOn) := goodIn_app (goodIn_of _ (by decide +kernel)) ggX6_sample_X6_isOn
set_option maxRecDepth 20000 in
theorem ggX6_sample_X6_change : GoodIn wsX6_sample wsX6_change := goodIn_r _ [39, 35, 4, 40, 41, 42, 43, 44, 45, 46, 47, 48, 49, 50, 51, 52, 53] (by decide +kernel) (by decide +kernel)
set_option maxRecDepth 20000 in
theorem gX6_sample_X6_change : GoodIn wsX6_sample (wsV RX6 128 RX6 yX6_change wsX6_change) := goodIn_app (goodIn_of _ (by decide +kernel)) ggX6_sample_X6_change
theorem dX6_sample_0 : decode cX6_sample 0 = .ok (.aload_n 0, 1) := by decide +kernel
theorem dX6_sample_1 : decode cX6_sample 1 = .ok (.getfield 26, 3) := by decide +kernel
theorem dX6_sample_4 : decode cX6_sample 4 = .ok (.iconst 1, 1) := by decide +kernel
theorem dX6_sample_5 : decode cX6_sample 5 = .ok (.isub, 1) := by decide +kernel
theorem dX6_sample_6 : decode cX6_sample 6 = .ok (.i2d, 1) := by decide +kernel
theorem dX6_sample_7 : decode cX6_sample 7 = .ok (.ldc2_w 119, 3) := by decide +kernel
theorem dX6_sample_10 : decode cX6_sample 10 = .ok (.ddiv, 1) := by decide +kernel
theorem dX6_sample_11 : decode cX6_sample 11 = .ok (.dstore_n 2, 1) := by decide +kernel
theorem dX6_sample_12 : decode cX6_sample 12 = .ok (.aload_n 0, 1) := by decide +kernel
theorem dX6_sample_13 : decode cX6_sample 13 = .ok (.getfield 30, 3) := by decide +kernel
theorem dX6_sample_16 : decode cX6_sample 16 = .ok (.iconst 1, 1) := by decide +kernel
theorem dX6_sample_17 : decode cX6_sample 17 = .ok (.isub, 1) := by decide +kernel
theorem dX6_sample_18 : decode cX6_sample 18 = .ok (.i2d, 1) := by decide +kernel
theorem dX6_sample_19 : decode cX6_sample 19 = .ok (.ldc2_w 119, 3) := by decide +kernel
theorem dX6_sample_22 : decode cX6_sample 22 = .ok (.ddiv, 1) := by decide +kernel
theorem dX6_sample_23 : decode cX6_sample 23 = .ok (.dstore 4, 2) := by decide +kernel
theorem dX6_sample_25 : decode cX6_sample 25 = .ok (.iload_n 1, 1) := by decide +kernel
theorem dX6_sample_26 : decode cX6_sample 26 = .ok (.i2d, 1) := by decide +kernel
theorem dX6_sample_27 : decode cX6_sample 27 = .ok (.invokestatic 135, 3) := by decide +kernel
theorem dX6_sample_30 : decode cX6_sample 30 = .ok (.dstore 6, 2) := by decide +kernel
theorem dX6_sample_32 : decode cX6_sample 32 = .ok (.iload_n 1, 1) := by decide +kernel
theorem dX6_sample_33 : decode cX6_sample 33 = .ok (.i2d, 1) := by decide +kernel
theorem dX6_sample_34 : decode cX6_sample 34 = .ok (.invokestatic 141, 3) := by decide +kernel
theorem dX6_sample_37 : decode cX6_sample 37 = .ok (.dstore 8, 2) := by decide +kernel
theorem dX6_sample_39 : decode cX6_sample 39 = .ok (.aload_n 0, 1) := by decide +kernel
theorem dX6_sample_40 : decode cX6_sample 40 = .ok (.invokevirtual 121, 3) := by decide +kernel
theorem dX6_sample_43 : decode cX6_sample 43 = .ok (.iconst 0, 1) := by decide +kernel
theorem dX6_sample_44 : decode cX6_sample 44 = .ok (.istore 10, 2) := by decide +kernel
theorem dX6_sample_46 : decode cX6_sample 46 = .ok (.iload 10, 2) := by decide +kernel
theorem dX6_sample_48 : decode cX6_sample 48 = .ok (.aload_n 0, 1) := by decide +kernel
theorem dX6_sample_49 : decode cX6_sample 49 = .ok (.getfield 30, 3) := by decide +kernel
theorem dX6_sample_52 : decode cX6_sample 52 = .ok (.if_icmp .ge 99, 3) := by decide +kernel
theorem dX6_sample_55 : decode cX6_sample 55 = .ok (.iconst 0, 1) := by decide +kernel
theorem dX6_sample_56 : decode cX6_sample 56 = .ok (.istore 11, 2) := by decide +kernel
theorem dX6_sample_58 : decode cX6_sample 58 = .ok (.iload 11, 2) := by decide +kernel
theorem dX6_sample_60 : decode cX6_sample 60 = .ok (.aload_n 0, 1) := by decide +kernel
theorem dX6_sample_61 : decode cX6_sample 61 = .ok (.getfield 26, 3) := by decide +kernel
theorem dX6_sample_64 : decode cX6_sample 64 = .ok (.if_icmp .ge 81, 3) := by decide +kernel
theorem dX6_sample_67 : decode cX6_sample 67 = .ok (.dload_n 2, 1) := by decide +kernel
theorem dX6_sample_68 : decode cX6_sample 68 = .ok (.iload 11, 2) := by decide +kernel
theorem dX6_sample_70 : decode cX6_sample 70 = .ok (.i2d, 1) := by decide +kernel
theorem dX6_sample_71 : decode cX6_sample 71 = .ok (.dload_n 2, 1) := by decide +kernel
theorem dX6_sample_72 : decode cX6_sample 72 = .ok (.dsub, 1) := by decide +kernel
theorem dX6_sample_73 : decode cX6_sample 73 = .ok (.dload 8, 2) := by decide +kernel
theorem dX6_sample_75 : decode cX6_sample 75 = .ok (.dmul, 1) := by decide +kernel
theorem dX6_sample_76 : decode cX6_sample 76 = .ok (.dadd, 1) := by decide +kernel
theorem dX6_sample_77 : decode cX6_sample 77 = .ok (.iload 10, 2) := by decide +kernel
theorem dX6_sample_79 : decode cX6_sample 79 = .ok (.i2d, 1) := by decide +kernel
theorem dX6_sample_80 : decode cX6_sample 80 = .ok (.dload 4, 2) := by decide +kernel
theorem dX6_sample_82 : decode cX6_sample 82 = .ok (.dsub, 1) := by decide +kernel
theorem dX6_sample_83 : decode cX6_sample 83 = .ok (.dload 6, 2) := by decide +kernel
theorem dX6_sample_85 : decode cX6_sample 85 = .ok (.dmul, 1) := by decide +kernel
theorem dX6_sample_86 : decode cX6_sample 86 = .ok (.dadd, 1) := by decide +kernel
theorem dX6_sample_87 : decode cX6_sample 87 = .ok (.invokestatic 92, 3) := by decide +kernel
theorem dX6_sample_90 : decode cX6_sample 90 = .ok (.istore 12, 2) := by decide +kernel
theorem dX6_sample_92 : decode cX6_sample 92 = .ok (.dload 4, 2) := by decide +kernel
theorem dX6_sample_94 : decode cX6_sample 94 = .ok (.iload 11, 2) := by decide +kernel
theorem dX6_sample_96 : decode cX6_sample 96 = .ok (.i2d, 1) := by decide +kernel
theorem dX6_sample_97 : decode cX6_sample 97 = .ok (.dload_n 2, 1) := by decide +kernel
theorem dX6_sample_98 : decode cX6_sample 98 = .ok (.dsub, 1) := by decide +kernel
theorem dX6_sample_99 : decode cX6_sample 99 = .ok (.dload 6, 2) := by decide +kernel
theorem dX6_sample_101 : decode cX6_sample 101 = .ok (.dmul, 1) := by decide +kernel
theorem dX6_sample_102 : decode cX6_sample 102 = .ok (.dsub, 1) := by decide +kernel
theorem dX6_sample_103 : decode cX6_sample 103 = .ok (.iload 10, 2) := by decide +kernel
theorem dX6_sample_105 : decode cX6_sample 105 = .ok (.i2d, 1) := by decide +kernel
theorem dX6_sample_106 : decode cX6_sample 106 = .ok (.dload 4, 2) := by decide +kernel
theorem dX6_sample_108 : decode cX6_sample 108 = .ok (.dsub, 1) := by decide +kernel
theorem dX6_sample_109 : decode cX6_sample 109 = .ok (.dload 8, 2) := by decide +kernel
theorem dX6_sample_111 : decode cX6_sample 111 = .ok (.dmul, 1) := by decide +kernel
theorem dX6_sample_112 : decode cX6_sample 112 = .ok (.dadd, 1) := by decide +kernel
theorem dX6_sample_113 : decode cX6_sample 113 = .ok (.invokestatic 92, 3) := by decide +kernel
theorem dX6_sample_116 : decode cX6_sample 116 = .ok (.istore 13, 2) := by decide +kernel
theorem dX6_sample_118 : decode cX6_sample 118 = .ok (.aload_n 0, 1) := by decide +kernel
theorem dX6_sample_119 : decode cX6_sample 119 = .ok (.getfield 13, 3) := by decide +kernel
theorem dX6_sample_122 : decode cX6_sample 122 = .ok (.bipush 24, 2) := by decide +kernel
theorem dX6_sample_124 : decode cX6_sample 124 = .ok (.iload 10, 2) := by decide +kernel
theorem dX6_sample_126 : decode cX6_sample 126 = .ok (.imul, 1) := by decide +kernel
theorem dX6_sample_127 : decode cX6_sample 127 = .ok (.iload 11, 2) := by decide +kernel
theorem dX6_sample_129 : decode cX6_sample 129 = .ok (.iadd, 1) := by decide +kernel
theorem dX6_sample_130 : decode cX6_sample 130 = .ok (.aload_n 0, 1) := by decide +kernel
theorem dX6_sample_131 : decode cX6_sample 131 = .ok (.iload 12, 2) := by decide +kernel
theorem dX6_sample_133 : decode cX6_sample 133 = .ok (.iload 13, 2) := by decide +kernel
theorem dX6_sample_135 : decode cX6_sample 135 = .ok (.invokevirtual 79, 3) := by decide +kernel
theorem dX6_sample_138 : decode cX6_sample 138 = .ok (.bastore, 1) := by decide +kernel
theorem dX6_sample_139 : decode cX6_sample 139 = .ok (.iinc 11 1, 3) := by decide +kernel
theorem dX6_sample_142 : decode cX6_sample 142 = .ok (.goto (-84), 3) := by decide +kernel
theorem dX6_sample_145 : decode cX6_sample 145 = .ok (.iinc 10 1, 3) := by decide +kernel
theorem dX6_sample_148 : decode cX6_sample 148 = .ok (.goto (-102), 3) := by decide +kernel
theorem dX6_sample_151 : decode cX6_sample 151 = .ok (.aload_n 0, 1) := by decide +kernel
theorem dX6_sample_152 : decode cX6_sample 152 = .ok (.invokevirtual 128, 3) := by decide +kernel
theorem dX6_sample_155 : decode cX6_sample 155 = .ok (.return_, 1) := by decide +kernel
set_option maxRecDepth 20000 in
theorem ggX6_turn_X6_refuses : GoodIn wsX6_turn wsX6_refuses := goodIn_r _ [7, 8, 82, 83, 84, 85, 86, 87, 88, 89, 90, 91, 92, 93, 94, 95] (by decide +kernel) (by decide +kernel)
set_option maxRecDepth 20000 in
theorem gX6_turn_X6_refuses : GoodIn wsX6_turn (wsV RX6 75 RX6 yX6_refuses wsX6_refuses) := goodIn_app (goodIn_of _ (by decide +kernel)) ggX6_turn_X6_refuses
set_option maxRecDepth 20000 in
theorem ggX6_turn_X6_shear : GoodIn wsX6_turn wsX6_shear := goodIn_r _ [12, 13, 14, 15, 6, 16, 17, 18, 19, 20, 21, 22, 23, 24, 25, 26, 27, 28, 29, 30, 31, 32, 33, 34, 35, 36, 37, 38, 39, 40, 41, 42, 43, 44, 45, 46, 47, 48, 49, 50, 51, 52, 53, 54, 55, 56, 57, 82, 83, 84, 85, 86, 87, 88, 89, 90, 91, 92, 93, 94, 95] (by decide +kernel) (by decide +kernel)
set_option maxRecDepth 20000 in
theorem gX6_turn_X6_shear : GoodIn wsX6_turn (wsV RX6 147 RX6 yX6_shear wsX6_shear) := goodIn_app (goodIn_of _ (by decide +kernel)) ggX6_turn_X6_shear
set_option maxRecDepth 20000 in
theorem ggX6_turn_X6_sample : GoodIn wsX6_turn wsX6_sample := goodIn_r _ [61, 30, 13, 29, 31, 48, 49, 6, 50, 51, 52, 53, 20, 21, 22, 23, 24, 62, 63, 64, 65, 66, 67, 33, 34, 35, 36, 37, 38, 39, 40, 68, 69, 70, 71, 32, 44, 45, 46, 47, 82, 83, 84, 85, 86, 87, 88, 89, 90, 91, 92, 93, 94, 95] (by decide +kernel) (by decide +kernel)
set_option maxRecDepth 20000 in
theorem gX6_turn_X6_sample : GoodIn wsX6_turn (wsV RX6 151 RX6 yX6_sample wsX6_sample) := goodIn_app (goodIn_of _ (by decide +kernel)) ggX6_turn_X6_sample
set_option maxRecDepth 20000 in
theorem ggX6_turn_X6_whole : GoodIn wsX6_turn wsX6_whole := goodIn_r _ [75, 76, 30, 29, 77, 82, 83, 84, 85, 86, 87, 88, 89, 90, 91, 92, 93, 94, 95] (by decide +kernel) (by decide +kernel)
set_option maxRecDepth 20000 in
theorem gX6_turn_X6_whole : GoodIn wsX6_turn (wsV RX6 33 RX6 yX6_whole wsX6_whole) := goodIn_app (goodIn_of _ (by decide +kernel)) ggX6_turn_X6_whole
set_option maxRecDepth 20000 in
theorem ggX6_turn_X6_countOn : GoodIn wsX6_turn wsX6_countOn := goodIn_r _ [81, 32, 82, 83, 84, 85, 86, 87, 88, 89, 90, 91, 92, 93, 94, 95] (by decide +kernel) (by decide +kernel)
set_option maxRecDepth 20000 in
theorem gX6_turn_X6_countOn : GoodIn wsX6_turn (wsV RX6 107 RX6 yX6_countOn wsX6_countOn) := goodIn_app (goodIn_of _ (by decide +kernel)) ggX6_turn_X6_countOn
theorem dX6_turn_0 : decode cX6_turn 0 = .ok (.aload_n 0, 1) := by decide +kernel
theorem dX6_turn_1 : decode cX6_turn 1 = .ok (.iload_n 1, 1) := by decide +kernel
theorem dX6_turn_2 : decode cX6_turn 2 = .ok (.sipush (-2000), 3) := by decide +kernel
theorem dX6_turn_5 : decode cX6_turn 5 = .ok (.if_icmp .lt 10, 3) := by decide +kernel
theorem dX6_turn_8 : decode cX6_turn 8 = .ok (.iload_n 1, 1) := by decide +kernel
theorem dX6_turn_9 : decode cX6_turn 9 = .ok (.sipush 2000, 3) := by decide +kernel
theorem dX6_turn_12 : decode cX6_turn 12 = .ok (.if_icmp .le 7, 3) := by decide +kernel
theorem dX6_turn_15 : decode cX6_turn 15 = .ok (.iconst 1, 1) := by decide +kernel
theorem dX6_turn_16 : decode cX6_turn 16 = .ok (.goto 21, 3) := by decide +kernel
theorem dX6_turn_19 : decode cX6_turn 19 = .ok (.iload_n 2, 1) := by decide +kernel
theorem dX6_turn_20 : decode cX6_turn 20 = .ok (.ifCond .eq 16, 3) := by decide +kernel
theorem dX6_turn_23 : decode cX6_turn 23 = .ok (.aload_n 0, 1) := by decide +kernel
theorem dX6_turn_24 : decode cX6_turn 24 = .ok (.getfield 144, 3) := by decide +kernel
theorem dX6_turn_27 : decode cX6_turn 27 = .ok (.bipush 16, 2) := by decide +kernel
theorem dX6_turn_29 : decode cX6_turn 29 = .ok (.if_icmp .ne 7, 3) := by decide +kernel
theorem dX6_turn_32 : decode cX6_turn 32 = .ok (.iconst 2, 1) := by decide +kernel
theorem dX6_turn_33 : decode cX6_turn 33 = .ok (.goto 4, 3) := by decide +kernel
theorem dX6_turn_36 : decode cX6_turn 36 = .ok (.iconst 0, 1) := by decide +kernel
theorem dX6_turn_37 : decode cX6_turn 37 = .ok (.invokevirtual 75, 3) := by decide +kernel
theorem dX6_turn_40 : decode cX6_turn 40 = .ok (.ifCond .eq 5, 3) := by decide +kernel
theorem dX6_turn_43 : decode cX6_turn 43 = .ok (.iconst 0, 1) := by decide +kernel
theorem dX6_turn_44 : decode cX6_turn 44 = .ok (.ireturn, 1) := by decide +kernel
theorem dX6_turn_45 : decode cX6_turn 45 = .ok (.iload_n 2, 1) := by decide +kernel
theorem dX6_turn_46 : decode cX6_turn 46 = .ok (.ifCond .eq 32, 3) := by decide +kernel
theorem dX6_turn_49 : decode cX6_turn 49 = .ok (.aload_n 0, 1) := by decide +kernel
theorem dX6_turn_50 : decode cX6_turn 50 = .ok (.iload_n 1, 1) := by decide +kernel
theorem dX6_turn_51 : decode cX6_turn 51 = .ok (.iconst 1, 1) := by decide +kernel
theorem dX6_turn_52 : decode cX6_turn 52 = .ok (.invokevirtual 147, 3) := by decide +kernel
theorem dX6_turn_55 : decode cX6_turn 55 = .ok (.aload_n 0, 1) := by decide +kernel
theorem dX6_turn_56 : decode cX6_turn 56 = .ok (.getfield 20, 3) := by decide +kernel
theorem dX6_turn_59 : decode cX6_turn 59 = .ok (.aload_n 0, 1) := by decide +kernel
theorem dX6_turn_60 : decode cX6_turn 60 = .ok (.getfield 144, 3) := by decide +kernel
theorem dX6_turn_63 : decode cX6_turn 63 = .ok (.iload_n 1, 1) := by decide +kernel
theorem dX6_turn_64 : decode cX6_turn 64 = .ok (.iastore, 1) := by decide +kernel
theorem dX6_turn_65 : decode cX6_turn 65 = .ok (.aload_n 0, 1) := by decide +kernel
theorem dX6_turn_66 : decode cX6_turn 66 = .ok (.dup, 1) := by decide +kernel
theorem dX6_turn_67 : decode cX6_turn 67 = .ok (.getfield 144, 3) := by decide +kernel
theorem dX6_turn_70 : decode cX6_turn 70 = .ok (.iconst 1, 1) := by decide +kernel
theorem dX6_turn_71 : decode cX6_turn 71 = .ok (.iadd, 1) := by decide +kernel
theorem dX6_turn_72 : decode cX6_turn 72 = .ok (.putfield 144, 3) := by decide +kernel
theorem dX6_turn_75 : decode cX6_turn 75 = .ok (.goto 13, 3) := by decide +kernel
theorem dX6_turn_78 : decode cX6_turn 78 = .ok (.aload_n 0, 1) := by decide +kernel
theorem dX6_turn_79 : decode cX6_turn 79 = .ok (.iload_n 1, 1) := by decide +kernel
theorem dX6_turn_80 : decode cX6_turn 80 = .ok (.invokevirtual 151, 3) := by decide +kernel
theorem dX6_turn_83 : decode cX6_turn 83 = .ok (.aload_n 0, 1) := by decide +kernel
theorem dX6_turn_84 : decode cX6_turn 84 = .ok (.iconst 0, 1) := by decide +kernel
theorem dX6_turn_85 : decode cX6_turn 85 = .ok (.putfield 144, 3) := by decide +kernel
theorem dX6_turn_88 : decode cX6_turn 88 = .ok (.aload_n 0, 1) := by decide +kernel
theorem dX6_turn_89 : decode cX6_turn 89 = .ok (.invokevirtual 33, 3) := by decide +kernel
theorem dX6_turn_92 : decode cX6_turn 92 = .ok (.aload_n 0, 1) := by decide +kernel
theorem dX6_turn_93 : decode cX6_turn 93 = .ok (.invokevirtual 107, 3) := by decide +kernel
theorem dX6_turn_96 : decode cX6_turn 96 = .ok (.ireturn, 1) := by decide +kernel
set_option maxRecDepth 20000 in
theorem ggX6_back_X6_shear : GoodIn wsX6_back wsX6_shear := goodIn_r _ [8, 9, 10, 11, 7, 12, 13, 14, 15, 16, 17, 18, 19, 20, 21, 22, 23, 24, 25, 26, 27, 28, 29, 30, 31, 32, 33, 34, 35, 36, 37, 38, 39, 40, 41, 42, 43, 44, 45, 46, 47, 48, 49, 50, 51, 52, 53, 60, 61, 62, 63, 64, 65, 66, 67, 68, 69, 70, 71, 72, 73] (by decide +kernel) (by decide +kernel)
set_option maxRecDepth 20000 in
theorem gX6_back_X6_shear : GoodIn wsX6_back (wsV RX6 147 RX6 yX6_shear wsX6_shear) := goodIn_app (goodIn_of _ (by decide +kernel)) ggX6_back_X6_shear
set_option maxRecDepth 20000 in
theorem ggX6_back_X6_whole : GoodIn wsX6_back wsX6_whole := goodIn_r _ [57, 58, 26, 25, 59, 60, 61, 62, 63, 64, 65, 66, 67, 68, 69, 70, 71, 72, 73] (by decide +kernel) (by decide +kernel)
set_option maxRecDepth 20000 in
theorem gX6_back_X6_whole : GoodIn wsX6_back (wsV RX6 33 RX6 yX6_whole wsX6_whole) := goodIn_app (goodIn_of _ (by decide +kernel)) ggX6_back_X6_whole
theorem dX6_back_0 : decode cX6_back 0 = .ok (.aload_n 0, 1) := by decide +kernel
theorem dX6_back_1 : decode cX6_back 1 = .ok (.iconst 0, 1) := by decide +kernel
theorem dX6_back_2 : decode cX6_back 2 = .ok (.putfield 36, 3) := by decide +kernel
theorem dX6_back_5 : decode cX6_back 5 = .ok (.aload_n 0, 1) := by decide +kernel
theorem dX6_back_6 : decode cX6_back 6 = .ok (.getfield 144, 3) := by decide +kernel
theorem dX6_back_9 : decode cX6_back 9 = .ok (.ifCond .ne 5, 3) := by decide +kernel
theorem dX6_back_12 : decode cX6_back 12 = .ok (.iconst (-1), 1) := by decide +kernel
theorem dX6_back_13 : decode cX6_back 13 = .ok (.ireturn, 1) := by decide +kernel
theorem dX6_back_14 : decode cX6_back 14 = .ok (.aload_n 0, 1) := by decide +kernel
theorem dX6_back_15 : decode cX6_back 15 = .ok (.dup, 1) := by decide +kernel
theorem dX6_back_16 : decode cX6_back 16 = .ok (.getfield 144, 3) := by decide +kernel
theorem dX6_back_19 : decode cX6_back 19 = .ok (.iconst 1, 1) := by decide +kernel
theorem dX6_back_20 : decode cX6_back 20 = .ok (.isub, 1) := by decide +kernel
theorem dX6_back_21 : decode cX6_back 21 = .ok (.putfield 144, 3) := by decide +kernel
theorem dX6_back_24 : decode cX6_back 24 = .ok (.aload_n 0, 1) := by decide +kernel
theorem dX6_back_25 : decode cX6_back 25 = .ok (.aload_n 0, 1) := by decide +kernel
theorem dX6_back_26 : decode cX6_back 26 = .ok (.getfield 20, 3) := by decide +kernel
theorem dX6_back_29 : decode cX6_back 29 = .ok (.aload_n 0, 1) := by decide +kernel
theorem dX6_back_30 : decode cX6_back 30 = .ok (.getfield 144, 3) := by decide +kernel
theorem dX6_back_33 : decode cX6_back 33 = .ok (.iaload, 1) := by decide +kernel
theorem dX6_back_34 : decode cX6_back 34 = .ok (.iconst (-1), 1) := by decide +kernel
theorem dX6_back_35 : decode cX6_back 35 = .ok (.invokevirtual 147, 3) := by decide +kernel
theorem dX6_back_38 : decode cX6_back 38 = .ok (.aload_n 0, 1) := by decide +kernel
theorem dX6_back_39 : decode cX6_back 39 = .ok (.invokevirtual 33, 3) := by decide +kernel
theorem dX6_back_42 : decode cX6_back 42 = .ok (.aload_n 0, 1) := by decide +kernel
theorem dX6_back_43 : decode cX6_back 43 = .ok (.getfield 144, 3) := by decide +kernel
theorem dX6_back_46 : decode cX6_back 46 = .ok (.ireturn, 1) := by decide +kernel
set_option maxRecDepth 20000 in
theorem ggX6_isBare_X6_isOn : GoodIn wsX6_isBare wsX6_isOn := goodIn_r _ [5, 6, 7, 8, 9, 10, 11, 12, 13, 14, 15, 16, 17, 18, 19, 20, 21, 22] (by decide +kernel) (by decide +kernel)
set_option maxRecDepth 20000 in
theorem gX6_isBare_X6_isOn : GoodIn wsX6_isBare (wsV RX6 79 RX6 yX6_isOn wsX6_isOn) := goodIn_app (goodIn_of _ (by decide +kernel)) ggX6_isBare_X6_isOn
theorem dX6_isBare_0 : decode cX6_isBare 0 = .ok (.iconst 1, 1) := by decide +kernel
theorem dX6_isBare_1 : decode cX6_isBare 1 = .ok (.istore_n 3, 1) := by decide +kernel
theorem dX6_isBare_2 : decode cX6_isBare 2 = .ok (.iconst 0, 1) := by decide +kernel
theorem dX6_isBare_3 : decode cX6_isBare 3 = .ok (.istore 4, 2) := by decide +kernel
theorem dX6_isBare_5 : decode cX6_isBare 5 = .ok (.iload 4, 2) := by decide +kernel
theorem dX6_isBare_7 : decode cX6_isBare 7 = .ok (.bipush 24, 2) := by decide +kernel
theorem dX6_isBare_9 : decode cX6_isBare 9 = .ok (.if_icmp .ge 48, 3) := by decide +kernel
theorem dX6_isBare_12 : decode cX6_isBare 12 = .ok (.iload_n 3, 1) := by decide +kernel
theorem dX6_isBare_13 : decode cX6_isBare 13 = .ok (.ifCond .eq 36, 3) := by decide +kernel
theorem dX6_isBare_16 : decode cX6_isBare 16 = .ok (.iload_n 1, 1) := by decide +kernel
theorem dX6_isBare_17 : decode cX6_isBare 17 = .ok (.iconst 2, 1) := by decide +kernel
theorem dX6_isBare_18 : decode cX6_isBare 18 = .ok (.irem, 1) := by decide +kernel
theorem dX6_isBare_19 : decode cX6_isBare 19 = .ok (.ifCond .ne 16, 3) := by decide +kernel
theorem dX6_isBare_22 : decode cX6_isBare 22 = .ok (.aload_n 0, 1) := by decide +kernel
theorem dX6_isBare_23 : decode cX6_isBare 23 = .ok (.iload_n 2, 1) := by decide +kernel
theorem dX6_isBare_24 : decode cX6_isBare 24 = .ok (.iload 4, 2) := by decide +kernel
theorem dX6_isBare_26 : decode cX6_isBare 26 = .ok (.invokevirtual 79, 3) := by decide +kernel
theorem dX6_isBare_29 : decode cX6_isBare 29 = .ok (.ifCond .eq 16, 3) := by decide +kernel
theorem dX6_isBare_32 : decode cX6_isBare 32 = .ok (.goto 17, 3) := by decide +kernel
theorem dX6_isBare_35 : decode cX6_isBare 35 = .ok (.aload_n 0, 1) := by decide +kernel
theorem dX6_isBare_36 : decode cX6_isBare 36 = .ok (.iload 4, 2) := by decide +kernel
theorem dX6_isBare_38 : decode cX6_isBare 38 = .ok (.iload_n 2, 1) := by decide +kernel
theorem dX6_isBare_39 : decode cX6_isBare 39 = .ok (.invokevirtual 79, 3) := by decide +kernel
theorem dX6_isBare_42 : decode cX6_isBare 42 = .ok (.ifCond .ne 7, 3) := by decide +kernel
theorem dX6_isBare_45 : decode cX6_isBare 45 = .ok (.iconst 1, 1) := by decide +kernel
theorem dX6_isBare_46 : decode cX6_isBare 46 = .ok (.goto 4, 3) := by decide +kernel
theorem dX6_isBare_49 : decode cX6_isBare 49 = .ok (.iconst 0, 1) := by decide +kernel
theorem dX6_isBare_50 : decode cX6_isBare 50 = .ok (.istore_n 3, 1) := by decide +kernel
theorem dX6_isBare_51 : decode cX6_isBare 51 = .ok (.iinc 4 1, 3) := by decide +kernel
theorem dX6_isBare_54 : decode cX6_isBare 54 = .ok (.goto (-49), 3) := by decide +kernel
theorem dX6_isBare_57 : decode cX6_isBare 57 = .ok (.iload_n 3, 1) := by decide +kernel
theorem dX6_isBare_58 : decode cX6_isBare 58 = .ok (.ireturn, 1) := by decide +kernel
set_option maxRecDepth 20000 in
theorem ggX6_crop_X6_refuses : GoodIn wsX6_crop wsX6_refuses := goodIn_r _ [6, 7, 23, 24, 25, 26, 27, 28, 29, 30, 31, 32, 33, 34, 35, 36] (by decide +kernel) (by decide +kernel)
set_option maxRecDepth 20000 in
theorem gX6_crop_X6_refuses : GoodIn wsX6_crop (wsV RX6 75 RX6 yX6_refuses wsX6_refuses) := goodIn_app (goodIn_of _ (by decide +kernel)) ggX6_crop_X6_refuses
set_option maxRecDepth 20000 in
theorem ggX6_crop_X6_countOn : GoodIn wsX6_crop wsX6_countOn := goodIn_r _ [11, 12, 23, 24, 25, 26, 27, 28, 29, 30, 31, 32, 33, 34, 35, 36] (by decide +kernel) (by decide +kernel)
set_option maxRecDepth 20000 in
theorem gX6_crop_X6_countOn : GoodIn wsX6_crop (wsV RX6 107 RX6 yX6_countOn wsX6_countOn) := goodIn_app (goodIn_of _ (by decide +kernel)) ggX6_crop_X6_countOn
set_option maxRecDepth 20000 in
theorem ggX6_crop_X6_isBare : GoodIn wsX6_crop wsX6_isBare := goodIn_r _ [16, 17, 18, 19, 5, 20, 21, 22, 12, 23, 24, 25, 26, 27, 28, 29, 30, 31, 32, 33, 34, 35, 36] (by decide +kernel) (by decide +kernel)
set_option maxRecDepth 20000 in
theorem gX6_crop_X6_isBare : GoodIn wsX6_crop (wsV RX6 155 RX6 yX6_isBare wsX6_isBare) := goodIn_app (goodIn_of _ (by decide +kernel)) ggX6_crop_X6_isBare
theorem dX6_crop_0 : decode cX6_crop 0 = .ok (.aload_n 0, 1) := by decide +kernel
theorem dX6_crop_1 : decode cX6_crop 1 = .ok (.iload_n 1, 1) := by decide +kernel
theorem dX6_crop_2 : decode cX6_crop 2 = .ok (.ifCond .lt 8, 3) := by decide +kernel
theorem dX6_crop_5 : decode cX6_crop 5 = .ok (.iload_n 1, 1) := by decide +kernel
theorem dX6_crop_6 : decode cX6_crop 6 = .ok (.iconst 3, 1) := by decide +kernel
theorem dX6_crop_7 : decode cX6_crop 7 = .ok (.if_icmp .le 7, 3) := by decide +kernel
theorem dX6_crop_10 : decode cX6_crop 10 = .ok (.iconst 1, 1) := by decide +kernel
theorem dX6_crop_11 : decode cX6_crop 11 = .ok (.goto 4, 3) := by decide +kernel
theorem dX6_crop_14 : decode cX6_crop 14 = .ok (.iconst 0, 1) := by decide +kernel
theorem dX6_crop_15 : decode cX6_crop 15 = .ok (.invokevirtual 75, 3) := by decide +kernel
theorem dX6_crop_18 : decode cX6_crop 18 = .ok (.ifCond .eq 5, 3) := by decide +kernel
theorem dX6_crop_21 : decode cX6_crop 21 = .ok (.iconst 0, 1) := by decide +kernel
theorem dX6_crop_22 : decode cX6_crop 22 = .ok (.ireturn, 1) := by decide +kernel
theorem dX6_crop_23 : decode cX6_crop 23 = .ok (.iconst 0, 1) := by decide +kernel
theorem dX6_crop_24 : decode cX6_crop 24 = .ok (.istore_n 2, 1) := by decide +kernel
theorem dX6_crop_25 : decode cX6_crop 25 = .ok (.aload_n 0, 1) := by decide +kernel
theorem dX6_crop_26 : decode cX6_crop 26 = .ok (.invokevirtual 107, 3) := by decide +kernel
theorem dX6_crop_29 : decode cX6_crop 29 = .ok (.ifCond .le 7, 3) := by decide +kernel
theorem dX6_crop_32 : decode cX6_crop 32 = .ok (.iconst 1, 1) := by decide +kernel
theorem dX6_crop_33 : decode cX6_crop 33 = .ok (.goto 4, 3) := by decide +kernel
theorem dX6_crop_36 : decode cX6_crop 36 = .ok (.iconst 0, 1) := by decide +kernel
theorem dX6_crop_37 : decode cX6_crop 37 = .ok (.istore_n 3, 1) := by decide +kernel
theorem dX6_crop_38 : decode cX6_crop 38 = .ok (.iload_n 3, 1) := by decide +kernel
theorem dX6_crop_39 : decode cX6_crop 39 = .ok (.ifCond .eq 58, 3) := by decide +kernel
theorem dX6_crop_42 : decode cX6_crop 42 = .ok (.aload_n 0, 1) := by decide +kernel
theorem dX6_crop_43 : decode cX6_crop 43 = .ok (.iload_n 1, 1) := by decide +kernel
theorem dX6_crop_44 : decode cX6_crop 44 = .ok (.iload_n 1, 1) := by decide +kernel
theorem dX6_crop_45 : decode cX6_crop 45 = .ok (.iconst 2, 1) := by decide +kernel
theorem dX6_crop_46 : decode cX6_crop 46 = .ok (.if_icmp .ge 12, 3) := by decide +kernel
theorem dX6_crop_49 : decode cX6_crop 49 = .ok (.aload_n 0, 1) := by decide +kernel
theorem dX6_crop_50 : decode cX6_crop 50 = .ok (.getfield 16, 3) := by decide +kernel
theorem dX6_crop_53 : decode cX6_crop 53 = .ok (.iload_n 1, 1) := by decide +kernel
theorem dX6_crop_54 : decode cX6_crop 54 = .ok (.iaload, 1) := by decide +kernel
theorem dX6_crop_55 : decode cX6_crop 55 = .ok (.goto 11, 3) := by decide +kernel
theorem dX6_crop_58 : decode cX6_crop 58 = .ok (.aload_n 0, 1) := by decide +kernel
theorem dX6_crop_59 : decode cX6_crop 59 = .ok (.getfield 16, 3) := by decide +kernel
theorem dX6_crop_62 : decode cX6_crop 62 = .ok (.iload_n 1, 1) := by decide +kernel
theorem dX6_crop_63 : decode cX6_crop 63 = .ok (.iaload, 1) := by decide +kernel
theorem dX6_crop_64 : decode cX6_crop 64 = .ok (.iconst 1, 1) := by decide +kernel
theorem dX6_crop_65 : decode cX6_crop 65 = .ok (.isub, 1) := by decide +kernel
theorem dX6_crop_66 : decode cX6_crop 66 = .ok (.invokevirtual 155, 3) := by decide +kernel
theorem dX6_crop_69 : decode cX6_crop 69 = .ok (.ifCond .eq 28, 3) := by decide +kernel
theorem dX6_crop_72 : decode cX6_crop 72 = .ok (.aload_n 0, 1) := by decide +kernel
theorem dX6_crop_73 : decode cX6_crop 73 = .ok (.getfield 16, 3) := by decide +kernel
theorem dX6_crop_76 : decode cX6_crop 76 = .ok (.iload_n 1, 1) := by decide +kernel
theorem dX6_crop_77 : decode cX6_crop 77 = .ok (.dup2, 1) := by decide +kernel
theorem dX6_crop_78 : decode cX6_crop 78 = .ok (.iaload, 1) := by decide +kernel
theorem dX6_crop_79 : decode cX6_crop 79 = .ok (.iload_n 1, 1) := by decide +kernel
theorem dX6_crop_80 : decode cX6_crop 80 = .ok (.iconst 2, 1) := by decide +kernel
theorem dX6_crop_81 : decode cX6_crop 81 = .ok (.if_icmp .ge 7, 3) := by decide +kernel
theorem dX6_crop_84 : decode cX6_crop 84 = .ok (.iconst 1, 1) := by decide +kernel
theorem dX6_crop_85 : decode cX6_crop 85 = .ok (.goto 4, 3) := by decide +kernel
theorem dX6_crop_88 : decode cX6_crop 88 = .ok (.iconst (-1), 1) := by decide +kernel
theorem dX6_crop_89 : decode cX6_crop 89 = .ok (.iadd, 1) := by decide +kernel
theorem dX6_crop_90 : decode cX6_crop 90 = .ok (.iastore, 1) := by decide +kernel
theorem dX6_crop_91 : decode cX6_crop 91 = .ok (.iinc 2 1, 3) := by decide +kernel
theorem dX6_crop_94 : decode cX6_crop 94 = .ok (.goto (-56), 3) := by decide +kernel
theorem dX6_crop_97 : decode cX6_crop 97 = .ok (.iload_n 2, 1) := by decide +kernel
theorem dX6_crop_98 : decode cX6_crop 98 = .ok (.ireturn, 1) := by decide +kernel
set_option maxRecDepth 20000 in
theorem ggX6_size_X6_refuses : GoodIn wsX6_size wsX6_refuses := goodIn_r _ [6, 7, 8, 9, 10, 11, 12, 13, 14, 15, 16, 17, 18, 19, 20, 21] (by decide +kernel) (by decide +kernel)
set_option maxRecDepth 20000 in
theorem gX6_size_X6_refuses : GoodIn wsX6_size (wsV RX6 75 RX6 yX6_refuses wsX6_refuses) := goodIn_app (goodIn_of _ (by decide +kernel)) ggX6_size_X6_refuses
theorem dX6_size_0 : decode cX6_size 0 = .ok (.aload_n 0, 1) := by decide +kernel
theorem dX6_size_1 : decode cX6_size 1 = .ok (.iload_n 1, 1) := by decide +kernel
theorem dX6_size_2 : decode cX6_size 2 = .ok (.ifCond .lt 8, 3) := by decide +kernel
theorem dX6_size_5 : decode cX6_size 5 = .ok (.iload_n 1, 1) := by decide +kernel
theorem dX6_size_6 : decode cX6_size 6 = .ok (.iconst 3, 1) := by decide +kernel
theorem dX6_size_7 : decode cX6_size 7 = .ok (.if_icmp .le 7, 3) := by decide +kernel
theorem dX6_size_10 : decode cX6_size 10 = .ok (.iconst 1, 1) := by decide +kernel
theorem dX6_size_11 : decode cX6_size 11 = .ok (.goto 4, 3) := by decide +kernel
theorem dX6_size_14 : decode cX6_size 14 = .ok (.iconst 0, 1) := by decide +kernel
theorem dX6_size_15 : decode cX6_size 15 = .ok (.invokevirtual 75, 3) := by decide +kernel
theorem dX6_size_18 : decode cX6_size 18 = .ok (.ifCond .eq 7, 3) := by decide +kernel
theorem dX6_size_21 : decode cX6_size 21 = .ok (.iconst 0, 1) := by decide +kernel
theorem dX6_size_22 : decode cX6_size 22 = .ok (.goto 9, 3) := by decide +kernel
theorem dX6_size_25 : decode cX6_size 25 = .ok (.aload_n 0, 1) := by decide +kernel
theorem dX6_size_26 : decode cX6_size 26 = .ok (.getfield 16, 3) := by decide +kernel
theorem dX6_size_29 : decode cX6_size 29 = .ok (.iload_n 1, 1) := by decide +kernel
theorem dX6_size_30 : decode cX6_size 30 = .ok (.iaload, 1) := by decide +kernel
theorem dX6_size_31 : decode cX6_size 31 = .ok (.ireturn, 1) := by decide +kernel
set_option maxRecDepth 20000 in
theorem ggX6_goTo_X6_isBare : GoodIn wsX6_goTo wsX6_isBare := goodIn_r _ [8, 9, 10, 11, 7, 12, 13, 1, 14, 15, 16, 17, 18, 19, 20, 21, 22, 23, 24, 25, 26, 27, 28] (by decide +kernel) (by decide +kernel)
set_option maxRecDepth 20000 in
theorem gX6_goTo_X6_isBare : GoodIn wsX6_goTo (wsV RX6 155 RX6 yX6_isBare wsX6_isBare) := goodIn_app (goodIn_of _ (by decide +kernel)) ggX6_goTo_X6_isBare
theorem dX6_goTo_0 : decode cX6_goTo 0 = .ok (.iconst (-1), 1) := by decide +kernel
theorem dX6_goTo_1 : decode cX6_goTo 1 = .ok (.istore_n 2, 1) := by decide +kernel
theorem dX6_goTo_2 : decode cX6_goTo 2 = .ok (.iconst 0, 1) := by decide +kernel
theorem dX6_goTo_3 : decode cX6_goTo 3 = .ok (.istore_n 3, 1) := by decide +kernel
theorem dX6_goTo_4 : decode cX6_goTo 4 = .ok (.iload_n 3, 1) := by decide +kernel
theorem dX6_goTo_5 : decode cX6_goTo 5 = .ok (.aload_n 0, 1) := by decide +kernel
theorem dX6_goTo_6 : decode cX6_goTo 6 = .ok (.getfield 30, 3) := by decide +kernel
theorem dX6_goTo_9 : decode cX6_goTo 9 = .ok (.if_icmp .ge 93, 3) := by decide +kernel
theorem dX6_goTo_12 : decode cX6_goTo 12 = .ok (.aload_n 0, 1) := by decide +kernel
theorem dX6_goTo_13 : decode cX6_goTo 13 = .ok (.iconst 1, 1) := by decide +kernel
theorem dX6_goTo_14 : decode cX6_goTo 14 = .ok (.iload_n 3, 1) := by decide +kernel
theorem dX6_goTo_15 : decode cX6_goTo 15 = .ok (.invokevirtual 155, 3) := by decide +kernel
theorem dX6_goTo_18 : decode cX6_goTo 18 = .ok (.ifCond .ne 78, 3) := by decide +kernel
theorem dX6_goTo_21 : decode cX6_goTo 21 = .ok (.iload_n 3, 1) := by decide +kernel
theorem dX6_goTo_22 : decode cX6_goTo 22 = .ok (.ifCond .eq 14, 3) := by decide +kernel
theorem dX6_goTo_25 : decode cX6_goTo 25 = .ok (.aload_n 0, 1) := by decide +kernel
theorem dX6_goTo_26 : decode cX6_goTo 26 = .ok (.iconst 1, 1) := by decide +kernel
theorem dX6_goTo_27 : decode cX6_goTo 27 = .ok (.iload_n 3, 1) := by decide +kernel
theorem dX6_goTo_28 : decode cX6_goTo 28 = .ok (.iconst 1, 1) := by decide +kernel
theorem dX6_goTo_29 : decode cX6_goTo 29 = .ok (.isub, 1) := by decide +kernel
theorem dX6_goTo_30 : decode cX6_goTo 30 = .ok (.invokevirtual 155, 3) := by decide +kernel
theorem dX6_goTo_33 : decode cX6_goTo 33 = .ok (.ifCond .eq 63, 3) := by decide +kernel
theorem dX6_goTo_36 : decode cX6_goTo 36 = .ok (.iinc 2 1, 3) := by decide +kernel
theorem dX6_goTo_39 : decode cX6_goTo 39 = .ok (.iload_n 2, 1) := by decide +kernel
theorem dX6_goTo_40 : decode cX6_goTo 40 = .ok (.iload_n 1, 1) := by decide +kernel
theorem dX6_goTo_41 : decode cX6_goTo 41 = .ok (.if_icmp .ne 55, 3) := by decide +kernel
theorem dX6_goTo_44 : decode cX6_goTo 44 = .ok (.aload_n 0, 1) := by decide +kernel
theorem dX6_goTo_45 : decode cX6_goTo 45 = .ok (.iload_n 3, 1) := by decide +kernel
theorem dX6_goTo_46 : decode cX6_goTo 46 = .ok (.putfield 158, 3) := by decide +kernel
theorem dX6_goTo_49 : decode cX6_goTo 49 = .ok (.aload_n 0, 1) := by decide +kernel
theorem dX6_goTo_50 : decode cX6_goTo 50 = .ok (.iconst 0, 1) := by decide +kernel
theorem dX6_goTo_51 : decode cX6_goTo 51 = .ok (.putfield 161, 3) := by decide +kernel
theorem dX6_goTo_54 : decode cX6_goTo 54 = .ok (.iload_n 3, 1) := by decide +kernel
theorem dX6_goTo_55 : decode cX6_goTo 55 = .ok (.aload_n 0, 1) := by decide +kernel
theorem dX6_goTo_56 : decode cX6_goTo 56 = .ok (.getfield 161, 3) := by decide +kernel
theorem dX6_goTo_59 : decode cX6_goTo 59 = .ok (.iadd, 1) := by decide +kernel
theorem dX6_goTo_60 : decode cX6_goTo 60 = .ok (.aload_n 0, 1) := by decide +kernel
theorem dX6_goTo_61 : decode cX6_goTo 61 = .ok (.getfield 30, 3) := by decide +kernel
theorem dX6_goTo_64 : decode cX6_goTo 64 = .ok (.if_icmp .ge 30, 3) := by decide +kernel
theorem dX6_goTo_67 : decode cX6_goTo 67 = .ok (.aload_n 0, 1) := by decide +kernel
theorem dX6_goTo_68 : decode cX6_goTo 68 = .ok (.iconst 1, 1) := by decide +kernel
theorem dX6_goTo_69 : decode cX6_goTo 69 = .ok (.iload_n 3, 1) := by decide +kernel
theorem dX6_goTo_70 : decode cX6_goTo 70 = .ok (.aload_n 0, 1) := by decide +kernel
theorem dX6_goTo_71 : decode cX6_goTo 71 = .ok (.getfield 161, 3) := by decide +kernel
theorem dX6_goTo_74 : decode cX6_goTo 74 = .ok (.iadd, 1) := by decide +kernel
theorem dX6_goTo_75 : decode cX6_goTo 75 = .ok (.invokevirtual 155, 3) := by decide +kernel
theorem dX6_goTo_78 : decode cX6_goTo 78 = .ok (.ifCond .ne 16, 3) := by decide +kernel
theorem dX6_goTo_81 : decode cX6_goTo 81 = .ok (.aload_n 0, 1) := by decide +kernel
theorem dX6_goTo_82 : decode cX6_goTo 82 = .ok (.dup, 1) := by decide +kernel
theorem dX6_goTo_83 : decode cX6_goTo 83 = .ok (.getfield 161, 3) := by decide +kernel
theorem dX6_goTo_86 : decode cX6_goTo 86 = .ok (.iconst 1, 1) := by decide +kernel
theorem dX6_goTo_87 : decode cX6_goTo 87 = .ok (.iadd, 1) := by decide +kernel
theorem dX6_goTo_88 : decode cX6_goTo 88 = .ok (.putfield 161, 3) := by decide +kernel
theorem dX6_goTo_91 : decode cX6_goTo 91 = .ok (.goto (-37), 3) := by decide +kernel
theorem dX6_goTo_94 : decode cX6_goTo 94 = .ok (.iconst 1, 1) := by decide +kernel
theorem dX6_goTo_95 : decode cX6_goTo 95 = .ok (.ireturn, 1) := by decide +kernel
theorem dX6_goTo_96 : decode cX6_goTo 96 = .ok (.iinc 3 1, 3) := by decide +kernel
theorem dX6_goTo_99 : decode cX6_goTo 99 = .ok (.goto (-95), 3) := by decide +kernel
theorem dX6_goTo_102 : decode cX6_goTo 102 = .ok (.iconst 0, 1) := by decide +kernel
theorem dX6_goTo_103 : decode cX6_goTo 103 = .ok (.ireturn, 1) := by decide +kernel
set_option maxRecDepth 20000 in
theorem ggX6_bands_X6_goTo : GoodIn wsX6_bands wsX6_goTo := goodIn_r _ [6, 7, 8, 9, 10, 11, 12, 5, 13, 14, 15, 16, 17, 18, 19, 20, 21, 22, 23, 24, 25, 26, 27, 28, 29, 30, 31, 32, 33] (by decide +kernel) (by decide +kernel)
set_option maxRecDepth 20000 in
theorem gX6_bands_X6_goTo : GoodIn wsX6_bands (wsV RX6 164 RX6 yX6_goTo wsX6_goTo) := goodIn_app (goodIn_of _ (by decide +kernel)) ggX6_bands_X6_goTo
theorem dX6_bands_0 : decode cX6_bands 0 = .ok (.aload_n 0, 1) := by decide +kernel
theorem dX6_bands_1 : decode cX6_bands 1 = .ok (.iconst 0, 1) := by decide +kernel
theorem dX6_bands_2 : decode cX6_bands 2 = .ok (.putfield 36, 3) := by decide +kernel
theorem dX6_bands_5 : decode cX6_bands 5 = .ok (.iconst 0, 1) := by decide +kernel
theorem dX6_bands_6 : decode cX6_bands 6 = .ok (.istore_n 1, 1) := by decide +kernel
theorem dX6_bands_7 : decode cX6_bands 7 = .ok (.aload_n 0, 1) := by decide +kernel
theorem dX6_bands_8 : decode cX6_bands 8 = .ok (.iload_n 1, 1) := by decide +kernel
theorem dX6_bands_9 : decode cX6_bands 9 = .ok (.invokevirtual 164, 3) := by decide +kernel
theorem dX6_bands_12 : decode cX6_bands 12 = .ok (.ifCond .eq 9, 3) := by decide +kernel
theorem dX6_bands_15 : decode cX6_bands 15 = .ok (.iinc 1 1, 3) := by decide +kernel
theorem dX6_bands_18 : decode cX6_bands 18 = .ok (.goto (-11), 3) := by decide +kernel
theorem dX6_bands_21 : decode cX6_bands 21 = .ok (.iload_n 1, 1) := by decide +kernel
theorem dX6_bands_22 : decode cX6_bands 22 = .ok (.ireturn, 1) := by decide +kernel
set_option maxRecDepth 20000 in
theorem ggX6_onIn_X6_isOn : GoodIn wsX6_onIn wsX6_isOn := goodIn_r _ [6, 1, 7, 8, 9, 10, 11, 12, 13, 14, 15, 16, 17, 18, 19, 20, 21, 22] (by decide +kernel) (by decide +kernel)
set_option maxRecDepth 20000 in
theorem gX6_onIn_X6_isOn : GoodIn wsX6_onIn (wsV RX6 79 RX6 yX6_isOn wsX6_isOn) := goodIn_app (goodIn_of _ (by decide +kernel)) ggX6_onIn_X6_isOn
theorem dX6_onIn_0 : decode cX6_onIn 0 = .ok (.iconst 0, 1) := by decide +kernel
theorem dX6_onIn_1 : decode cX6_onIn 1 = .ok (.istore_n 3, 1) := by decide +kernel
theorem dX6_onIn_2 : decode cX6_onIn 2 = .ok (.iload_n 1, 1) := by decide +kernel
theorem dX6_onIn_3 : decode cX6_onIn 3 = .ok (.istore 4, 2) := by decide +kernel
theorem dX6_onIn_5 : decode cX6_onIn 5 = .ok (.iload 4, 2) := by decide +kernel
theorem dX6_onIn_7 : decode cX6_onIn 7 = .ok (.iload_n 1, 1) := by decide +kernel
theorem dX6_onIn_8 : decode cX6_onIn 8 = .ok (.iload_n 2, 1) := by decide +kernel
theorem dX6_onIn_9 : decode cX6_onIn 9 = .ok (.iadd, 1) := by decide +kernel
theorem dX6_onIn_10 : decode cX6_onIn 10 = .ok (.if_icmp .ge 46, 3) := by decide +kernel
theorem dX6_onIn_13 : decode cX6_onIn 13 = .ok (.iconst 0, 1) := by decide +kernel
theorem dX6_onIn_14 : decode cX6_onIn 14 = .ok (.istore 5, 2) := by decide +kernel
theorem dX6_onIn_16 : decode cX6_onIn 16 = .ok (.iload 5, 2) := by decide +kernel
theorem dX6_onIn_18 : decode cX6_onIn 18 = .ok (.aload_n 0, 1) := by decide +kernel
theorem dX6_onIn_19 : decode cX6_onIn 19 = .ok (.getfield 26, 3) := by decide +kernel
theorem dX6_onIn_22 : decode cX6_onIn 22 = .ok (.if_icmp .ge 28, 3) := by decide +kernel
theorem dX6_onIn_25 : decode cX6_onIn 25 = .ok (.iload_n 3, 1) := by decide +kernel
theorem dX6_onIn_26 : decode cX6_onIn 26 = .ok (.aload_n 0, 1) := by decide +kernel
theorem dX6_onIn_27 : decode cX6_onIn 27 = .ok (.iload 5, 2) := by decide +kernel
theorem dX6_onIn_29 : decode cX6_onIn 29 = .ok (.iload 4, 2) := by decide +kernel
theorem dX6_onIn_31 : decode cX6_onIn 31 = .ok (.invokevirtual 79, 3) := by decide +kernel
theorem dX6_onIn_34 : decode cX6_onIn 34 = .ok (.ifCond .eq 7, 3) := by decide +kernel
theorem dX6_onIn_37 : decode cX6_onIn 37 = .ok (.iconst 1, 1) := by decide +kernel
theorem dX6_onIn_38 : decode cX6_onIn 38 = .ok (.goto 4, 3) := by decide +kernel
theorem dX6_onIn_41 : decode cX6_onIn 41 = .ok (.iconst 0, 1) := by decide +kernel
theorem dX6_onIn_42 : decode cX6_onIn 42 = .ok (.iadd, 1) := by decide +kernel
theorem dX6_onIn_43 : decode cX6_onIn 43 = .ok (.istore_n 3, 1) := by decide +kernel
theorem dX6_onIn_44 : decode cX6_onIn 44 = .ok (.iinc 5 1, 3) := by decide +kernel
theorem dX6_onIn_47 : decode cX6_onIn 47 = .ok (.goto (-31), 3) := by decide +kernel
theorem dX6_onIn_50 : decode cX6_onIn 50 = .ok (.iinc 4 1, 3) := by decide +kernel
theorem dX6_onIn_53 : decode cX6_onIn 53 = .ok (.goto (-48), 3) := by decide +kernel
theorem dX6_onIn_56 : decode cX6_onIn 56 = .ok (.iload_n 3, 1) := by decide +kernel
theorem dX6_onIn_57 : decode cX6_onIn 57 = .ok (.ireturn, 1) := by decide +kernel
set_option maxRecDepth 20000 in
theorem ggX6_band_X6_goTo : GoodIn wsX6_band wsX6_goTo := goodIn_r _ [7, 8, 1, 2, 9, 10, 11, 6, 12, 13, 14, 15, 16, 17, 18, 28, 29, 30, 31, 32, 33, 34, 35, 36, 37, 38, 39, 40, 41] (by decide +kernel) (by decide +kernel)
set_option maxRecDepth 20000 in
theorem gX6_band_X6_goTo : GoodIn wsX6_band (wsV RX6 164 RX6 yX6_goTo wsX6_goTo) := goodIn_app (goodIn_of _ (by decide +kernel)) ggX6_band_X6_goTo
set_option maxRecDepth 20000 in
theorem ggX6_band_X6_refuses : GoodIn wsX6_band wsX6_refuses := goodIn_r _ [22, 23, 28, 29, 30, 31, 32, 33, 34, 35, 36, 37, 38, 39, 40, 41] (by decide +kernel) (by decide +kernel)
set_option maxRecDepth 20000 in
theorem gX6_band_X6_refuses : GoodIn wsX6_band (wsV RX6 75 RX6 yX6_refuses wsX6_refuses) := goodIn_app (goodIn_of _ (by decide +kernel)) ggX6_band_X6_refuses
set_option maxRecDepth 20000 in
theorem ggX6_band_X6_onIn : GoodIn wsX6_band wsX6_onIn := goodIn_r _ [27, 17, 13, 14, 15, 6, 16, 8, 18, 28, 29, 30, 31, 32, 33, 34, 35, 36, 37, 38, 39, 40, 41] (by decide +kernel) (by decide +kernel)
set_option maxRecDepth 20000 in
theorem gX6_band_X6_onIn : GoodIn wsX6_band (wsV RX6 167 RX6 yX6_onIn wsX6_onIn) := goodIn_app (goodIn_of _ (by decide +kernel)) ggX6_band_X6_onIn
theorem dX6_band_0 : decode cX6_band 0 = .ok (.aload_n 0, 1) := by decide +kernel
theorem dX6_band_1 : decode cX6_band 1 = .ok (.aload_n 0, 1) := by decide +kernel
theorem dX6_band_2 : decode cX6_band 2 = .ok (.iload_n 1, 1) := by decide +kernel
theorem dX6_band_3 : decode cX6_band 3 = .ok (.invokevirtual 164, 3) := by decide +kernel
theorem dX6_band_6 : decode cX6_band 6 = .ok (.ifCond .eq 7, 3) := by decide +kernel
theorem dX6_band_9 : decode cX6_band 9 = .ok (.iconst 0, 1) := by decide +kernel
theorem dX6_band_10 : decode cX6_band 10 = .ok (.goto 4, 3) := by decide +kernel
theorem dX6_band_13 : decode cX6_band 13 = .ok (.iconst 1, 1) := by decide +kernel
theorem dX6_band_14 : decode cX6_band 14 = .ok (.invokevirtual 75, 3) := by decide +kernel
theorem dX6_band_17 : decode cX6_band 17 = .ok (.ifCond .eq 5, 3) := by decide +kernel
theorem dX6_band_20 : decode cX6_band 20 = .ok (.iconst 0, 1) := by decide +kernel
theorem dX6_band_21 : decode cX6_band 21 = .ok (.ireturn, 1) := by decide +kernel
theorem dX6_band_22 : decode cX6_band 22 = .ok (.iload_n 2, 1) := by decide +kernel
theorem dX6_band_23 : decode cX6_band 23 = .ok (.ifCond .ne 10, 3) := by decide +kernel
theorem dX6_band_26 : decode cX6_band 26 = .ok (.aload_n 0, 1) := by decide +kernel
theorem dX6_band_27 : decode cX6_band 27 = .ok (.getfield 158, 3) := by decide +kernel
theorem dX6_band_30 : decode cX6_band 30 = .ok (.goto 36, 3) := by decide +kernel
theorem dX6_band_33 : decode cX6_band 33 = .ok (.iload_n 2, 1) := by decide +kernel
theorem dX6_band_34 : decode cX6_band 34 = .ok (.iconst 1, 1) := by decide +kernel
theorem dX6_band_35 : decode cX6_band 35 = .ok (.if_icmp .ne 10, 3) := by decide +kernel
theorem dX6_band_38 : decode cX6_band 38 = .ok (.aload_n 0, 1) := by decide +kernel
theorem dX6_band_39 : decode cX6_band 39 = .ok (.getfield 161, 3) := by decide +kernel
theorem dX6_band_42 : decode cX6_band 42 = .ok (.goto 24, 3) := by decide +kernel
theorem dX6_band_45 : decode cX6_band 45 = .ok (.iload_n 2, 1) := by decide +kernel
theorem dX6_band_46 : decode cX6_band 46 = .ok (.iconst 2, 1) := by decide +kernel
theorem dX6_band_47 : decode cX6_band 47 = .ok (.if_icmp .ne 18, 3) := by decide +kernel
theorem dX6_band_50 : decode cX6_band 50 = .ok (.aload_n 0, 1) := by decide +kernel
theorem dX6_band_51 : decode cX6_band 51 = .ok (.aload_n 0, 1) := by decide +kernel
theorem dX6_band_52 : decode cX6_band 52 = .ok (.getfield 158, 3) := by decide +kernel
theorem dX6_band_55 : decode cX6_band 55 = .ok (.aload_n 0, 1) := by decide +kernel
theorem dX6_band_56 : decode cX6_band 56 = .ok (.getfield 161, 3) := by decide +kernel
theorem dX6_band_59 : decode cX6_band 59 = .ok (.invokevirtual 167, 3) := by decide +kernel
theorem dX6_band_62 : decode cX6_band 62 = .ok (.goto 4, 3) := by decide +kernel
theorem dX6_band_65 : decode cX6_band 65 = .ok (.iconst (-1), 1) := by decide +kernel
theorem dX6_band_66 : decode cX6_band 66 = .ok (.ireturn, 1) := by decide +kernel
set_option maxRecDepth 20000 in
theorem ggX6_line_X6_goTo : GoodIn wsX6_line wsX6_goTo := goodIn_r _ [11, 12, 4, 5, 13, 14, 15, 10, 16, 17, 18, 19, 20, 3, 21, 31, 32, 33, 34, 35, 36, 37, 38, 39, 40, 41, 42, 43, 44] (by decide +kernel) (by decide +kernel)
set_option maxRecDepth 20000 in
theorem gX6_line_X6_goTo : GoodIn wsX6_line (wsV RX6 164 RX6 yX6_goTo wsX6_goTo) := goodIn_app (goodIn_of _ (by decide +kernel)) ggX6_line_X6_goTo
set_option maxRecDepth 20000 in
theorem ggX6_line_X6_refuses : GoodIn wsX6_line wsX6_refuses := goodIn_r _ [25, 26, 31, 32, 33, 34, 35, 36, 37, 38, 39, 40, 41, 42, 43, 44] (by decide +kernel) (by decide +kernel)
set_option maxRecDepth 20000 in
theorem gX6_line_X6_refuses : GoodIn wsX6_line (wsV RX6 75 RX6 yX6_refuses wsX6_refuses) := goodIn_app (goodIn_of _ (by decide +kernel)) ggX6_line_X6_refuses
set_option maxRecDepth 20000 in
theorem ggX6_line_X6_isOn : GoodIn wsX6_line wsX6_isOn := goodIn_r _ [20, 3, 12, 21, 31, 32, 33, 34, 35, 36, 37, 38, 39, 40, 41, 42, 43, 44] (by decide +kernel) (by decide +kernel)
set_option maxRecDepth 20000 in
theorem gX6_line_X6_isOn : GoodIn wsX6_line (wsV RX6 79 RX6 yX6_isOn wsX6_isOn) := goodIn_app (goodIn_of _ (by decide +kernel)) ggX6_line_X6_isOn
set_option maxRecDepth 20000 in
theorem ggX6_line_X6_wholeOf : GoodIn wsX6_line wsX6_wholeOf := goodIn_r _ [29, 30] (by decide +kernel) (by decide +kernel)
set_option maxRecDepth 20000 in
theorem gX6_line_X6_wholeOf : GoodIn wsX6_line (va_wsS RX6 92 yX6_wholeOf wsX6_wholeOf) := goodIn_app (goodIn_of _ (by decide +kernel)) ggX6_line_X6_wholeOf
theorem dX6_line_0 : decode cX6_line 0 = .ok (.aload_n 0, 1) := by decide +kernel
theorem dX6_line_1 : decode cX6_line 1 = .ok (.aload_n 0, 1) := by decide +kernel
theorem dX6_line_2 : decode cX6_line 2 = .ok (.iload_n 1, 1) := by decide +kernel
theorem dX6_line_3 : decode cX6_line 3 = .ok (.invokevirtual 164, 3) := by decide +kernel
theorem dX6_line_6 : decode cX6_line 6 = .ok (.ifCond .ne 7, 3) := by decide +kernel
theorem dX6_line_9 : decode cX6_line 9 = .ok (.iconst 1, 1) := by decide +kernel
theorem dX6_line_10 : decode cX6_line 10 = .ok (.goto 24, 3) := by decide +kernel
theorem dX6_line_13 : decode cX6_line 13 = .ok (.dload_n 2, 1) := by decide +kernel
theorem dX6_line_14 : decode cX6_line 14 = .ok (.ldc2_w 170, 3) := by decide +kernel
theorem dX6_line_17 : decode cX6_line 17 = .ok (.dcmp .l, 1) := by decide +kernel
theorem dX6_line_18 : decode cX6_line 18 = .ok (.ifCond .lt 11, 3) := by decide +kernel
theorem dX6_line_21 : decode cX6_line 21 = .ok (.dload_n 2, 1) := by decide +kernel
theorem dX6_line_22 : decode cX6_line 22 = .ok (.ldc2_w 172, 3) := by decide +kernel
theorem dX6_line_25 : decode cX6_line 25 = .ok (.dcmp .g, 1) := by decide +kernel
theorem dX6_line_26 : decode cX6_line 26 = .ok (.ifCond .le 7, 3) := by decide +kernel
theorem dX6_line_29 : decode cX6_line 29 = .ok (.iconst 2, 1) := by decide +kernel
theorem dX6_line_30 : decode cX6_line 30 = .ok (.goto 4, 3) := by decide +kernel
theorem dX6_line_33 : decode cX6_line 33 = .ok (.iconst 0, 1) := by decide +kernel
theorem dX6_line_34 : decode cX6_line 34 = .ok (.invokevirtual 75, 3) := by decide +kernel
theorem dX6_line_37 : decode cX6_line 37 = .ok (.ifCond .eq 5, 3) := by decide +kernel
theorem dX6_line_40 : decode cX6_line 40 = .ok (.iconst 0, 1) := by decide +kernel
theorem dX6_line_41 : decode cX6_line 41 = .ok (.ireturn, 1) := by decide +kernel
theorem dX6_line_42 : decode cX6_line 42 = .ok (.iconst 0, 1) := by decide +kernel
theorem dX6_line_43 : decode cX6_line 43 = .ok (.istore 4, 2) := by decide +kernel
theorem dX6_line_45 : decode cX6_line 45 = .ok (.iconst 0, 1) := by decide +kernel
theorem dX6_line_46 : decode cX6_line 46 = .ok (.istore 5, 2) := by decide +kernel
theorem dX6_line_48 : decode cX6_line 48 = .ok (.iconst 0, 1) := by decide +kernel
theorem dX6_line_49 : decode cX6_line 49 = .ok (.istore 6, 2) := by decide +kernel
theorem dX6_line_51 : decode cX6_line 51 = .ok (.iconst 0, 1) := by decide +kernel
theorem dX6_line_52 : decode cX6_line 52 = .ok (.istore 7, 2) := by decide +kernel
theorem dX6_line_54 : decode cX6_line 54 = .ok (.iconst 0, 1) := by decide +kernel
theorem dX6_line_55 : decode cX6_line 55 = .ok (.istore 8, 2) := by decide +kernel
theorem dX6_line_57 : decode cX6_line 57 = .ok (.iconst 0, 1) := by decide +kernel
theorem dX6_line_58 : decode cX6_line 58 = .ok (.istore 9, 2) := by decide +kernel
theorem dX6_line_60 : decode cX6_line 60 = .ok (.iload 9, 2) := by decide +kernel
theorem dX6_line_62 : decode cX6_line 62 = .ok (.aload_n 0, 1) := by decide +kernel
theorem dX6_line_63 : decode cX6_line 63 = .ok (.getfield 26, 3) := by decide +kernel
theorem dX6_line_66 : decode cX6_line 66 = .ok (.if_icmp .ge 100, 3) := by decide +kernel
theorem dX6_line_69 : decode cX6_line 69 = .ok (.iconst (-1), 1) := by decide +kernel
theorem dX6_line_70 : decode cX6_line 70 = .ok (.istore 10, 2) := by decide +kernel
theorem dX6_line_72 : decode cX6_line 72 = .ok (.aload_n 0, 1) := by decide +kernel
theorem dX6_line_73 : decode cX6_line 73 = .ok (.getfield 158, 3) := by decide +kernel
theorem dX6_line_76 : decode cX6_line 76 = .ok (.istore 11, 2) := by decide +kernel
theorem dX6_line_78 : decode cX6_line 78 = .ok (.iload 11, 2) := by decide +kernel
theorem dX6_line_80 : decode cX6_line 80 = .ok (.aload_n 0, 1) := by decide +kernel
theorem dX6_line_81 : decode cX6_line 81 = .ok (.getfield 158, 3) := by decide +kernel
theorem dX6_line_84 : decode cX6_line 84 = .ok (.aload_n 0, 1) := by decide +kernel
theorem dX6_line_85 : decode cX6_line 85 = .ok (.getfield 161, 3) := by decide +kernel
theorem dX6_line_88 : decode cX6_line 88 = .ok (.iadd, 1) := by decide +kernel
theorem dX6_line_89 : decode cX6_line 89 = .ok (.if_icmp .ge 29, 3) := by decide +kernel
theorem dX6_line_92 : decode cX6_line 92 = .ok (.aload_n 0, 1) := by decide +kernel
theorem dX6_line_93 : decode cX6_line 93 = .ok (.iload 9, 2) := by decide +kernel
theorem dX6_line_95 : decode cX6_line 95 = .ok (.iload 11, 2) := by decide +kernel
theorem dX6_line_97 : decode cX6_line 97 = .ok (.invokevirtual 79, 3) := by decide +kernel
theorem dX6_line_100 : decode cX6_line 100 = .ok (.ifCond .eq 8, 3) := by decide +kernel
theorem dX6_line_103 : decode cX6_line 103 = .ok (.iload 11, 2) := by decide +kernel
theorem dX6_line_105 : decode cX6_line 105 = .ok (.goto 5, 3) := by decide +kernel
theorem dX6_line_108 : decode cX6_line 108 = .ok (.iload 10, 2) := by decide +kernel
theorem dX6_line_110 : decode cX6_line 110 = .ok (.istore 10, 2) := by decide +kernel
theorem dX6_line_112 : decode cX6_line 112 = .ok (.iinc 11 1, 3) := by decide +kernel
theorem dX6_line_115 : decode cX6_line 115 = .ok (.goto (-37), 3) := by decide +kernel
theorem dX6_line_118 : decode cX6_line 118 = .ok (.iload 10, 2) := by decide +kernel
theorem dX6_line_120 : decode cX6_line 120 = .ok (.ifCond .lt 40, 3) := by decide +kernel
theorem dX6_line_123 : decode cX6_line 123 = .ok (.iinc 4 1, 3) := by decide +kernel
theorem dX6_line_126 : decode cX6_line 126 = .ok (.iload 5, 2) := by decide +kernel
theorem dX6_line_128 : decode cX6_line 128 = .ok (.iload 9, 2) := by decide +kernel
theorem dX6_line_130 : decode cX6_line 130 = .ok (.iadd, 1) := by decide +kernel
theorem dX6_line_131 : decode cX6_line 131 = .ok (.istore 5, 2) := by decide +kernel
theorem dX6_line_133 : decode cX6_line 133 = .ok (.iload 6, 2) := by decide +kernel
theorem dX6_line_135 : decode cX6_line 135 = .ok (.iload 10, 2) := by decide +kernel
theorem dX6_line_137 : decode cX6_line 137 = .ok (.iadd, 1) := by decide +kernel
theorem dX6_line_138 : decode cX6_line 138 = .ok (.istore 6, 2) := by decide +kernel
theorem dX6_line_140 : decode cX6_line 140 = .ok (.iload 7, 2) := by decide +kernel
theorem dX6_line_142 : decode cX6_line 142 = .ok (.iload 9, 2) := by decide +kernel
theorem dX6_line_144 : decode cX6_line 144 = .ok (.iload 9, 2) := by decide +kernel
theorem dX6_line_146 : decode cX6_line 146 = .ok (.imul, 1) := by decide +kernel
theorem dX6_line_147 : decode cX6_line 147 = .ok (.iadd, 1) := by decide +kernel
theorem dX6_line_148 : decode cX6_line 148 = .ok (.istore 7, 2) := by decide +kernel
theorem dX6_line_150 : decode cX6_line 150 = .ok (.iload 8, 2) := by decide +kernel
theorem dX6_line_152 : decode cX6_line 152 = .ok (.iload 9, 2) := by decide +kernel
theorem dX6_line_154 : decode cX6_line 154 = .ok (.iload 10, 2) := by decide +kernel
theorem dX6_line_156 : decode cX6_line 156 = .ok (.imul, 1) := by decide +kernel
theorem dX6_line_157 : decode cX6_line 157 = .ok (.iadd, 1) := by decide +kernel
theorem dX6_line_158 : decode cX6_line 158 = .ok (.istore 8, 2) := by decide +kernel
theorem dX6_line_160 : decode cX6_line 160 = .ok (.iinc 9 1, 3) := by decide +kernel
theorem dX6_line_163 : decode cX6_line 163 = .ok (.goto (-103), 3) := by decide +kernel
theorem dX6_line_166 : decode cX6_line 166 = .ok (.iload 4, 2) := by decide +kernel
theorem dX6_line_168 : decode cX6_line 168 = .ok (.iload 7, 2) := by decide +kernel
theorem dX6_line_170 : decode cX6_line 170 = .ok (.imul, 1) := by decide +kernel
theorem dX6_line_171 : decode cX6_line 171 = .ok (.iload 5, 2) := by decide +kernel
theorem dX6_line_173 : decode cX6_line 173 = .ok (.iload 5, 2) := by decide +kernel
theorem dX6_line_175 : decode cX6_line 175 = .ok (.imul, 1) := by decide +kernel
theorem dX6_line_176 : decode cX6_line 176 = .ok (.isub, 1) := by decide +kernel
theorem dX6_line_177 : decode cX6_line 177 = .ok (.istore 9, 2) := by decide +kernel
theorem dX6_line_179 : decode cX6_line 179 = .ok (.iload 9, 2) := by decide +kernel
theorem dX6_line_181 : decode cX6_line 181 = .ok (.ifCond .ne 18, 3) := by decide +kernel
theorem dX6_line_184 : decode cX6_line 184 = .ok (.ldc2_w 174, 3) := by decide +kernel
theorem dX6_line_187 : decode cX6_line 187 = .ok (.iload 6, 2) := by decide +kernel
theorem dX6_line_189 : decode cX6_line 189 = .ok (.i2d, 1) := by decide +kernel
theorem dX6_line_190 : decode cX6_line 190 = .ok (.iload 4, 2) := by decide +kernel
theorem dX6_line_192 : decode cX6_line 192 = .ok (.i2d, 1) := by decide +kernel
theorem dX6_line_193 : decode cX6_line 193 = .ok (.ddiv, 1) := by decide +kernel
theorem dX6_line_194 : decode cX6_line 194 = .ok (.dmul, 1) := by decide +kernel
theorem dX6_line_195 : decode cX6_line 195 = .ok (.invokestatic 92, 3) := by decide +kernel
theorem dX6_line_198 : decode cX6_line 198 = .ok (.ireturn, 1) := by decide +kernel
theorem dX6_line_199 : decode cX6_line 199 = .ok (.iload 4, 2) := by decide +kernel
theorem dX6_line_201 : decode cX6_line 201 = .ok (.iload 8, 2) := by decide +kernel
theorem dX6_line_203 : decode cX6_line 203 = .ok (.imul, 1) := by decide +kernel
theorem dX6_line_204 : decode cX6_line 204 = .ok (.iload 5, 2) := by decide +kernel
theorem dX6_line_206 : decode cX6_line 206 = .ok (.iload 6, 2) := by decide +kernel
theorem dX6_line_208 : decode cX6_line 208 = .ok (.imul, 1) := by decide +kernel
theorem dX6_line_209 : decode cX6_line 209 = .ok (.isub, 1) := by decide +kernel
theorem dX6_line_210 : decode cX6_line 210 = .ok (.i2d, 1) := by decide +kernel
theorem dX6_line_211 : decode cX6_line 211 = .ok (.iload 9, 2) := by decide +kernel
theorem dX6_line_213 : decode cX6_line 213 = .ok (.i2d, 1) := by decide +kernel
theorem dX6_line_214 : decode cX6_line 214 = .ok (.ddiv, 1) := by decide +kernel
theorem dX6_line_215 : decode cX6_line 215 = .ok (.dstore 10, 2) := by decide +kernel
theorem dX6_line_217 : decode cX6_line 217 = .ok (.ldc2_w 174, 3) := by decide +kernel
theorem dX6_line_220 : decode cX6_line 220 = .ok (.dload 10, 2) := by decide +kernel
theorem dX6_line_222 : decode cX6_line 222 = .ok (.dload_n 2, 1) := by decide +kernel
theorem dX6_line_223 : decode cX6_line 223 = .ok (.dmul, 1) := by decide +kernel
theorem dX6_line_224 : decode cX6_line 224 = .ok (.iload 6, 2) := by decide +kernel
theorem dX6_line_226 : decode cX6_line 226 = .ok (.i2d, 1) := by decide +kernel
theorem dX6_line_227 : decode cX6_line 227 = .ok (.dload 10, 2) := by decide +kernel
theorem dX6_line_229 : decode cX6_line 229 = .ok (.iload 5, 2) := by decide +kernel
theorem dX6_line_231 : decode cX6_line 231 = .ok (.i2d, 1) := by decide +kernel
theorem dX6_line_232 : decode cX6_line 232 = .ok (.dmul, 1) := by decide +kernel
theorem dX6_line_233 : decode cX6_line 233 = .ok (.dsub, 1) := by decide +kernel
theorem dX6_line_234 : decode cX6_line 234 = .ok (.iload 4, 2) := by decide +kernel
theorem dX6_line_236 : decode cX6_line 236 = .ok (.i2d, 1) := by decide +kernel
theorem dX6_line_237 : decode cX6_line 237 = .ok (.ddiv, 1) := by decide +kernel
theorem dX6_line_238 : decode cX6_line 238 = .ok (.dadd, 1) := by decide +kernel
theorem dX6_line_239 : decode cX6_line 239 = .ok (.dmul, 1) := by decide +kernel
theorem dX6_line_240 : decode cX6_line 240 = .ok (.invokestatic 92, 3) := by decide +kernel
theorem dX6_line_243 : decode cX6_line 243 = .ok (.ireturn, 1) := by decide +kernel
set_option maxRecDepth 20000 in
theorem ggX6_upside_X6_goTo : GoodIn wsX6_upside wsX6_goTo := goodIn_r _ [8, 9, 3, 2, 10, 11, 12, 7, 13, 14, 15, 16, 17, 18, 19, 24, 25, 26, 27, 28, 29, 30, 31, 32, 33, 34, 35, 36, 37] (by decide +kernel) (by decide +kernel)
set_option maxRecDepth 20000 in
theorem gX6_upside_X6_goTo : GoodIn wsX6_upside (wsV RX6 164 RX6 yX6_goTo wsX6_goTo) := goodIn_app (goodIn_of _ (by decide +kernel)) ggX6_upside_X6_goTo
set_option maxRecDepth 20000 in
theorem ggX6_upside_X6_onIn : GoodIn wsX6_upside wsX6_onIn := goodIn_r _ [23, 18, 14, 15, 16, 7, 17, 9, 19, 24, 25, 26, 27, 28, 29, 30, 31, 32, 33, 34, 35, 36, 37] (by decide +kernel) (by decide +kernel)
set_option maxRecDepth 20000 in
theorem gX6_upside_X6_onIn : GoodIn wsX6_upside (wsV RX6 167 RX6 yX6_onIn wsX6_onIn) := goodIn_app (goodIn_of _ (by decide +kernel)) ggX6_upside_X6_onIn
theorem dX6_upside_0 : decode cX6_upside 0 = .ok (.aload_n 0, 1) := by decide +kernel
theorem dX6_upside_1 : decode cX6_upside 1 = .ok (.iconst 0, 1) := by decide +kernel
theorem dX6_upside_2 : decode cX6_upside 2 = .ok (.putfield 36, 3) := by decide +kernel
theorem dX6_upside_5 : decode cX6_upside 5 = .ok (.iconst 0, 1) := by decide +kernel
theorem dX6_upside_6 : decode cX6_upside 6 = .ok (.istore_n 1, 1) := by decide +kernel
theorem dX6_upside_7 : decode cX6_upside 7 = .ok (.iconst 0, 1) := by decide +kernel
theorem dX6_upside_8 : decode cX6_upside 8 = .ok (.istore_n 2, 1) := by decide +kernel
theorem dX6_upside_9 : decode cX6_upside 9 = .ok (.iconst 0, 1) := by decide +kernel
theorem dX6_upside_10 : decode cX6_upside 10 = .ok (.istore_n 3, 1) := by decide +kernel
theorem dX6_upside_11 : decode cX6_upside 11 = .ok (.aload_n 0, 1) := by decide +kernel
theorem dX6_upside_12 : decode cX6_upside 12 = .ok (.iload_n 3, 1) := by decide +kernel
theorem dX6_upside_13 : decode cX6_upside 13 = .ok (.invokevirtual 164, 3) := by decide +kernel
theorem dX6_upside_16 : decode cX6_upside 16 = .ok (.ifCond .eq 51, 3) := by decide +kernel
theorem dX6_upside_19 : decode cX6_upside 19 = .ok (.aload_n 0, 1) := by decide +kernel
theorem dX6_upside_20 : decode cX6_upside 20 = .ok (.getfield 161, 3) := by decide +kernel
theorem dX6_upside_23 : decode cX6_upside 23 = .ok (.iconst 2, 1) := by decide +kernel
theorem dX6_upside_24 : decode cX6_upside 24 = .ok (.idiv, 1) := by decide +kernel
theorem dX6_upside_25 : decode cX6_upside 25 = .ok (.istore 4, 2) := by decide +kernel
theorem dX6_upside_27 : decode cX6_upside 27 = .ok (.iload_n 1, 1) := by decide +kernel
theorem dX6_upside_28 : decode cX6_upside 28 = .ok (.aload_n 0, 1) := by decide +kernel
theorem dX6_upside_29 : decode cX6_upside 29 = .ok (.aload_n 0, 1) := by decide +kernel
theorem dX6_upside_30 : decode cX6_upside 30 = .ok (.getfield 158, 3) := by decide +kernel
theorem dX6_upside_33 : decode cX6_upside 33 = .ok (.iload 4, 2) := by decide +kernel
theorem dX6_upside_35 : decode cX6_upside 35 = .ok (.invokevirtual 167, 3) := by decide +kernel
theorem dX6_upside_38 : decode cX6_upside 38 = .ok (.iadd, 1) := by decide +kernel
theorem dX6_upside_39 : decode cX6_upside 39 = .ok (.istore_n 1, 1) := by decide +kernel
theorem dX6_upside_40 : decode cX6_upside 40 = .ok (.iload_n 2, 1) := by decide +kernel
theorem dX6_upside_41 : decode cX6_upside 41 = .ok (.aload_n 0, 1) := by decide +kernel
theorem dX6_upside_42 : decode cX6_upside 42 = .ok (.aload_n 0, 1) := by decide +kernel
theorem dX6_upside_43 : decode cX6_upside 43 = .ok (.getfield 158, 3) := by decide +kernel
theorem dX6_upside_46 : decode cX6_upside 46 = .ok (.aload_n 0, 1) := by decide +kernel
theorem dX6_upside_47 : decode cX6_upside 47 = .ok (.getfield 161, 3) := by decide +kernel
theorem dX6_upside_50 : decode cX6_upside 50 = .ok (.iadd, 1) := by decide +kernel
theorem dX6_upside_51 : decode cX6_upside 51 = .ok (.iload 4, 2) := by decide +kernel
theorem dX6_upside_53 : decode cX6_upside 53 = .ok (.isub, 1) := by decide +kernel
theorem dX6_upside_54 : decode cX6_upside 54 = .ok (.iload 4, 2) := by decide +kernel
theorem dX6_upside_56 : decode cX6_upside 56 = .ok (.invokevirtual 167, 3) := by decide +kernel
theorem dX6_upside_59 : decode cX6_upside 59 = .ok (.iadd, 1) := by decide +kernel
theorem dX6_upside_60 : decode cX6_upside 60 = .ok (.istore_n 2, 1) := by decide +kernel
theorem dX6_upside_61 : decode cX6_upside 61 = .ok (.iinc 3 1, 3) := by decide +kernel
theorem dX6_upside_64 : decode cX6_upside 64 = .ok (.goto (-53), 3) := by decide +kernel
theorem dX6_upside_67 : decode cX6_upside 67 = .ok (.iload_n 2, 1) := by decide +kernel
theorem dX6_upside_68 : decode cX6_upside 68 = .ok (.iload_n 1, 1) := by decide +kernel
theorem dX6_upside_69 : decode cX6_upside 69 = .ok (.if_icmp .le 7, 3) := by decide +kernel
theorem dX6_upside_72 : decode cX6_upside 72 = .ok (.iconst 1, 1) := by decide +kernel
theorem dX6_upside_73 : decode cX6_upside 73 = .ok (.goto 4, 3) := by decide +kernel
theorem dX6_upside_76 : decode cX6_upside 76 = .ok (.iconst 0, 1) := by decide +kernel
theorem dX6_upside_77 : decode cX6_upside 77 = .ok (.ireturn, 1) := by decide +kernel
set_option maxRecDepth 20000 in
theorem ggX6_told_X6_countOn : GoodIn wsX6_told wsX6_countOn := goodIn_r _ [9, 10, 23, 24, 25, 26, 27, 28, 29, 30, 31, 32, 33, 34, 35, 36] (by decide +kernel) (by decide +kernel)
set_option maxRecDepth 20000 in
theorem gX6_told_X6_countOn : GoodIn wsX6_told (wsV RX6 107 RX6 yX6_countOn wsX6_countOn) := goodIn_app (goodIn_of _ (by decide +kernel)) ggX6_told_X6_countOn
set_option maxRecDepth 20000 in
theorem ggX6_told_X6_countEnds : GoodIn wsX6_told wsX6_countEnds := goodIn_r _ [14, 3, 2, 15, 16, 17, 8, 18, 19, 20, 21, 22, 10, 23, 24, 25, 26, 27, 28, 29, 30, 31, 32, 33, 34, 35, 36] (by decide +kernel) (by decide +kernel)
set_option maxRecDepth 20000 in
theorem gX6_told_X6_countEnds : GoodIn wsX6_told (wsV RX6 88 RX6 yX6_countEnds wsX6_countEnds) := goodIn_app (goodIn_of _ (by decide +kernel)) ggX6_told_X6_countEnds
theorem dX6_told_0 : decode cX6_told 0 = .ok (.aload_n 0, 1) := by decide +kernel
theorem dX6_told_1 : decode cX6_told 1 = .ok (.iconst 0, 1) := by decide +kernel
theorem dX6_told_2 : decode cX6_told 2 = .ok (.putfield 36, 3) := by decide +kernel
theorem dX6_told_5 : decode cX6_told 5 = .ok (.iload_n 1, 1) := by decide +kernel
theorem dX6_told_6 : decode cX6_told 6 = .ok (.tableswitch 59 0 4 #[34, 39, 44, 49, 54], 34) := by decide +kernel
theorem dX6_told_40 : decode cX6_told 40 = .ok (.aload_n 0, 1) := by decide +kernel
theorem dX6_told_41 : decode cX6_told 41 = .ok (.getfield 26, 3) := by decide +kernel
theorem dX6_told_44 : decode cX6_told 44 = .ok (.ireturn, 1) := by decide +kernel
theorem dX6_told_45 : decode cX6_told 45 = .ok (.aload_n 0, 1) := by decide +kernel
theorem dX6_told_46 : decode cX6_told 46 = .ok (.getfield 30, 3) := by decide +kernel
theorem dX6_told_49 : decode cX6_told 49 = .ok (.ireturn, 1) := by decide +kernel
theorem dX6_told_50 : decode cX6_told 50 = .ok (.aload_n 0, 1) := by decide +kernel
theorem dX6_told_51 : decode cX6_told 51 = .ok (.invokevirtual 107, 3) := by decide +kernel
theorem dX6_told_54 : decode cX6_told 54 = .ok (.ireturn, 1) := by decide +kernel
theorem dX6_told_55 : decode cX6_told 55 = .ok (.aload_n 0, 1) := by decide +kernel
theorem dX6_told_56 : decode cX6_told 56 = .ok (.invokevirtual 88, 3) := by decide +kernel
theorem dX6_told_59 : decode cX6_told 59 = .ok (.ireturn, 1) := by decide +kernel
theorem dX6_told_60 : decode cX6_told 60 = .ok (.aload_n 0, 1) := by decide +kernel
theorem dX6_told_61 : decode cX6_told 61 = .ok (.getfield 144, 3) := by decide +kernel
theorem dX6_told_64 : decode cX6_told 64 = .ok (.ireturn, 1) := by decide +kernel
theorem dX6_told_65 : decode cX6_told 65 = .ok (.iconst (-1), 1) := by decide +kernel
theorem dX6_told_66 : decode cX6_told 66 = .ok (.ireturn, 1) := by decide +kernel
set_option maxRecDepth 20000 in
theorem ggX6_clear_X6_whole : GoodIn wsX6_clear wsX6_whole := goodIn_r _ [8, 9, 10, 11, 12, 13, 14, 15, 16, 17, 18, 19, 20, 21, 22, 23, 24, 25, 26] (by decide +kernel) (by decide +kernel)
set_option maxRecDepth 20000 in
theorem gX6_clear_X6_whole : GoodIn wsX6_clear (wsV RX6 33 RX6 yX6_whole wsX6_whole) := goodIn_app (goodIn_of _ (by decide +kernel)) ggX6_clear_X6_whole
theorem dX6_clear_0 : decode cX6_clear 0 = .ok (.aload_n 0, 1) := by decide +kernel
theorem dX6_clear_1 : decode cX6_clear 1 = .ok (.iconst 0, 1) := by decide +kernel
theorem dX6_clear_2 : decode cX6_clear 2 = .ok (.putfield 36, 3) := by decide +kernel
theorem dX6_clear_5 : decode cX6_clear 5 = .ok (.iconst 0, 1) := by decide +kernel
theorem dX6_clear_6 : decode cX6_clear 6 = .ok (.istore_n 1, 1) := by decide +kernel
theorem dX6_clear_7 : decode cX6_clear 7 = .ok (.iload_n 1, 1) := by decide +kernel
theorem dX6_clear_8 : decode cX6_clear 8 = .ok (.sipush 576, 3) := by decide +kernel
theorem dX6_clear_11 : decode cX6_clear 11 = .ok (.if_icmp .ge 16, 3) := by decide +kernel
theorem dX6_clear_14 : decode cX6_clear 14 = .ok (.aload_n 0, 1) := by decide +kernel
theorem dX6_clear_15 : decode cX6_clear 15 = .ok (.getfield 7, 3) := by decide +kernel
theorem dX6_clear_18 : decode cX6_clear 18 = .ok (.iload_n 1, 1) := by decide +kernel
theorem dX6_clear_19 : decode cX6_clear 19 = .ok (.iconst 0, 1) := by decide +kernel
theorem dX6_clear_20 : decode cX6_clear 20 = .ok (.bastore, 1) := by decide +kernel
theorem dX6_clear_21 : decode cX6_clear 21 = .ok (.iinc 1 1, 3) := by decide +kernel
theorem dX6_clear_24 : decode cX6_clear 24 = .ok (.goto (-17), 3) := by decide +kernel
theorem dX6_clear_27 : decode cX6_clear 27 = .ok (.aload_n 0, 1) := by decide +kernel
theorem dX6_clear_28 : decode cX6_clear 28 = .ok (.iconst 0, 1) := by decide +kernel
theorem dX6_clear_29 : decode cX6_clear 29 = .ok (.putfield 144, 3) := by decide +kernel
theorem dX6_clear_32 : decode cX6_clear 32 = .ok (.aload_n 0, 1) := by decide +kernel
theorem dX6_clear_33 : decode cX6_clear 33 = .ok (.invokevirtual 33, 3) := by decide +kernel
theorem dX6_clear_36 : decode cX6_clear 36 = .ok (.return_, 1) := by decide +kernel
