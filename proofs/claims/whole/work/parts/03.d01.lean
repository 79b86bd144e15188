/-! printed names, part 03.d01 -/
theorem dX0_init_0 : decode cX0_init 0 = .ok (.aload_n 0, 1) := by decide +kernel
theorem dX0_init_1 : decode cX0_init 1 = .ok (.invokespecial 3, 3) := by decide +kernel
theorem dX0_init_4 : decode cX0_init 4 = .ok (.aload_n 0, 1) := by decide +kernel
theorem dX0_init_5 : decode cX0_init 5 = .ok (.iload_n 1, 1) := by decide +kernel
theorem dX0_init_6 : decode cX0_init 6 = .ok (.putfield 9, 3) := by decide +kernel
theorem dX0_init_9 : decode cX0_init 9 = .ok (.aload_n 0, 1) := by decide +kernel
theorem dX0_init_10 : decode cX0_init 10 = .ok (.iload_n 2, 1) := by decide +kernel
theorem dX0_init_11 : decode cX0_init 11 = .ok (.putfield 15, 3) := by decide +kernel
theorem dX0_init_14 : decode cX0_init 14 = .ok (.aload_n 0, 1) := by decide +kernel
theorem dX0_init_15 : decode cX0_init 15 = .ok (.iload_n 1, 1) := by decide +kernel
theorem dX0_init_16 : decode cX0_init 16 = .ok (.iconst 1, 1) := by decide +kernel
theorem dX0_init_17 : decode cX0_init 17 = .ok (.isub, 1) := by decide +kernel
theorem dX0_init_18 : decode cX0_init 18 = .ok (.i2d, 1) := by decide +kernel
theorem dX0_init_19 : decode cX0_init 19 = .ok (.ldc2_w 18, 3) := by decide +kernel
theorem dX0_init_22 : decode cX0_init 22 = .ok (.ddiv, 1) := by decide +kernel
theorem dX0_init_23 : decode cX0_init 23 = .ok (.putfield 20, 3) := by decide +kernel
theorem dX0_init_26 : decode cX0_init 26 = .ok (.aload_n 0, 1) := by decide +kernel
theorem dX0_init_27 : decode cX0_init 27 = .ok (.iload_n 2, 1) := by decide +kernel
theorem dX0_init_28 : decode cX0_init 28 = .ok (.iconst 1, 1) := by decide +kernel
theorem dX0_init_29 : decode cX0_init 29 = .ok (.isub, 1) := by decide +kernel
theorem dX0_init_30 : decode cX0_init 30 = .ok (.i2d, 1) := by decide +kernel
theorem dX0_init_31 : decode cX0_init 31 = .ok (.ldc2_w 18, 3) := by decide +kernel
theorem dX0_init_34 : decode cX0_init 34 = .ok (.ddiv, 1) := by decide +kernel
theorem dX0_init_35 : decode cX0_init 35 = .ok (.putfield 24, 3) := by decide +kernel
theorem dX0_init_38 : decode cX0_init 38 = .ok (.aload_n 0, 1) := by decide +kernel
theorem dX0_init_39 : decode cX0_init 39 = .ok (.bipush 24, 2) := by decide +kernel
theorem dX0_init_41 : decode cX0_init 41 = .ok (.newarray .int, 2) := by decide +kernel
theorem dX0_init_43 : decode cX0_init 43 = .ok (.putfield 27, 3) := by decide +kernel
theorem dX0_init_46 : decode cX0_init 46 = .ok (.aload_n 0, 1) := by decide +kernel
theorem dX0_init_47 : decode cX0_init 47 = .ok (.bipush 24, 2) := by decide +kernel
theorem dX0_init_49 : decode cX0_init 49 = .ok (.newarray .int, 2) := by decide +kernel
theorem dX0_init_51 : decode cX0_init 51 = .ok (.putfield 31, 3) := by decide +kernel
theorem dX0_init_54 : decode cX0_init 54 = .ok (.return_, 1) := by decide +kernel
theorem dX0_has_0 : decode cX0_has 0 = .ok (.iload_n 1, 1) := by decide +kernel
theorem dX0_has_1 : decode cX0_has 1 = .ok (.ifCond .lt 27, 3) := by decide +kernel
theorem dX0_has_4 : decode cX0_has 4 = .ok (.iload_n 1, 1) := by decide +kernel
theorem dX0_has_5 : decode cX0_has 5 = .ok (.aload_n 0, 1) := by decide +kernel
theorem dX0_has_6 : decode cX0_has 6 = .ok (.getfield 9, 3) := by decide +kernel
theorem dX0_has_9 : decode cX0_has 9 = .ok (.if_icmp .ge 19, 3) := by decide +kernel
theorem dX0_has_12 : decode cX0_has 12 = .ok (.iload_n 2, 1) := by decide +kernel
theorem dX0_has_13 : decode cX0_has 13 = .ok (.ifCond .lt 15, 3) := by decide +kernel
theorem dX0_has_16 : decode cX0_has 16 = .ok (.iload_n 2, 1) := by decide +kernel
theorem dX0_has_17 : decode cX0_has 17 = .ok (.aload_n 0, 1) := by decide +kernel
theorem dX0_has_18 : decode cX0_has 18 = .ok (.getfield 15, 3) := by decide +kernel
theorem dX0_has_21 : decode cX0_has 21 = .ok (.if_icmp .ge 7, 3) := by decide +kernel
theorem dX0_has_24 : decode cX0_has 24 = .ok (.iconst 1, 1) := by decide +kernel
theorem dX0_has_25 : decode cX0_has 25 = .ok (.goto 4, 3) := by decide +kernel
theorem dX0_has_28 : decode cX0_has 28 = .ok (.iconst 0, 1) := by decide +kernel
theorem dX0_has_29 : decode cX0_has 29 = .ok (.ireturn, 1) := by decide +kernel
set_option maxRecDepth 20000 in
theorem ggX0_isOn_X0_has : GoodIn wsX0_isOn wsX0_has := goodIn_r _ [5, 6, 7, 13, 14, 15, 16, 17, 18] (by decide +kernel) (by decide +kernel)
set_option maxRecDepth 20000 in
theorem gX0_isOn_X0_has : GoodIn wsX0_isOn (wsV RX0 34 RX0 yX0_has wsX0_has) := goodIn_app (goodIn_of _ (by decide +kernel)) ggX0_isOn_X0_has
set_option maxRecDepth 20000 in
theorem ggX0_isOn_X0_rowBits : GoodIn wsX0_isOn wsX0_rowBits := goodIn_r _ [11, 12, 13, 14, 15, 16, 17, 18] (by decide +kernel) (by decide +kernel)
set_option maxRecDepth 20000 in
theorem gX0_isOn_X0_rowBits : GoodIn wsX0_isOn (wsV RX0 38 RX0 yX0_rowBits wsX0_rowBits) := goodIn_app (goodIn_of _ (by decide +kernel)) ggX0_isOn_X0_rowBits
theorem dX0_isOn_0 : decode cX0_isOn 0 = .ok (.aload_n 0, 1) := by decide +kernel
theorem dX0_isOn_1 : decode cX0_isOn 1 = .ok (.iload_n 1, 1) := by decide +kernel
theorem dX0_isOn_2 : decode cX0_isOn 2 = .ok (.iload_n 2, 1) := by decide +kernel
theorem dX0_isOn_3 : decode cX0_isOn 3 = .ok (.invokevirtual 34, 3) := by decide +kernel
theorem dX0_isOn_6 : decode cX0_isOn 6 = .ok (.ifCond .eq 19, 3) := by decide +kernel
theorem dX0_isOn_9 : decode cX0_isOn 9 = .ok (.aload_n 0, 1) := by decide +kernel
theorem dX0_isOn_10 : decode cX0_isOn 10 = .ok (.iload_n 2, 1) := by decide +kernel
theorem dX0_isOn_11 : decode cX0_isOn 11 = .ok (.invokevirtual 38, 3) := by decide +kernel
theorem dX0_isOn_14 : decode cX0_isOn 14 = .ok (.iload_n 1, 1) := by decide +kernel
theorem dX0_isOn_15 : decode cX0_isOn 15 = .ok (.iushr, 1) := by decide +kernel
theorem dX0_isOn_16 : decode cX0_isOn 16 = .ok (.iconst 1, 1) := by decide +kernel
theorem dX0_isOn_17 : decode cX0_isOn 17 = .ok (.iand, 1) := by decide +kernel
theorem dX0_isOn_18 : decode cX0_isOn 18 = .ok (.ifCond .eq 7, 3) := by decide +kernel
theorem dX0_isOn_21 : decode cX0_isOn 21 = .ok (.iconst 1, 1) := by decide +kernel
theorem dX0_isOn_22 : decode cX0_isOn 22 = .ok (.goto 4, 3) := by decide +kernel
theorem dX0_isOn_25 : decode cX0_isOn 25 = .ok (.iconst 0, 1) := by decide +kernel
theorem dX0_isOn_26 : decode cX0_isOn 26 = .ok (.ireturn, 1) := by decide +kernel
theorem dX0_rowBits_0 : decode cX0_rowBits 0 = .ok (.iload_n 1, 1) := by decide +kernel
theorem dX0_rowBits_1 : decode cX0_rowBits 1 = .ok (.ifCond .lt 21, 3) := by decide +kernel
theorem dX0_rowBits_4 : decode cX0_rowBits 4 = .ok (.iload_n 1, 1) := by decide +kernel
theorem dX0_rowBits_5 : decode cX0_rowBits 5 = .ok (.aload_n 0, 1) := by decide +kernel
theorem dX0_rowBits_6 : decode cX0_rowBits 6 = .ok (.getfield 27, 3) := by decide +kernel
theorem dX0_rowBits_9 : decode cX0_rowBits 9 = .ok (.arraylength, 1) := by decide +kernel
theorem dX0_rowBits_10 : decode cX0_rowBits 10 = .ok (.if_icmp .ge 12, 3) := by decide +kernel
theorem dX0_rowBits_13 : decode cX0_rowBits 13 = .ok (.aload_n 0, 1) := by decide +kernel
theorem dX0_rowBits_14 : decode cX0_rowBits 14 = .ok (.getfield 27, 3) := by decide +kernel
theorem dX0_rowBits_17 : decode cX0_rowBits 17 = .ok (.iload_n 1, 1) := by decide +kernel
theorem dX0_rowBits_18 : decode cX0_rowBits 18 = .ok (.iaload, 1) := by decide +kernel
theorem dX0_rowBits_19 : decode cX0_rowBits 19 = .ok (.goto 4, 3) := by decide +kernel
theorem dX0_rowBits_22 : decode cX0_rowBits 22 = .ok (.iconst 0, 1) := by decide +kernel
theorem dX0_rowBits_23 : decode cX0_rowBits 23 = .ok (.ireturn, 1) := by decide +kernel
theorem dX0_setRowBits_0 : decode cX0_setRowBits 0 = .ok (.iload_n 1, 1) := by decide +kernel
theorem dX0_setRowBits_1 : decode cX0_setRowBits 1 = .ok (.ifCond .lt 19, 3) := by decide +kernel
theorem dX0_setRowBits_4 : decode cX0_setRowBits 4 = .ok (.iload_n 1, 1) := by decide +kernel
theorem dX0_setRowBits_5 : decode cX0_setRowBits 5 = .ok (.aload_n 0, 1) := by decide +kernel
theorem dX0_setRowBits_6 : decode cX0_setRowBits 6 = .ok (.getfield 27, 3) := by decide +kernel
theorem dX0_setRowBits_9 : decode cX0_setRowBits 9 = .ok (.arraylength, 1) := by decide +kernel
theorem dX0_setRowBits_10 : decode cX0_setRowBits 10 = .ok (.if_icmp .ge 10, 3) := by decide +kernel
theorem dX0_setRowBits_13 : decode cX0_setRowBits 13 = .ok (.aload_n 0, 1) := by decide +kernel
theorem dX0_setRowBits_14 : decode cX0_setRowBits 14 = .ok (.getfield 27, 3) := by decide +kernel
theorem dX0_setRowBits_17 : decode cX0_setRowBits 17 = .ok (.iload_n 1, 1) := by decide +kernel
theorem dX0_setRowBits_18 : decode cX0_setRowBits 18 = .ok (.iload_n 2, 1) := by decide +kernel
theorem dX0_setRowBits_19 : decode cX0_setRowBits 19 = .ok (.iastore, 1) := by decide +kernel
theorem dX0_setRowBits_20 : decode cX0_setRowBits 20 = .ok (.return_, 1) := by decide +kernel
theorem dX0_oldRowBits_0 : decode cX0_oldRowBits 0 = .ok (.iload_n 1, 1) := by decide +kernel
theorem dX0_oldRowBits_1 : decode cX0_oldRowBits 1 = .ok (.ifCond .lt 21, 3) := by decide +kernel
theorem dX0_oldRowBits_4 : decode cX0_oldRowBits 4 = .ok (.iload_n 1, 1) := by decide +kernel
theorem dX0_oldRowBits_5 : decode cX0_oldRowBits 5 = .ok (.aload_n 0, 1) := by decide +kernel
theorem dX0_oldRowBits_6 : decode cX0_oldRowBits 6 = .ok (.getfield 31, 3) := by decide +kernel
theorem dX0_oldRowBits_9 : decode cX0_oldRowBits 9 = .ok (.arraylength, 1) := by decide +kernel
theorem dX0_oldRowBits_10 : decode cX0_oldRowBits 10 = .ok (.if_icmp .ge 12, 3) := by decide +kernel
theorem dX0_oldRowBits_13 : decode cX0_oldRowBits 13 = .ok (.aload_n 0, 1) := by decide +kernel
theorem dX0_oldRowBits_14 : decode cX0_oldRowBits 14 = .ok (.getfield 31, 3) := by decide +kernel
theorem dX0_oldRowBits_17 : decode cX0_oldRowBits 17 = .ok (.iload_n 1, 1) := by decide +kernel
theorem dX0_oldRowBits_18 : decode cX0_oldRowBits 18 = .ok (.iaload, 1) := by decide +kernel
theorem dX0_oldRowBits_19 : decode cX0_oldRowBits 19 = .ok (.goto 4, 3) := by decide +kernel
theorem dX0_oldRowBits_22 : decode cX0_oldRowBits 22 = .ok (.iconst 0, 1) := by decide +kernel
theorem dX0_oldRowBits_23 : decode cX0_oldRowBits 23 = .ok (.ireturn, 1) := by decide +kernel
set_option maxRecDepth 20000 in
theorem ggX0_fill_X0_has : GoodIn wsX0_fill wsX0_has := goodIn_r _ [10, 1, 11, 31, 32, 33, 34, 35, 36] (by decide +kernel) (by decide +kernel)
set_option maxRecDepth 20000 in
theorem gX0_fill_X0_has : GoodIn wsX0_fill (wsV RX0 34 RX0 yX0_has wsX0_has) := goodIn_app (goodIn_of _ (by decide +kernel)) ggX0_fill_X0_has
set_option maxRecDepth 20000 in
theorem ggX0_fill_X0_bitsOf : GoodIn wsX0_fill wsX0_bitsOf := goodIn_r _ [14] (by decide +kernel) (by decide +kernel)
set_option maxRecDepth 20000 in
theorem gX0_fill_X0_bitsOf : GoodIn wsX0_fill (va_wsS RX0 48 yX0_bitsOf wsX0_bitsOf) := goodIn_app (goodIn_of _ (by decide +kernel)) ggX0_fill_X0_bitsOf
set_option maxRecDepth 20000 in
theorem ggX0_fill_X0_rowBits : GoodIn wsX0_fill wsX0_rowBits := goodIn_r _ [18, 19, 31, 32, 33, 34, 35, 36] (by decide +kernel) (by decide +kernel)
set_option maxRecDepth 20000 in
theorem gX0_fill_X0_rowBits : GoodIn wsX0_fill (wsV RX0 38 RX0 yX0_rowBits wsX0_rowBits) := goodIn_app (goodIn_of _ (by decide +kernel)) ggX0_fill_X0_rowBits
set_option maxRecDepth 20000 in
theorem ggX0_fill_X0_setRowBits : GoodIn wsX0_fill wsX0_setRowBits := goodIn_r _ [23, 19, 31, 32, 33, 34, 35, 36] (by decide +kernel) (by decide +kernel)
set_option maxRecDepth 20000 in
theorem gX0_fill_X0_setRowBits : GoodIn wsX0_fill (wsV RX0 51 RX0 yX0_setRowBits wsX0_setRowBits) := goodIn_app (goodIn_of _ (by decide +kernel)) ggX0_fill_X0_setRowBits
set_option maxRecDepth 20000 in
theorem ggX0_fill_J6_bitCount_0f7a4 : GoodIn wsX0_fill wsJ6_bitCount_0f7a4 := goodIn_r _ [27, 28, 29, 30] (by decide +kernel) (by decide +kernel)
set_option maxRecDepth 20000 in
theorem gX0_fill_J6_bitCount_0f7a4 : GoodIn wsX0_fill (va_wsS RX0 55 yJ6_bitCount_0f7a4 wsJ6_bitCount_0f7a4) := goodIn_app (goodIn_of _ (by decide +kernel)) ggX0_fill_J6_bitCount_0f7a4
theorem dX0_fill_0 : decode cX0_fill 0 = .ok (.aload_n 0, 1) := by decide +kernel
theorem dX0_fill_1 : decode cX0_fill 1 = .ok (.iload_n 1, 1) := by decide +kernel
theorem dX0_fill_2 : decode cX0_fill 2 = .ok (.iload_n 2, 1) := by decide +kernel
theorem dX0_fill_3 : decode cX0_fill 3 = .ok (.invokevirtual 34, 3) := by decide +kernel
theorem dX0_fill_6 : decode cX0_fill 6 = .ok (.ifCond .eq 8, 3) := by decide +kernel
theorem dX0_fill_9 : decode cX0_fill 9 = .ok (.iload_n 3, 1) := by decide +kernel
theorem dX0_fill_10 : decode cX0_fill 10 = .ok (.iconst 1, 1) := by decide +kernel
theorem dX0_fill_11 : decode cX0_fill 11 = .ok (.if_icmp .ge 5, 3) := by decide +kernel
theorem dX0_fill_14 : decode cX0_fill 14 = .ok (.iconst 0, 1) := by decide +kernel
theorem dX0_fill_15 : decode cX0_fill 15 = .ok (.ireturn, 1) := by decide +kernel
theorem dX0_fill_16 : decode cX0_fill 16 = .ok (.iload_n 3, 1) := by decide +kernel
theorem dX0_fill_17 : decode cX0_fill 17 = .ok (.aload_n 0, 1) := by decide +kernel
theorem dX0_fill_18 : decode cX0_fill 18 = .ok (.getfield 9, 3) := by decide +kernel
theorem dX0_fill_21 : decode cX0_fill 21 = .ok (.iload_n 1, 1) := by decide +kernel
theorem dX0_fill_22 : decode cX0_fill 22 = .ok (.isub, 1) := by decide +kernel
theorem dX0_fill_23 : decode cX0_fill 23 = .ok (.invokestatic 42, 3) := by decide +kernel
theorem dX0_fill_26 : decode cX0_fill 26 = .ok (.invokestatic 48, 3) := by decide +kernel
theorem dX0_fill_29 : decode cX0_fill 29 = .ok (.iload_n 1, 1) := by decide +kernel
theorem dX0_fill_30 : decode cX0_fill 30 = .ok (.ishl, 1) := by decide +kernel
theorem dX0_fill_31 : decode cX0_fill 31 = .ok (.istore 5, 2) := by decide +kernel
theorem dX0_fill_33 : decode cX0_fill 33 = .ok (.aload_n 0, 1) := by decide +kernel
theorem dX0_fill_34 : decode cX0_fill 34 = .ok (.iload_n 2, 1) := by decide +kernel
theorem dX0_fill_35 : decode cX0_fill 35 = .ok (.invokevirtual 38, 3) := by decide +kernel
theorem dX0_fill_38 : decode cX0_fill 38 = .ok (.istore 6, 2) := by decide +kernel
theorem dX0_fill_40 : decode cX0_fill 40 = .ok (.iload 4, 2) := by decide +kernel
theorem dX0_fill_42 : decode cX0_fill 42 = .ok (.ifCond .eq 11, 3) := by decide +kernel
theorem dX0_fill_45 : decode cX0_fill 45 = .ok (.iload 6, 2) := by decide +kernel
theorem dX0_fill_47 : decode cX0_fill 47 = .ok (.iload 5, 2) := by decide +kernel
theorem dX0_fill_49 : decode cX0_fill 49 = .ok (.ior, 1) := by decide +kernel
theorem dX0_fill_50 : decode cX0_fill 50 = .ok (.goto 10, 3) := by decide +kernel
theorem dX0_fill_53 : decode cX0_fill 53 = .ok (.iload 6, 2) := by decide +kernel
theorem dX0_fill_55 : decode cX0_fill 55 = .ok (.iload 5, 2) := by decide +kernel
theorem dX0_fill_57 : decode cX0_fill 57 = .ok (.iconst (-1), 1) := by decide +kernel
theorem dX0_fill_58 : decode cX0_fill 58 = .ok (.ixor, 1) := by decide +kernel
theorem dX0_fill_59 : decode cX0_fill 59 = .ok (.iand, 1) := by decide +kernel
theorem dX0_fill_60 : decode cX0_fill 60 = .ok (.istore 7, 2) := by decide +kernel
theorem dX0_fill_62 : decode cX0_fill 62 = .ok (.aload_n 0, 1) := by decide +kernel
theorem dX0_fill_63 : decode cX0_fill 63 = .ok (.iload_n 2, 1) := by decide +kernel
theorem dX0_fill_64 : decode cX0_fill 64 = .ok (.iload 7, 2) := by decide +kernel
theorem dX0_fill_66 : decode cX0_fill 66 = .ok (.invokevirtual 51, 3) := by decide +kernel
theorem dX0_fill_69 : decode cX0_fill 69 = .ok (.iload 6, 2) := by decide +kernel
theorem dX0_fill_71 : decode cX0_fill 71 = .ok (.iload 7, 2) := by decide +kernel
theorem dX0_fill_73 : decode cX0_fill 73 = .ok (.ixor, 1) := by decide +kernel
theorem dX0_fill_74 : decode cX0_fill 74 = .ok (.invokestatic 55, 3) := by decide +kernel
theorem dX0_fill_77 : decode cX0_fill 77 = .ok (.ireturn, 1) := by decide +kernel
set_option maxRecDepth 20000 in
theorem ggX0_wipe_X0_setRowBits : GoodIn wsX0_wipe wsX0_setRowBits := goodIn_r _ [6, 7, 8, 9, 10, 11, 12, 13] (by decide +kernel) (by decide +kernel)
set_option maxRecDepth 20000 in
theorem gX0_wipe_X0_setRowBits : GoodIn wsX0_wipe (wsV RX0 51 RX0 yX0_setRowBits wsX0_setRowBits) := goodIn_app (goodIn_of _ (by decide +kernel)) ggX0_wipe_X0_setRowBits
theorem dX0_wipe_0 : decode cX0_wipe 0 = .ok (.iconst 0, 1) := by decide +kernel
theorem dX0_wipe_1 : decode cX0_wipe 1 = .ok (.istore_n 1, 1) := by decide +kernel
theorem dX0_wipe_2 : decode cX0_wipe 2 = .ok (.iload_n 1, 1) := by decide +kernel
theorem dX0_wipe_3 : decode cX0_wipe 3 = .ok (.aload_n 0, 1) := by decide +kernel
theorem dX0_wipe_4 : decode cX0_wipe 4 = .ok (.getfield 15, 3) := by decide +kernel
theorem dX0_wipe_7 : decode cX0_wipe 7 = .ok (.if_icmp .ge 15, 3) := by decide +kernel
theorem dX0_wipe_10 : decode cX0_wipe 10 = .ok (.aload_n 0, 1) := by decide +kernel
theorem dX0_wipe_11 : decode cX0_wipe 11 = .ok (.iload_n 1, 1) := by decide +kernel
theorem dX0_wipe_12 : decode cX0_wipe 12 = .ok (.iconst 0, 1) := by decide +kernel
theorem dX0_wipe_13 : decode cX0_wipe 13 = .ok (.invokevirtual 51, 3) := by decide +kernel
theorem dX0_wipe_16 : decode cX0_wipe 16 = .ok (.iinc 1 1, 3) := by decide +kernel
theorem dX0_wipe_19 : decode cX0_wipe 19 = .ok (.goto (-17), 3) := by decide +kernel
theorem dX0_wipe_22 : decode cX0_wipe 22 = .ok (.return_, 1) := by decide +kernel
set_option maxRecDepth 20000 in
theorem ggX0_samplesOn_X0_rowBits : GoodIn wsX0_samplesOn wsX0_rowBits := goodIn_r _ [6, 7, 15, 16, 17, 18, 19, 20] (by decide +kernel) (by decide +kernel)
set_option maxRecDepth 20000 in
theorem gX0_samplesOn_X0_rowBits : GoodIn wsX0_samplesOn (wsV RX0 38 RX0 yX0_rowBits wsX0_rowBits) := goodIn_app (goodIn_of _ (by decide +kernel)) ggX0_samplesOn_X0_rowBits
set_option maxRecDepth 20000 in
theorem ggX0_samplesOn_J6_bitCount_0f7a4 : GoodIn wsX0_samplesOn wsJ6_bitCount_0f7a4 := goodIn_r _ [11, 12, 13, 14] (by decide +kernel) (by decide +kernel)
set_option maxRecDepth 20000 in
theorem gX0_samplesOn_J6_bitCount_0f7a4 : GoodIn wsX0_samplesOn (va_wsS RX0 55 yJ6_bitCount_0f7a4 wsJ6_bitCount_0f7a4) := goodIn_app (goodIn_of _ (by decide +kernel)) ggX0_samplesOn_J6_bitCount_0f7a4
theorem dX0_samplesOn_0 : decode cX0_samplesOn 0 = .ok (.iconst 0, 1) := by decide +kernel
theorem dX0_samplesOn_1 : decode cX0_samplesOn 1 = .ok (.istore_n 1, 1) := by decide +kernel
theorem dX0_samplesOn_2 : decode cX0_samplesOn 2 = .ok (.iconst 0, 1) := by decide +kernel
theorem dX0_samplesOn_3 : decode cX0_samplesOn 3 = .ok (.istore_n 2, 1) := by decide +kernel
theorem dX0_samplesOn_4 : decode cX0_samplesOn 4 = .ok (.iload_n 2, 1) := by decide +kernel
theorem dX0_samplesOn_5 : decode cX0_samplesOn 5 = .ok (.aload_n 0, 1) := by decide +kernel
theorem dX0_samplesOn_6 : decode cX0_samplesOn 6 = .ok (.getfield 15, 3) := by decide +kernel
theorem dX0_samplesOn_9 : decode cX0_samplesOn 9 = .ok (.if_icmp .ge 20, 3) := by decide +kernel
theorem dX0_samplesOn_12 : decode cX0_samplesOn 12 = .ok (.iload_n 1, 1) := by decide +kernel
theorem dX0_samplesOn_13 : decode cX0_samplesOn 13 = .ok (.aload_n 0, 1) := by decide +kernel
theorem dX0_samplesOn_14 : decode cX0_samplesOn 14 = .ok (.iload_n 2, 1) := by decide +kernel
theorem dX0_samplesOn_15 : decode cX0_samplesOn 15 = .ok (.invokevirtual 38, 3) := by decide +kernel
theorem dX0_samplesOn_18 : decode cX0_samplesOn 18 = .ok (.invokestatic 55, 3) := by decide +kernel
theorem dX0_samplesOn_21 : decode cX0_samplesOn 21 = .ok (.iadd, 1) := by decide +kernel
theorem dX0_samplesOn_22 : decode cX0_samplesOn 22 = .ok (.istore_n 1, 1) := by decide +kernel
theorem dX0_samplesOn_23 : decode cX0_samplesOn 23 = .ok (.iinc 2 1, 3) := by decide +kernel
theorem dX0_samplesOn_26 : decode cX0_samplesOn 26 = .ok (.goto (-22), 3) := by decide +kernel
theorem dX0_samplesOn_29 : decode cX0_samplesOn 29 = .ok (.iload_n 1, 1) := by decide +kernel
theorem dX0_samplesOn_30 : decode cX0_samplesOn 30 = .ok (.ireturn, 1) := by decide +kernel
set_option maxRecDepth 20000 in
theorem ggX0_runEndBits_X0_rowBits : GoodIn wsX0_runEndBits wsX0_rowBits := goodIn_r _ [5, 6, 7, 8, 9, 10, 11, 12] (by decide +kernel) (by decide +kernel)
set_option maxRecDepth 20000 in
theorem gX0_runEndBits_X0_rowBits : GoodIn wsX0_runEndBits (wsV RX0 38 RX0 yX0_rowBits wsX0_rowBits) := goodIn_app (goodIn_of _ (by decide +kernel)) ggX0_runEndBits_X0_rowBits
theorem dX0_runEndBits_0 : decode cX0_runEndBits 0 = .ok (.aload_n 0, 1) := by decide +kernel
theorem dX0_runEndBits_1 : decode cX0_runEndBits 1 = .ok (.iload_n 1, 1) := by decide +kernel
theorem dX0_runEndBits_2 : decode cX0_runEndBits 2 = .ok (.invokevirtual 38, 3) := by decide +kernel
theorem dX0_runEndBits_5 : decode cX0_runEndBits 5 = .ok (.istore_n 2, 1) := by decide +kernel
theorem dX0_runEndBits_6 : decode cX0_runEndBits 6 = .ok (.iload_n 2, 1) := by decide +kernel
theorem dX0_runEndBits_7 : decode cX0_runEndBits 7 = .ok (.iload_n 2, 1) := by decide +kernel
theorem dX0_runEndBits_8 : decode cX0_runEndBits 8 = .ok (.iconst 1, 1) := by decide +kernel
theorem dX0_runEndBits_9 : decode cX0_runEndBits 9 = .ok (.iushr, 1) := by decide +kernel
theorem dX0_runEndBits_10 : decode cX0_runEndBits 10 = .ok (.iconst (-1), 1) := by decide +kernel
theorem dX0_runEndBits_11 : decode cX0_runEndBits 11 = .ok (.ixor, 1) := by decide +kernel
theorem dX0_runEndBits_12 : decode cX0_runEndBits 12 = .ok (.iand, 1) := by decide +kernel
theorem dX0_runEndBits_13 : decode cX0_runEndBits 13 = .ok (.ireturn, 1) := by decide +kernel
set_option maxRecDepth 20000 in
theorem ggX0_runEnds_X0_runEndBits : GoodIn wsX0_runEnds wsX0_runEndBits := goodIn_r _ [6, 7, 8, 9, 5, 10, 11, 19, 20, 21, 22, 23, 24] (by decide +kernel) (by decide +kernel)
set_option maxRecDepth 20000 in
theorem gX0_runEnds_X0_runEndBits : GoodIn wsX0_runEnds (wsV RX0 60 RX0 yX0_runEndBits wsX0_runEndBits) := goodIn_app (goodIn_of _ (by decide +kernel)) ggX0_runEnds_X0_runEndBits
set_option maxRecDepth 20000 in
theorem ggX0_runEnds_J6_bitCount_0f7a4 : GoodIn wsX0_runEnds wsJ6_bitCount_0f7a4 := goodIn_r _ [15, 16, 17, 18] (by decide +kernel) (by decide +kernel)
set_option maxRecDepth 20000 in
theorem gX0_runEnds_J6_bitCount_0f7a4 : GoodIn wsX0_runEnds (va_wsS RX0 55 yJ6_bitCount_0f7a4 wsJ6_bitCount_0f7a4) := goodIn_app (goodIn_of _ (by decide +kernel)) ggX0_runEnds_J6_bitCount_0f7a4
theorem dX0_runEnds_0 : decode cX0_runEnds 0 = .ok (.iconst 0, 1) := by decide +kernel
theorem dX0_runEnds_1 : decode cX0_runEnds 1 = .ok (.istore_n 1, 1) := by decide +kernel
theorem dX0_runEnds_2 : decode cX0_runEnds 2 = .ok (.iconst 0, 1) := by decide +kernel
theorem dX0_runEnds_3 : decode cX0_runEnds 3 = .ok (.istore_n 2, 1) := by decide +kernel
theorem dX0_runEnds_4 : decode cX0_runEnds 4 = .ok (.iload_n 2, 1) := by decide +kernel
theorem dX0_runEnds_5 : decode cX0_runEnds 5 = .ok (.aload_n 0, 1) := by decide +kernel
theorem dX0_runEnds_6 : decode cX0_runEnds 6 = .ok (.getfield 15, 3) := by decide +kernel
theorem dX0_runEnds_9 : decode cX0_runEnds 9 = .ok (.if_icmp .ge 20, 3) := by decide +kernel
theorem dX0_runEnds_12 : decode cX0_runEnds 12 = .ok (.iload_n 1, 1) := by decide +kernel
theorem dX0_runEnds_13 : decode cX0_runEnds 13 = .ok (.aload_n 0, 1) := by decide +kernel
theorem dX0_runEnds_14 : decode cX0_runEnds 14 = .ok (.iload_n 2, 1) := by decide +kernel
theorem dX0_runEnds_15 : decode cX0_runEnds 15 = .ok (.invokevirtual 60, 3) := by decide +kernel
theorem dX0_runEnds_18 : decode cX0_runEnds 18 = .ok (.invokestatic 55, 3) := by decide +kernel
theorem dX0_runEnds_21 : decode cX0_runEnds 21 = .ok (.iadd, 1) := by decide +kernel
theorem dX0_runEnds_22 : decode cX0_runEnds 22 = .ok (.istore_n 1, 1) := by decide +kernel
theorem dX0_runEnds_23 : decode cX0_runEnds 23 = .ok (.iinc 2 1, 3) := by decide +kernel
theorem dX0_runEnds_26 : decode cX0_runEnds 26 = .ok (.goto (-22), 3) := by decide +kernel
theorem dX0_runEnds_29 : decode cX0_runEnds 29 = .ok (.iload_n 1, 1) := by decide +kernel
theorem dX0_runEnds_30 : decode cX0_runEnds 30 = .ok (.ireturn, 1) := by decide +kernel
set_option maxRecDepth 20000 in
theorem ggX0_turnByShears_X0_shearAll : GoodIn wsX0_turnByShears wsX0_shearAll := goodIn_r _ [5, 6, 7, 8, 9, 10, 11, 12, 13, 14, 15, 16, 17, 18, 19, 20, 21, 22, 23, 24, 25, 26, 27, 4, 28, 29, 30, 31, 32, 33, 34, 35, 36, 37, 38, 39, 40, 41, 42, 43, 44, 45, 46, 47, 48, 49, 50, 51, 52, 53, 54, 55, 56, 57, 58, 59, 60, 61, 62, 63, 64, 65, 66, 67, 68, 69, 70, 71, 72, 73, 74, 75, 76, 77, 78, 79, 80, 81, 82] (by decide +kernel) (by decide +kernel)
set_option maxRecDepth 20000 in
theorem gX0_turnByShears_X0_shearAll : GoodIn wsX0_turnByShears (wsV RX0 63 RX0 yX0_shearAll wsX0_shearAll) := goodIn_app (goodIn_of _ (by decide +kernel)) ggX0_turnByShears_X0_shearAll
theorem dX0_turnByShears_0 : decode cX0_turnByShears 0 = .ok (.aload_n 0, 1) := by decide +kernel
theorem dX0_turnByShears_1 : decode cX0_turnByShears 1 = .ok (.iload_n 1, 1) := by decide +kernel
theorem dX0_turnByShears_2 : decode cX0_turnByShears 2 = .ok (.iconst 1, 1) := by decide +kernel
theorem dX0_turnByShears_3 : decode cX0_turnByShears 3 = .ok (.invokevirtual 63, 3) := by decide +kernel
theorem dX0_turnByShears_6 : decode cX0_turnByShears 6 = .ok (.return_, 1) := by decide +kernel
set_option maxRecDepth 20000 in
theorem ggX0_turnBackByShears_X0_shearAll : GoodIn wsX0_turnBackByShears wsX0_shearAll := goodIn_r _ [5, 6, 7, 8, 9, 10, 11, 12, 13, 14, 15, 16, 17, 18, 19, 20, 21, 22, 23, 24, 25, 26, 27, 4, 28, 29, 30, 31, 32, 33, 34, 35, 36, 37, 38, 39, 40, 41, 42, 43, 44, 45, 46, 47, 48, 49, 50, 51, 52, 53, 54, 55, 56, 57, 58, 59, 60, 61, 62, 63, 64, 65, 66, 67, 68, 69, 70, 71, 72, 73, 74, 75, 76, 77, 78, 79, 80, 81, 82] (by decide +kernel) (by decide +kernel)
set_option maxRecDepth 20000 in
theorem gX0_turnBackByShears_X0_shearAll : GoodIn wsX0_turnBackByShears (wsV RX0 63 RX0 yX0_shearAll wsX0_shearAll) := goodIn_app (goodIn_of _ (by decide +kernel)) ggX0_turnBackByShears_X0_shearAll
theorem dX0_turnBackByShears_0 : decode cX0_turnBackByShears 0 = .ok (.aload_n 0, 1) := by decide +kernel
theorem dX0_turnBackByShears_1 : decode cX0_turnBackByShears 1 = .ok (.iload_n 1, 1) := by decide +kernel
theorem dX0_turnBackByShears_2 : decode cX0_turnBackByShears 2 = .ok (.iconst (-1), 1) := by decide +kernel
theorem dX0_turnBackByShears_3 : decode cX0_turnBackByShears 3 = .ok (.invokevirtual 63, 3) := by decide +kernel
theorem dX0_turnBackByShears_6 : decode cX0_turnBackByShears 6 = .ok (.return_, 1) := by decide +kernel
set_option maxRecDepth 20000 in
theorem ggX0_shearAll_X1_slope : GoodIn wsX0_shearAll wsX1_slope := goodIn_r _ [5, 6, 7, 8, 9, 10, 4, 11, 12, 13] (by decide +kernel) (by decide +kernel)
set_option maxRecDepth 20000 in
theorem gX0_shearAll_X1_slope : GoodIn wsX0_shearAll (va_wsS RX0 66 yX1_slope wsX1_slope) := goodIn_app (goodIn_of _ (by decide +kernel)) ggX0_shearAll_X1_slope
set_option maxRecDepth 20000 in
theorem ggX0_shearAll_X1_sine : GoodIn wsX0_shearAll wsX1_sine := goodIn_r _ [16, 17, 18, 19, 9, 10, 4, 11, 12, 13] (by decide +kernel) (by decide +kernel)
set_option maxRecDepth 20000 in
theorem gX0_shearAll_X1_sine : GoodIn wsX0_shearAll (va_wsS RX0 72 yX1_sine wsX1_sine) := goodIn_app (goodIn_of _ (by decide +kernel)) ggX0_shearAll_X1_sine
set_option maxRecDepth 20000 in
theorem ggX0_shearAll_X0_shearRows : GoodIn wsX0_shearAll wsX0_shearRows := goodIn_r _ [24, 25, 26, 27, 28, 4, 29, 30, 31, 32, 33, 23, 34, 35, 36, 37, 38, 39, 40, 41, 42, 43, 44, 45, 46, 47, 48, 49, 50, 51, 52, 53, 54, 73, 74, 75, 76, 77, 78] (by decide +kernel) (by decide +kernel)
set_option maxRecDepth 20000 in
theorem gX0_shearAll_X0_shearRows : GoodIn wsX0_shearAll (wsV RX0 75 RX0 yX0_shearRows wsX0_shearRows) := goodIn_app (goodIn_of _ (by decide +kernel)) ggX0_shearAll_X0_shearRows
set_option maxRecDepth 20000 in
theorem ggX0_shearAll_X0_shearColumns : GoodIn wsX0_shearAll wsX0_shearColumns := goodIn_r _ [58, 40, 59, 25, 60, 61, 62, 23, 63, 64, 31, 32, 33, 34, 35, 65, 66, 67, 68, 51, 52, 53, 54, 27, 28, 4, 29, 30, 41, 42, 43, 44, 45, 46, 47, 69, 70, 71, 72, 73, 74, 75, 76, 77, 78] (by decide +kernel) (by decide +kernel)
set_option maxRecDepth 20000 in
theorem gX0_shearAll_X0_shearColumns : GoodIn wsX0_shearAll (wsV RX0 79 RX0 yX0_shearColumns wsX0_shearColumns) := goodIn_app (goodIn_of _ (by decide +kernel)) ggX0_shearAll_X0_shearColumns
theorem dX0_shearAll_0 : decode cX0_shearAll 0 = .ok (.iload_n 1, 1) := by decide +kernel
theorem dX0_shearAll_1 : decode cX0_shearAll 1 = .ok (.i2d, 1) := by decide +kernel
theorem dX0_shearAll_2 : decode cX0_shearAll 2 = .ok (.ldc2_w 18, 3) := by decide +kernel
theorem dX0_shearAll_5 : decode cX0_shearAll 5 = .ok (.ddiv, 1) := by decide +kernel
theorem dX0_shearAll_6 : decode cX0_shearAll 6 = .ok (.invokestatic 66, 3) := by decide +kernel
theorem dX0_shearAll_9 : decode cX0_shearAll 9 = .ok (.dstore_n 3, 1) := by decide +kernel
theorem dX0_shearAll_10 : decode cX0_shearAll 10 = .ok (.iload_n 1, 1) := by decide +kernel
theorem dX0_shearAll_11 : decode cX0_shearAll 11 = .ok (.i2d, 1) := by decide +kernel
theorem dX0_shearAll_12 : decode cX0_shearAll 12 = .ok (.invokestatic 72, 3) := by decide +kernel
theorem dX0_shearAll_15 : decode cX0_shearAll 15 = .ok (.dstore 5, 2) := by decide +kernel
theorem dX0_shearAll_17 : decode cX0_shearAll 17 = .ok (.aload_n 0, 1) := by decide +kernel
theorem dX0_shearAll_18 : decode cX0_shearAll 18 = .ok (.dload_n 3, 1) := by decide +kernel
theorem dX0_shearAll_19 : decode cX0_shearAll 19 = .ok (.iload_n 2, 1) := by decide +kernel
theorem dX0_shearAll_20 : decode cX0_shearAll 20 = .ok (.invokevirtual 75, 3) := by decide +kernel
theorem dX0_shearAll_23 : decode cX0_shearAll 23 = .ok (.aload_n 0, 1) := by decide +kernel
theorem dX0_shearAll_24 : decode cX0_shearAll 24 = .ok (.dload 5, 2) := by decide +kernel
theorem dX0_shearAll_26 : decode cX0_shearAll 26 = .ok (.iload_n 2, 1) := by decide +kernel
theorem dX0_shearAll_27 : decode cX0_shearAll 27 = .ok (.invokevirtual 79, 3) := by decide +kernel
theorem dX0_shearAll_30 : decode cX0_shearAll 30 = .ok (.aload_n 0, 1) := by decide +kernel
theorem dX0_shearAll_31 : decode cX0_shearAll 31 = .ok (.dload_n 3, 1) := by decide +kernel
theorem dX0_shearAll_32 : decode cX0_shearAll 32 = .ok (.iload_n 2, 1) := by decide +kernel
theorem dX0_shearAll_33 : decode cX0_shearAll 33 = .ok (.invokevirtual 75, 3) := by decide +kernel
theorem dX0_shearAll_36 : decode cX0_shearAll 36 = .ok (.return_, 1) := by decide +kernel
set_option maxRecDepth 20000 in
theorem ggX0_shearRows_X1_whole : GoodIn wsX0_shearRows wsX1_whole := goodIn_r _ [6, 7] (by decide +kernel) (by decide +kernel)
set_option maxRecDepth 20000 in
theorem gX0_shearRows_X1_whole : GoodIn wsX0_shearRows (va_wsS RX0 82 yX1_whole wsX1_whole) := goodIn_app (goodIn_of _ (by decide +kernel)) ggX0_shearRows_X1_whole
set_option maxRecDepth 20000 in
theorem ggX0_shearRows_X0_rowBits : GoodIn wsX0_shearRows wsX0_rowBits := goodIn_r _ [12, 13, 33, 34, 35, 36, 37, 38] (by decide +kernel) (by decide +kernel)
set_option maxRecDepth 20000 in
theorem gX0_shearRows_X0_rowBits : GoodIn wsX0_shearRows (wsV RX0 38 RX0 yX0_rowBits wsX0_rowBits) := goodIn_app (goodIn_of _ (by decide +kernel)) ggX0_shearRows_X0_rowBits
set_option maxRecDepth 20000 in
theorem ggX0_shearRows_X0_movedRight : GoodIn wsX0_shearRows wsX0_movedRight := goodIn_r _ [17, 18, 19, 20, 5, 21, 22, 23, 24, 25, 26, 27, 11, 28, 33, 34, 35, 36, 37, 38] (by decide +kernel) (by decide +kernel)
set_option maxRecDepth 20000 in
theorem gX0_shearRows_X0_movedRight : GoodIn wsX0_shearRows (wsV RX0 86 RX0 yX0_movedRight wsX0_movedRight) := goodIn_app (goodIn_of _ (by decide +kernel)) ggX0_shearRows_X0_movedRight
set_option maxRecDepth 20000 in
theorem ggX0_shearRows_X0_setRowBits : GoodIn wsX0_shearRows wsX0_setRowBits := goodIn_r _ [32, 13, 33, 34, 35, 36, 37, 38] (by decide +kernel) (by decide +kernel)
set_option maxRecDepth 20000 in
theorem gX0_shearRows_X0_setRowBits : GoodIn wsX0_shearRows (wsV RX0 51 RX0 yX0_setRowBits wsX0_setRowBits) := goodIn_app (goodIn_of _ (by decide +kernel)) ggX0_shearRows_X0_setRowBits
theorem dX0_shearRows_0 : decode cX0_shearRows 0 = .ok (.iconst 0, 1) := by decide +kernel
theorem dX0_shearRows_1 : decode cX0_shearRows 1 = .ok (.istore 4, 2) := by decide +kernel
theorem dX0_shearRows_3 : decode cX0_shearRows 3 = .ok (.iload 4, 2) := by decide +kernel
theorem dX0_shearRows_5 : decode cX0_shearRows 5 = .ok (.aload_n 0, 1) := by decide +kernel
theorem dX0_shearRows_6 : decode cX0_shearRows 6 = .ok (.getfield 15, 3) := by decide +kernel
theorem dX0_shearRows_9 : decode cX0_shearRows 9 = .ok (.if_icmp .ge 44, 3) := by decide +kernel
theorem dX0_shearRows_12 : decode cX0_shearRows 12 = .ok (.iload_n 3, 1) := by decide +kernel
theorem dX0_shearRows_13 : decode cX0_shearRows 13 = .ok (.aload_n 0, 1) := by decide +kernel
theorem dX0_shearRows_14 : decode cX0_shearRows 14 = .ok (.getfield 24, 3) := by decide +kernel
theorem dX0_shearRows_17 : decode cX0_shearRows 17 = .ok (.iload 4, 2) := by decide +kernel
theorem dX0_shearRows_19 : decode cX0_shearRows 19 = .ok (.i2d, 1) := by decide +kernel
theorem dX0_shearRows_20 : decode cX0_shearRows 20 = .ok (.dsub, 1) := by decide +kernel
theorem dX0_shearRows_21 : decode cX0_shearRows 21 = .ok (.dload_n 1, 1) := by decide +kernel
theorem dX0_shearRows_22 : decode cX0_shearRows 22 = .ok (.dmul, 1) := by decide +kernel
theorem dX0_shearRows_23 : decode cX0_shearRows 23 = .ok (.invokestatic 82, 3) := by decide +kernel
theorem dX0_shearRows_26 : decode cX0_shearRows 26 = .ok (.imul, 1) := by decide +kernel
theorem dX0_shearRows_27 : decode cX0_shearRows 27 = .ok (.istore 5, 2) := by decide +kernel
theorem dX0_shearRows_29 : decode cX0_shearRows 29 = .ok (.aload_n 0, 1) := by decide +kernel
theorem dX0_shearRows_30 : decode cX0_shearRows 30 = .ok (.iload 4, 2) := by decide +kernel
theorem dX0_shearRows_32 : decode cX0_shearRows 32 = .ok (.aload_n 0, 1) := by decide +kernel
theorem dX0_shearRows_33 : decode cX0_shearRows 33 = .ok (.aload_n 0, 1) := by decide +kernel
theorem dX0_shearRows_34 : decode cX0_shearRows 34 = .ok (.iload 4, 2) := by decide +kernel
theorem dX0_shearRows_36 : decode cX0_shearRows 36 = .ok (.invokevirtual 38, 3) := by decide +kernel
theorem dX0_shearRows_39 : decode cX0_shearRows 39 = .ok (.iload 5, 2) := by decide +kernel
theorem dX0_shearRows_41 : decode cX0_shearRows 41 = .ok (.invokevirtual 86, 3) := by decide +kernel
theorem dX0_shearRows_44 : decode cX0_shearRows 44 = .ok (.invokevirtual 51, 3) := by decide +kernel
theorem dX0_shearRows_47 : decode cX0_shearRows 47 = .ok (.iinc 4 1, 3) := by decide +kernel
theorem dX0_shearRows_50 : decode cX0_shearRows 50 = .ok (.goto (-47), 3) := by decide +kernel
theorem dX0_shearRows_53 : decode cX0_shearRows 53 = .ok (.return_, 1) := by decide +kernel
set_option maxRecDepth 20000 in
theorem ggX0_movedRight_X1_wrapped : GoodIn wsX0_movedRight wsX1_wrapped := goodIn_r _ [5, 6, 7, 8, 9] (by decide +kernel) (by decide +kernel)
set_option maxRecDepth 20000 in
theorem gX0_movedRight_X1_wrapped : GoodIn wsX0_movedRight (va_wsS RX0 89 yX1_wrapped wsX1_wrapped) := goodIn_app (goodIn_of _ (by decide +kernel)) ggX0_movedRight_X1_wrapped
set_option maxRecDepth 20000 in
theorem ggX0_movedRight_X0_bitsOf : GoodIn wsX0_movedRight wsX0_bitsOf := goodIn_r _ [13] (by decide +kernel) (by decide +kernel)
set_option maxRecDepth 20000 in
theorem gX0_movedRight_X0_bitsOf : GoodIn wsX0_movedRight (va_wsS RX0 48 yX0_bitsOf wsX0_bitsOf) := goodIn_app (goodIn_of _ (by decide +kernel)) ggX0_movedRight_X0_bitsOf
theorem dX0_movedRight_0 : decode cX0_movedRight 0 = .ok (.iload_n 2, 1) := by decide +kernel
theorem dX0_movedRight_1 : decode cX0_movedRight 1 = .ok (.aload_n 0, 1) := by decide +kernel
theorem dX0_movedRight_2 : decode cX0_movedRight 2 = .ok (.getfield 9, 3) := by decide +kernel
theorem dX0_movedRight_5 : decode cX0_movedRight 5 = .ok (.invokestatic 89, 3) := by decide +kernel
theorem dX0_movedRight_8 : decode cX0_movedRight 8 = .ok (.istore_n 3, 1) := by decide +kernel
theorem dX0_movedRight_9 : decode cX0_movedRight 9 = .ok (.iload_n 1, 1) := by decide +kernel
theorem dX0_movedRight_10 : decode cX0_movedRight 10 = .ok (.iload_n 3, 1) := by decide +kernel
theorem dX0_movedRight_11 : decode cX0_movedRight 11 = .ok (.ishl, 1) := by decide +kernel
theorem dX0_movedRight_12 : decode cX0_movedRight 12 = .ok (.iload_n 1, 1) := by decide +kernel
theorem dX0_movedRight_13 : decode cX0_movedRight 13 = .ok (.aload_n 0, 1) := by decide +kernel
theorem dX0_movedRight_14 : decode cX0_movedRight 14 = .ok (.getfield 9, 3) := by decide +kernel
theorem dX0_movedRight_17 : decode cX0_movedRight 17 = .ok (.iload_n 3, 1) := by decide +kernel
theorem dX0_movedRight_18 : decode cX0_movedRight 18 = .ok (.isub, 1) := by decide +kernel
theorem dX0_movedRight_19 : decode cX0_movedRight 19 = .ok (.iushr, 1) := by decide +kernel
theorem dX0_movedRight_20 : decode cX0_movedRight 20 = .ok (.ior, 1) := by decide +kernel
theorem dX0_movedRight_21 : decode cX0_movedRight 21 = .ok (.aload_n 0, 1) := by decide +kernel
theorem dX0_movedRight_22 : decode cX0_movedRight 22 = .ok (.getfield 9, 3) := by decide +kernel
theorem dX0_movedRight_25 : decode cX0_movedRight 25 = .ok (.invokestatic 48, 3) := by decide +kernel
theorem dX0_movedRight_28 : decode cX0_movedRight 28 = .ok (.iand, 1) := by decide +kernel
theorem dX0_movedRight_29 : decode cX0_movedRight 29 = .ok (.ireturn, 1) := by decide +kernel
set_option maxRecDepth 20000 in
theorem ggX0_shearColumns_X0_keepOldBits : GoodIn wsX0_shearColumns wsX0_keepOldBits := goodIn_r _ [8, 9, 10, 11, 12, 7, 13, 14, 39, 40, 41, 42, 43, 44] (by decide +kernel) (by decide +kernel)
set_option maxRecDepth 20000 in
theorem gX0_shearColumns_X0_keepOldBits : GoodIn wsX0_shearColumns (wsV RX0 92 RX0 yX0_keepOldBits wsX0_keepOldBits) := goodIn_app (goodIn_of _ (by decide +kernel)) ggX0_shearColumns_X0_keepOldBits
set_option maxRecDepth 20000 in
theorem ggX0_shearColumns_X0_wipe : GoodIn wsX0_shearColumns wsX0_wipe := goodIn_r _ [18, 3, 19, 20, 21, 7, 22, 14, 39, 40, 41, 42, 43, 44] (by decide +kernel) (by decide +kernel)
set_option maxRecDepth 20000 in
theorem gX0_shearColumns_X0_wipe : GoodIn wsX0_shearColumns (wsV RX0 95 RX0 yX0_wipe wsX0_wipe) := goodIn_app (goodIn_of _ (by decide +kernel)) ggX0_shearColumns_X0_wipe
set_option maxRecDepth 20000 in
theorem ggX0_shearColumns_X1_whole : GoodIn wsX0_shearColumns wsX1_whole := goodIn_r _ [26, 27] (by decide +kernel) (by decide +kernel)
set_option maxRecDepth 20000 in
theorem gX0_shearColumns_X1_whole : GoodIn wsX0_shearColumns (va_wsS RX0 82 yX1_whole wsX1_whole) := goodIn_app (goodIn_of _ (by decide +kernel)) ggX0_shearColumns_X1_whole
set_option maxRecDepth 20000 in
theorem ggX0_shearColumns_X1_wrapped : GoodIn wsX0_shearColumns wsX1_wrapped := goodIn_r _ [30, 31, 32, 33, 34] (by decide +kernel) (by decide +kernel)
set_option maxRecDepth 20000 in
theorem gX0_shearColumns_X1_wrapped : GoodIn wsX0_shearColumns (va_wsS RX0 89 yX1_wrapped wsX1_wrapped) := goodIn_app (goodIn_of _ (by decide +kernel)) ggX0_shearColumns_X1_wrapped
set_option maxRecDepth 20000 in
theorem ggX0_shearColumns_X0_rowBits : GoodIn wsX0_shearColumns wsX0_rowBits := goodIn_r _ [13, 14, 39, 40, 41, 42, 43, 44] (by decide +kernel) (by decide +kernel)
set_option maxRecDepth 20000 in
theorem gX0_shearColumns_X0_rowBits : GoodIn wsX0_shearColumns (wsV RX0 38 RX0 yX0_rowBits wsX0_rowBits) := goodIn_app (goodIn_of _ (by decide +kernel)) ggX0_shearColumns_X0_rowBits
set_option maxRecDepth 20000 in
theorem ggX0_shearColumns_X0_oldRowBits : GoodIn wsX0_shearColumns wsX0_oldRowBits := goodIn_r _ [38, 9, 39, 40, 41, 42, 43, 44] (by decide +kernel) (by decide +kernel)
set_option maxRecDepth 20000 in
theorem gX0_shearColumns_X0_oldRowBits : GoodIn wsX0_shearColumns (wsV RX0 98 RX0 yX0_oldRowBits wsX0_oldRowBits) := goodIn_app (goodIn_of _ (by decide +kernel)) ggX0_shearColumns_X0_oldRowBits
set_option maxRecDepth 20000 in
theorem ggX0_shearColumns_X0_setRowBits : GoodIn wsX0_shearColumns wsX0_setRowBits := goodIn_r _ [22, 14, 39, 40, 41, 42, 43, 44] (by decide +kernel) (by decide +kernel)
set_option maxRecDepth 20000 in
theorem gX0_shearColumns_X0_setRowBits : GoodIn wsX0_shearColumns (wsV RX0 51 RX0 yX0_setRowBits wsX0_setRowBits) := goodIn_app (goodIn_of _ (by decide +kernel)) ggX0_shearColumns_X0_setRowBits
theorem dX0_shearColumns_0 : decode cX0_shearColumns 0 = .ok (.aload_n 0, 1) := by decide +kernel
theorem dX0_shearColumns_1 : decode cX0_shearColumns 1 = .ok (.invokevirtual 92, 3) := by decide +kernel
theorem dX0_shearColumns_4 : decode cX0_shearColumns 4 = .ok (.aload_n 0, 1) := by decide +kernel
theorem dX0_shearColumns_5 : decode cX0_shearColumns 5 = .ok (.invokevirtual 95, 3) := by decide +kernel
theorem dX0_shearColumns_8 : decode cX0_shearColumns 8 = .ok (.iconst 0, 1) := by decide +kernel
theorem dX0_shearColumns_9 : decode cX0_shearColumns 9 = .ok (.istore 4, 2) := by decide +kernel
theorem dX0_shearColumns_11 : decode cX0_shearColumns 11 = .ok (.iload 4, 2) := by decide +kernel
theorem dX0_shearColumns_13 : decode cX0_shearColumns 13 = .ok (.aload_n 0, 1) := by decide +kernel
theorem dX0_shearColumns_14 : decode cX0_shearColumns 14 = .ok (.getfield 9, 3) := by decide +kernel
theorem dX0_shearColumns_17 : decode cX0_shearColumns 17 = .ok (.if_icmp .ge 82, 3) := by decide +kernel
theorem dX0_shearColumns_20 : decode cX0_shearColumns 20 = .ok (.iload_n 3, 1) := by decide +kernel
theorem dX0_shearColumns_21 : decode cX0_shearColumns 21 = .ok (.iload 4, 2) := by decide +kernel
theorem dX0_shearColumns_23 : decode cX0_shearColumns 23 = .ok (.i2d, 1) := by decide +kernel
theorem dX0_shearColumns_24 : decode cX0_shearColumns 24 = .ok (.aload_n 0, 1) := by decide +kernel
theorem dX0_shearColumns_25 : decode cX0_shearColumns 25 = .ok (.getfield 20, 3) := by decide +kernel
theorem dX0_shearColumns_28 : decode cX0_shearColumns 28 = .ok (.dsub, 1) := by decide +kernel
theorem dX0_shearColumns_29 : decode cX0_shearColumns 29 = .ok (.dload_n 1, 1) := by decide +kernel
theorem dX0_shearColumns_30 : decode cX0_shearColumns 30 = .ok (.dmul, 1) := by decide +kernel
theorem dX0_shearColumns_31 : decode cX0_shearColumns 31 = .ok (.invokestatic 82, 3) := by decide +kernel
theorem dX0_shearColumns_34 : decode cX0_shearColumns 34 = .ok (.imul, 1) := by decide +kernel
theorem dX0_shearColumns_35 : decode cX0_shearColumns 35 = .ok (.istore 5, 2) := by decide +kernel
theorem dX0_shearColumns_37 : decode cX0_shearColumns 37 = .ok (.iconst 0, 1) := by decide +kernel
theorem dX0_shearColumns_38 : decode cX0_shearColumns 38 = .ok (.istore 6, 2) := by decide +kernel
theorem dX0_shearColumns_40 : decode cX0_shearColumns 40 = .ok (.iload 6, 2) := by decide +kernel
theorem dX0_shearColumns_42 : decode cX0_shearColumns 42 = .ok (.aload_n 0, 1) := by decide +kernel
theorem dX0_shearColumns_43 : decode cX0_shearColumns 43 = .ok (.getfield 15, 3) := by decide +kernel
theorem dX0_shearColumns_46 : decode cX0_shearColumns 46 = .ok (.if_icmp .ge 47, 3) := by decide +kernel
theorem dX0_shearColumns_49 : decode cX0_shearColumns 49 = .ok (.iload 6, 2) := by decide +kernel
theorem dX0_shearColumns_51 : decode cX0_shearColumns 51 = .ok (.iload 5, 2) := by decide +kernel
theorem dX0_shearColumns_53 : decode cX0_shearColumns 53 = .ok (.iadd, 1) := by decide +kernel
theorem dX0_shearColumns_54 : decode cX0_shearColumns 54 = .ok (.aload_n 0, 1) := by decide +kernel
theorem dX0_shearColumns_55 : decode cX0_shearColumns 55 = .ok (.getfield 15, 3) := by decide +kernel
theorem dX0_shearColumns_58 : decode cX0_shearColumns 58 = .ok (.invokestatic 89, 3) := by decide +kernel
theorem dX0_shearColumns_61 : decode cX0_shearColumns 61 = .ok (.istore 7, 2) := by decide +kernel
theorem dX0_shearColumns_63 : decode cX0_shearColumns 63 = .ok (.aload_n 0, 1) := by decide +kernel
theorem dX0_shearColumns_64 : decode cX0_shearColumns 64 = .ok (.iload 7, 2) := by decide +kernel
theorem dX0_shearColumns_66 : decode cX0_shearColumns 66 = .ok (.aload_n 0, 1) := by decide +kernel
theorem dX0_shearColumns_67 : decode cX0_shearColumns 67 = .ok (.iload 7, 2) := by decide +kernel
theorem dX0_shearColumns_69 : decode cX0_shearColumns 69 = .ok (.invokevirtual 38, 3) := by decide +kernel
theorem dX0_shearColumns_72 : decode cX0_shearColumns 72 = .ok (.aload_n 0, 1) := by decide +kernel
theorem dX0_shearColumns_73 : decode cX0_shearColumns 73 = .ok (.iload 6, 2) := by decide +kernel
theorem dX0_shearColumns_75 : decode cX0_shearColumns 75 = .ok (.invokevirtual 98, 3) := by decide +kernel
theorem dX0_shearColumns_78 : decode cX0_shearColumns 78 = .ok (.iconst 1, 1) := by decide +kernel
theorem dX0_shearColumns_79 : decode cX0_shearColumns 79 = .ok (.iload 4, 2) := by decide +kernel
theorem dX0_shearColumns_81 : decode cX0_shearColumns 81 = .ok (.ishl, 1) := by decide +kernel
theorem dX0_shearColumns_82 : decode cX0_shearColumns 82 = .ok (.iand, 1) := by decide +kernel
theorem dX0_shearColumns_83 : decode cX0_shearColumns 83 = .ok (.ior, 1) := by decide +kernel
theorem dX0_shearColumns_84 : decode cX0_shearColumns 84 = .ok (.invokevirtual 51, 3) := by decide +kernel
theorem dX0_shearColumns_87 : decode cX0_shearColumns 87 = .ok (.iinc 6 1, 3) := by decide +kernel
theorem dX0_shearColumns_90 : decode cX0_shearColumns 90 = .ok (.goto (-50), 3) := by decide +kernel
theorem dX0_shearColumns_93 : decode cX0_shearColumns 93 = .ok (.iinc 4 1, 3) := by decide +kernel
theorem dX0_shearColumns_96 : decode cX0_shearColumns 96 = .ok (.goto (-85), 3) := by decide +kernel
theorem dX0_shearColumns_99 : decode cX0_shearColumns 99 = .ok (.return_, 1) := by decide +kernel
set_option maxRecDepth 20000 in
theorem ggX0_turnBySampling_X1_sine : GoodIn wsX0_turnBySampling wsX1_sine := goodIn_r _ [5, 6, 7, 8, 9, 10, 4, 11, 12, 13] (by decide +kernel) (by decide +kernel)
set_option maxRecDepth 20000 in
theorem gX0_turnBySampling_X1_sine : GoodIn wsX0_turnBySampling (va_wsS RX0 72 yX1_sine wsX1_sine) := goodIn_app (goodIn_of _ (by decide +kernel)) ggX0_turnBySampling_X1_sine
set_option maxRecDepth 20000 in
theorem ggX0_turnBySampling_X1_cosine : GoodIn wsX0_turnBySampling wsX1_cosine := goodIn_r _ [16, 17, 18, 19, 9, 10, 4, 11, 12, 13] (by decide +kernel) (by decide +kernel)
set_option maxRecDepth 20000 in
theorem gX0_turnBySampling_X1_cosine : GoodIn wsX0_turnBySampling (va_wsS RX0 101 yX1_cosine wsX1_cosine) := goodIn_app (goodIn_of _ (by decide +kernel)) ggX0_turnBySampling_X1_cosine
set_option maxRecDepth 20000 in
theorem ggX0_turnBySampling_X0_keepOldBits : GoodIn wsX0_turnBySampling wsX0_keepOldBits := goodIn_r _ [24, 25, 26, 27, 28, 23, 29, 30, 54, 55, 56, 57, 58, 59] (by decide +kernel) (by decide +kernel)
set_option maxRecDepth 20000 in
theorem gX0_turnBySampling_X0_keepOldBits : GoodIn wsX0_turnBySampling (wsV RX0 92 RX0 yX0_keepOldBits wsX0_keepOldBits) := goodIn_app (goodIn_of _ (by decide +kernel)) ggX0_turnBySampling_X0_keepOldBits
set_option maxRecDepth 20000 in
theorem ggX0_turnBySampling_X0_sampledRow : GoodIn wsX0_turnBySampling wsX0_sampledRow := goodIn_r _ [34, 35, 36, 37, 38, 39, 4, 40, 41, 42, 43, 44, 23, 45, 1, 46, 47, 48, 49, 25, 54, 55, 56, 57, 58, 59] (by decide +kernel) (by decide +kernel)
set_option maxRecDepth 20000 in
theorem gX0_turnBySampling_X0_sampledRow : GoodIn wsX0_turnBySampling (wsV RX0 104 RX0 yX0_sampledRow wsX0_sampledRow) := goodIn_app (goodIn_of _ (by decide +kernel)) ggX0_turnBySampling_X0_sampledRow
set_option maxRecDepth 20000 in
theorem ggX0_turnBySampling_X0_setRowBits : GoodIn wsX0_turnBySampling wsX0_setRowBits := goodIn_r _ [53, 30, 54, 55, 56, 57, 58, 59] (by decide +kernel) (by decide +kernel)
set_option maxRecDepth 20000 in
theorem gX0_turnBySampling_X0_setRowBits : GoodIn wsX0_turnBySampling (wsV RX0 51 RX0 yX0_setRowBits wsX0_setRowBits) := goodIn_app (goodIn_of _ (by decide +kernel)) ggX0_turnBySampling_X0_setRowBits
theorem dX0_turnBySampling_0 : decode cX0_turnBySampling 0 = .ok (.iload_n 1, 1) := by decide +kernel
theorem dX0_turnBySampling_1 : decode cX0_turnBySampling 1 = .ok (.i2d, 1) := by decide +kernel
theorem dX0_turnBySampling_2 : decode cX0_turnBySampling 2 = .ok (.invokestatic 72, 3) := by decide +kernel
theorem dX0_turnBySampling_5 : decode cX0_turnBySampling 5 = .ok (.dstore_n 2, 1) := by decide +kernel
theorem dX0_turnBySampling_6 : decode cX0_turnBySampling 6 = .ok (.iload_n 1, 1) := by decide +kernel
theorem dX0_turnBySampling_7 : decode cX0_turnBySampling 7 = .ok (.i2d, 1) := by decide +kernel
theorem dX0_turnBySampling_8 : decode cX0_turnBySampling 8 = .ok (.invokestatic 101, 3) := by decide +kernel
theorem dX0_turnBySampling_11 : decode cX0_turnBySampling 11 = .ok (.dstore 4, 2) := by decide +kernel
theorem dX0_turnBySampling_13 : decode cX0_turnBySampling 13 = .ok (.aload_n 0, 1) := by decide +kernel
theorem dX0_turnBySampling_14 : decode cX0_turnBySampling 14 = .ok (.invokevirtual 92, 3) := by decide +kernel
theorem dX0_turnBySampling_17 : decode cX0_turnBySampling 17 = .ok (.iconst 0, 1) := by decide +kernel
theorem dX0_turnBySampling_18 : decode cX0_turnBySampling 18 = .ok (.istore 6, 2) := by decide +kernel
theorem dX0_turnBySampling_20 : decode cX0_turnBySampling 20 = .ok (.iload 6, 2) := by decide +kernel
theorem dX0_turnBySampling_22 : decode cX0_turnBySampling 22 = .ok (.aload_n 0, 1) := by decide +kernel
theorem dX0_turnBySampling_23 : decode cX0_turnBySampling 23 = .ok (.getfield 15, 3) := by decide +kernel
theorem dX0_turnBySampling_26 : decode cX0_turnBySampling 26 = .ok (.if_icmp .ge 24, 3) := by decide +kernel
theorem dX0_turnBySampling_29 : decode cX0_turnBySampling 29 = .ok (.aload_n 0, 1) := by decide +kernel
theorem dX0_turnBySampling_30 : decode cX0_turnBySampling 30 = .ok (.iload 6, 2) := by decide +kernel
theorem dX0_turnBySampling_32 : decode cX0_turnBySampling 32 = .ok (.aload_n 0, 1) := by decide +kernel
theorem dX0_turnBySampling_33 : decode cX0_turnBySampling 33 = .ok (.iload 6, 2) := by decide +kernel
theorem dX0_turnBySampling_35 : decode cX0_turnBySampling 35 = .ok (.dload_n 2, 1) := by decide +kernel
theorem dX0_turnBySampling_36 : decode cX0_turnBySampling 36 = .ok (.dload 4, 2) := by decide +kernel
theorem dX0_turnBySampling_38 : decode cX0_turnBySampling 38 = .ok (.invokevirtual 104, 3) := by decide +kernel
theorem dX0_turnBySampling_41 : decode cX0_turnBySampling 41 = .ok (.invokevirtual 51, 3) := by decide +kernel
theorem dX0_turnBySampling_44 : decode cX0_turnBySampling 44 = .ok (.iinc 6 1, 3) := by decide +kernel
theorem dX0_turnBySampling_47 : decode cX0_turnBySampling 47 = .ok (.goto (-27), 3) := by decide +kernel
theorem dX0_turnBySampling_50 : decode cX0_turnBySampling 50 = .ok (.return_, 1) := by decide +kernel
set_option maxRecDepth 20000 in
theorem ggX0_sampledRow_X1_whole : GoodIn wsX0_sampledRow wsX1_whole := goodIn_r _ [7, 8] (by decide +kernel) (by decide +kernel)
set_option maxRecDepth 20000 in
theorem gX0_sampledRow_X1_whole : GoodIn wsX0_sampledRow (va_wsS RX0 82 yX1_whole wsX1_whole) := goodIn_app (goodIn_of _ (by decide +kernel)) ggX0_sampledRow_X1_whole
set_option maxRecDepth 20000 in
theorem ggX0_sampledRow_X0_has : GoodIn wsX0_sampledRow wsX0_has := goodIn_r _ [13, 1, 14, 20, 21, 22, 23, 24, 25] (by decide +kernel) (by decide +kernel)
set_option maxRecDepth 20000 in
theorem gX0_sampledRow_X0_has : GoodIn wsX0_sampledRow (wsV RX0 34 RX0 yX0_has wsX0_has) := goodIn_app (goodIn_of _ (by decide +kernel)) ggX0_sampledRow_X0_has
set_option maxRecDepth 20000 in
theorem ggX0_sampledRow_X0_oldRowBits : GoodIn wsX0_sampledRow wsX0_oldRowBits := goodIn_r _ [18, 19, 20, 21, 22, 23, 24, 25] (by decide +kernel) (by decide +kernel)
set_option maxRecDepth 20000 in
theorem gX0_sampledRow_X0_oldRowBits : GoodIn wsX0_sampledRow (wsV RX0 98 RX0 yX0_oldRowBits wsX0_oldRowBits) := goodIn_app (goodIn_of _ (by decide +kernel)) ggX0_sampledRow_X0_oldRowBits
theorem dX0_sampledRow_0 : decode cX0_sampledRow 0 = .ok (.iconst 0, 1) := by decide +kernel
theorem dX0_sampledRow_1 : decode cX0_sampledRow 1 = .ok (.istore 6, 2) := by decide +kernel
theorem dX0_sampledRow_3 : decode cX0_sampledRow 3 = .ok (.iconst 0, 1) := by decide +kernel
theorem dX0_sampledRow_4 : decode cX0_sampledRow 4 = .ok (.istore 7, 2) := by decide +kernel
theorem dX0_sampledRow_6 : decode cX0_sampledRow 6 = .ok (.iload 7, 2) := by decide +kernel
theorem dX0_sampledRow_8 : decode cX0_sampledRow 8 = .ok (.aload_n 0, 1) := by decide +kernel
theorem dX0_sampledRow_9 : decode cX0_sampledRow 9 = .ok (.getfield 9, 3) := by decide +kernel
theorem dX0_sampledRow_12 : decode cX0_sampledRow 12 = .ok (.if_icmp .ge 105, 3) := by decide +kernel
theorem dX0_sampledRow_15 : decode cX0_sampledRow 15 = .ok (.aload_n 0, 1) := by decide +kernel
theorem dX0_sampledRow_16 : decode cX0_sampledRow 16 = .ok (.getfield 20, 3) := by decide +kernel
theorem dX0_sampledRow_19 : decode cX0_sampledRow 19 = .ok (.iload 7, 2) := by decide +kernel
theorem dX0_sampledRow_21 : decode cX0_sampledRow 21 = .ok (.i2d, 1) := by decide +kernel
theorem dX0_sampledRow_22 : decode cX0_sampledRow 22 = .ok (.aload_n 0, 1) := by decide +kernel
theorem dX0_sampledRow_23 : decode cX0_sampledRow 23 = .ok (.getfield 20, 3) := by decide +kernel
theorem dX0_sampledRow_26 : decode cX0_sampledRow 26 = .ok (.dsub, 1) := by decide +kernel
theorem dX0_sampledRow_27 : decode cX0_sampledRow 27 = .ok (.dload 4, 2) := by decide +kernel
theorem dX0_sampledRow_29 : decode cX0_sampledRow 29 = .ok (.dmul, 1) := by decide +kernel
theorem dX0_sampledRow_30 : decode cX0_sampledRow 30 = .ok (.dadd, 1) := by decide +kernel
theorem dX0_sampledRow_31 : decode cX0_sampledRow 31 = .ok (.iload_n 1, 1) := by decide +kernel
theorem dX0_sampledRow_32 : decode cX0_sampledRow 32 = .ok (.i2d, 1) := by decide +kernel
theorem dX0_sampledRow_33 : decode cX0_sampledRow 33 = .ok (.aload_n 0, 1) := by decide +kernel
theorem dX0_sampledRow_34 : decode cX0_sampledRow 34 = .ok (.getfield 24, 3) := by decide +kernel
theorem dX0_sampledRow_37 : decode cX0_sampledRow 37 = .ok (.dsub, 1) := by decide +kernel
theorem dX0_sampledRow_38 : decode cX0_sampledRow 38 = .ok (.dload_n 2, 1) := by decide +kernel
theorem dX0_sampledRow_39 : decode cX0_sampledRow 39 = .ok (.dmul, 1) := by decide +kernel
theorem dX0_sampledRow_40 : decode cX0_sampledRow 40 = .ok (.dadd, 1) := by decide +kernel
theorem dX0_sampledRow_41 : decode cX0_sampledRow 41 = .ok (.invokestatic 82, 3) := by decide +kernel
theorem dX0_sampledRow_44 : decode cX0_sampledRow 44 = .ok (.istore 8, 2) := by decide +kernel
theorem dX0_sampledRow_46 : decode cX0_sampledRow 46 = .ok (.aload_n 0, 1) := by decide +kernel
theorem dX0_sampledRow_47 : decode cX0_sampledRow 47 = .ok (.getfield 24, 3) := by decide +kernel
theorem dX0_sampledRow_50 : decode cX0_sampledRow 50 = .ok (.iload 7, 2) := by decide +kernel
theorem dX0_sampledRow_52 : decode cX0_sampledRow 52 = .ok (.i2d, 1) := by decide +kernel
theorem dX0_sampledRow_53 : decode cX0_sampledRow 53 = .ok (.aload_n 0, 1) := by decide +kernel
theorem dX0_sampledRow_54 : decode cX0_sampledRow 54 = .ok (.getfield 20, 3) := by decide +kernel
theorem dX0_sampledRow_57 : decode cX0_sampledRow 57 = .ok (.dsub, 1) := by decide +kernel
theorem dX0_sampledRow_58 : decode cX0_sampledRow 58 = .ok (.dload_n 2, 1) := by decide +kernel
theorem dX0_sampledRow_59 : decode cX0_sampledRow 59 = .ok (.dmul, 1) := by decide +kernel
theorem dX0_sampledRow_60 : decode cX0_sampledRow 60 = .ok (.dsub, 1) := by decide +kernel
theorem dX0_sampledRow_61 : decode cX0_sampledRow 61 = .ok (.iload_n 1, 1) := by decide +kernel
theorem dX0_sampledRow_62 : decode cX0_sampledRow 62 = .ok (.i2d, 1) := by decide +kernel
theorem dX0_sampledRow_63 : decode cX0_sampledRow 63 = .ok (.aload_n 0, 1) := by decide +kernel
theorem dX0_sampledRow_64 : decode cX0_sampledRow 64 = .ok (.getfield 24, 3) := by decide +kernel
theorem dX0_sampledRow_67 : decode cX0_sampledRow 67 = .ok (.dsub, 1) := by decide +kernel
theorem dX0_sampledRow_68 : decode cX0_sampledRow 68 = .ok (.dload 4, 2) := by decide +kernel
theorem dX0_sampledRow_70 : decode cX0_sampledRow 70 = .ok (.dmul, 1) := by decide +kernel
theorem dX0_sampledRow_71 : decode cX0_sampledRow 71 = .ok (.dadd, 1) := by decide +kernel
theorem dX0_sampledRow_72 : decode cX0_sampledRow 72 = .ok (.invokestatic 82, 3) := by decide +kernel
theorem dX0_sampledRow_75 : decode cX0_sampledRow 75 = .ok (.istore 9, 2) := by decide +kernel
theorem dX0_sampledRow_77 : decode cX0_sampledRow 77 = .ok (.aload_n 0, 1) := by decide +kernel
theorem dX0_sampledRow_78 : decode cX0_sampledRow 78 = .ok (.iload 8, 2) := by decide +kernel
theorem dX0_sampledRow_80 : decode cX0_sampledRow 80 = .ok (.iload 9, 2) := by decide +kernel
theorem dX0_sampledRow_82 : decode cX0_sampledRow 82 = .ok (.invokevirtual 34, 3) := by decide +kernel
theorem dX0_sampledRow_85 : decode cX0_sampledRow 85 = .ok (.ifCond .eq 26, 3) := by decide +kernel
theorem dX0_sampledRow_88 : decode cX0_sampledRow 88 = .ok (.aload_n 0, 1) := by decide +kernel
theorem dX0_sampledRow_89 : decode cX0_sampledRow 89 = .ok (.iload 9, 2) := by decide +kernel
theorem dX0_sampledRow_91 : decode cX0_sampledRow 91 = .ok (.invokevirtual 98, 3) := by decide +kernel
theorem dX0_sampledRow_94 : decode cX0_sampledRow 94 = .ok (.iload 8, 2) := by decide +kernel
theorem dX0_sampledRow_96 : decode cX0_sampledRow 96 = .ok (.iushr, 1) := by decide +kernel
theorem dX0_sampledRow_97 : decode cX0_sampledRow 97 = .ok (.iconst 1, 1) := by decide +kernel
theorem dX0_sampledRow_98 : decode cX0_sampledRow 98 = .ok (.iand, 1) := by decide +kernel
theorem dX0_sampledRow_99 : decode cX0_sampledRow 99 = .ok (.ifCond .eq 12, 3) := by decide +kernel
theorem dX0_sampledRow_102 : decode cX0_sampledRow 102 = .ok (.iload 6, 2) := by decide +kernel
theorem dX0_sampledRow_104 : decode cX0_sampledRow 104 = .ok (.iconst 1, 1) := by decide +kernel
theorem dX0_sampledRow_105 : decode cX0_sampledRow 105 = .ok (.iload 7, 2) := by decide +kernel
theorem dX0_sampledRow_107 : decode cX0_sampledRow 107 = .ok (.ishl, 1) := by decide +kernel
theorem dX0_sampledRow_108 : decode cX0_sampledRow 108 = .ok (.ior, 1) := by decide +kernel
theorem dX0_sampledRow_109 : decode cX0_sampledRow 109 = .ok (.istore 6, 2) := by decide +kernel
theorem dX0_sampledRow_111 : decode cX0_sampledRow 111 = .ok (.iinc 7 1, 3) := by decide +kernel
theorem dX0_sampledRow_114 : decode cX0_sampledRow 114 = .ok (.goto (-108), 3) := by decide +kernel
theorem dX0_sampledRow_117 : decode cX0_sampledRow 117 = .ok (.iload 6, 2) := by decide +kernel
theorem dX0_sampledRow_119 : decode cX0_sampledRow 119 = .ok (.ireturn, 1) := by decide +kernel
set_option maxRecDepth 20000 in
theorem ggX0_keepOldBits_X0_rowBits : GoodIn wsX0_keepOldBits wsX0_rowBits := goodIn_r _ [6, 7, 8, 9, 10, 11, 12, 13] (by decide +kernel) (by decide +kernel)
set_option maxRecDepth 20000 in
theorem gX0_keepOldBits_X0_rowBits : GoodIn wsX0_keepOldBits (wsV RX0 38 RX0 yX0_rowBits wsX0_rowBits) := goodIn_app (goodIn_of _ (by decide +kernel)) ggX0_keepOldBits_X0_rowBits
theorem dX0_keepOldBits_0 : decode cX0_keepOldBits 0 = .ok (.iconst 0, 1) := by decide +kernel
theorem dX0_keepOldBits_1 : decode cX0_keepOldBits 1 = .ok (.istore_n 1, 1) := by decide +kernel
theorem dX0_keepOldBits_2 : decode cX0_keepOldBits 2 = .ok (.iload_n 1, 1) := by decide +kernel
theorem dX0_keepOldBits_3 : decode cX0_keepOldBits 3 = .ok (.aload_n 0, 1) := by decide +kernel
theorem dX0_keepOldBits_4 : decode cX0_keepOldBits 4 = .ok (.getfield 31, 3) := by decide +kernel
theorem dX0_keepOldBits_7 : decode cX0_keepOldBits 7 = .ok (.arraylength, 1) := by decide +kernel
theorem dX0_keepOldBits_8 : decode cX0_keepOldBits 8 = .ok (.if_icmp .ge 20, 3) := by decide +kernel
theorem dX0_keepOldBits_11 : decode cX0_keepOldBits 11 = .ok (.aload_n 0, 1) := by decide +kernel
theorem dX0_keepOldBits_12 : decode cX0_keepOldBits 12 = .ok (.getfield 31, 3) := by decide +kernel
theorem dX0_keepOldBits_15 : decode cX0_keepOldBits 15 = .ok (.iload_n 1, 1) := by decide +kernel
theorem dX0_keepOldBits_16 : decode cX0_keepOldBits 16 = .ok (.aload_n 0, 1) := by decide +kernel
theorem dX0_keepOldBits_17 : decode cX0_keepOldBits 17 = .ok (.iload_n 1, 1) := by decide +kernel
theorem dX0_keepOldBits_18 : decode cX0_keepOldBits 18 = .ok (.invokevirtual 38, 3) := by decide +kernel
theorem dX0_keepOldBits_21 : decode cX0_keepOldBits 21 = .ok (.iastore, 1) := by decide +kernel
theorem dX0_keepOldBits_22 : decode cX0_keepOldBits 22 = .ok (.iinc 1 1, 3) := by decide +kernel
theorem dX0_keepOldBits_25 : decode cX0_keepOldBits 25 = .ok (.goto (-23), 3) := by decide +kernel
theorem dX0_keepOldBits_28 : decode cX0_keepOldBits 28 = .ok (.return_, 1) := by decide +kernel
theorem dX0_bitsOf_0 : decode cX0_bitsOf 0 = .ok (.iconst 1, 1) := by decide +kernel
theorem dX0_bitsOf_1 : decode cX0_bitsOf 1 = .ok (.iload_n 0, 1) := by decide +kernel
theorem dX0_bitsOf_2 : decode cX0_bitsOf 2 = .ok (.ishl, 1) := by decide +kernel
theorem dX0_bitsOf_3 : decode cX0_bitsOf 3 = .ok (.iconst 1, 1) := by decide +kernel
theorem dX0_bitsOf_4 : decode cX0_bitsOf 4 = .ok (.isub, 1) := by decide +kernel
theorem dX0_bitsOf_5 : decode cX0_bitsOf 5 = .ok (.ireturn, 1) := by decide +kernel
theorem dX1_radians_0 : decode cX1_radians 0 = .ok (.dload_n 0, 1) := by decide +kernel
theorem dX1_radians_1 : decode cX1_radians 1 = .ok (.ldc2_w 7, 3) := by decide +kernel
theorem dX1_radians_4 : decode cX1_radians 4 = .ok (.dmul, 1) := by decide +kernel
theorem dX1_radians_5 : decode cX1_radians 5 = .ok (.ldc2_w 9, 3) := by decide +kernel
theorem dX1_radians_8 : decode cX1_radians 8 = .ok (.ddiv, 1) := by decide +kernel
theorem dX1_radians_9 : decode cX1_radians 9 = .ok (.dreturn, 1) := by decide +kernel
set_option maxRecDepth 20000 in
theorem ggX1_slope_X1_radians : GoodIn wsX1_slope wsX1_radians := goodIn_r _ [7, 8, 9] (by decide +kernel) (by decide +kernel)
set_option maxRecDepth 20000 in
theorem gX1_slope_X1_radians : GoodIn wsX1_slope (va_wsS RX1 11 yX1_radians wsX1_radians) := goodIn_app (goodIn_of _ (by decide +kernel)) ggX1_slope_X1_radians
theorem dX1_slope_0 : decode cX1_slope 0 = .ok (.dload_n 0, 1) := by decide +kernel
theorem dX1_slope_1 : decode cX1_slope 1 = .ok (.invokestatic 11, 3) := by decide +kernel
theorem dX1_slope_4 : decode cX1_slope 4 = .ok (.dstore_n 2, 1) := by decide +kernel
theorem dX1_slope_5 : decode cX1_slope 5 = .ok (.dload_n 2, 1) := by decide +kernel
theorem dX1_slope_6 : decode cX1_slope 6 = .ok (.dload_n 2, 1) := by decide +kernel
theorem dX1_slope_7 : decode cX1_slope 7 = .ok (.dmul, 1) := by decide +kernel
theorem dX1_slope_8 : decode cX1_slope 8 = .ok (.dstore 4, 2) := by decide +kernel
theorem dX1_slope_10 : decode cX1_slope 10 = .ok (.dload_n 2, 1) := by decide +kernel
theorem dX1_slope_11 : decode cX1_slope 11 = .ok (.dconst 1, 1) := by decide +kernel
theorem dX1_slope_12 : decode cX1_slope 12 = .ok (.dload 4, 2) := by decide +kernel
theorem dX1_slope_14 : decode cX1_slope 14 = .ok (.ldc2_w 17, 3) := by decide +kernel
theorem dX1_slope_17 : decode cX1_slope 17 = .ok (.dload 4, 2) := by decide +kernel
theorem dX1_slope_19 : decode cX1_slope 19 = .ok (.ldc2_w 19, 3) := by decide +kernel
theorem dX1_slope_22 : decode cX1_slope 22 = .ok (.dload 4, 2) := by decide +kernel
theorem dX1_slope_24 : decode cX1_slope 24 = .ok (.ldc2_w 21, 3) := by decide +kernel
theorem dX1_slope_27 : decode cX1_slope 27 = .ok (.dmul, 1) := by decide +kernel
theorem dX1_slope_28 : decode cX1_slope 28 = .ok (.dadd, 1) := by decide +kernel
theorem dX1_slope_29 : decode cX1_slope 29 = .ok (.dmul, 1) := by decide +kernel
theorem dX1_slope_30 : decode cX1_slope 30 = .ok (.dadd, 1) := by decide +kernel
theorem dX1_slope_31 : decode cX1_slope 31 = .ok (.dmul, 1) := by decide +kernel
theorem dX1_slope_32 : decode cX1_slope 32 = .ok (.dadd, 1) := by decide +kernel
theorem dX1_slope_33 : decode cX1_slope 33 = .ok (.dmul, 1) := by decide +kernel
theorem dX1_slope_34 : decode cX1_slope 34 = .ok (.dreturn, 1) := by decide +kernel
set_option maxRecDepth 20000 in
theorem ggX1_sine_X1_radians : GoodIn wsX1_sine wsX1_radians := goodIn_r _ [7, 8, 9] (by decide +kernel) (by decide +kernel)
set_option maxRecDepth 20000 in
theorem gX1_sine_X1_radians : GoodIn wsX1_sine (va_wsS RX1 11 yX1_radians wsX1_radians) := goodIn_app (goodIn_of _ (by decide +kernel)) ggX1_sine_X1_radians
theorem dX1_sine_0 : decode cX1_sine 0 = .ok (.dload_n 0, 1) := by decide +kernel
theorem dX1_sine_1 : decode cX1_sine 1 = .ok (.invokestatic 11, 3) := by decide +kernel
theorem dX1_sine_4 : decode cX1_sine 4 = .ok (.dstore_n 2, 1) := by decide +kernel
theorem dX1_sine_5 : decode cX1_sine 5 = .ok (.dload_n 2, 1) := by decide +kernel
theorem dX1_sine_6 : decode cX1_sine 6 = .ok (.dload_n 2, 1) := by decide +kernel
theorem dX1_sine_7 : decode cX1_sine 7 = .ok (.dmul, 1) := by decide +kernel
theorem dX1_sine_8 : decode cX1_sine 8 = .ok (.dstore 4, 2) := by decide +kernel
theorem dX1_sine_10 : decode cX1_sine 10 = .ok (.dload_n 2, 1) := by decide +kernel
theorem dX1_sine_11 : decode cX1_sine 11 = .ok (.dconst 1, 1) := by decide +kernel
theorem dX1_sine_12 : decode cX1_sine 12 = .ok (.dload 4, 2) := by decide +kernel
theorem dX1_sine_14 : decode cX1_sine 14 = .ok (.ldc2_w 23, 3) := by decide +kernel
theorem dX1_sine_17 : decode cX1_sine 17 = .ok (.dload 4, 2) := by decide +kernel
theorem dX1_sine_19 : decode cX1_sine 19 = .ok (.ldc2_w 25, 3) := by decide +kernel
theorem dX1_sine_22 : decode cX1_sine 22 = .ok (.dload 4, 2) := by decide +kernel
theorem dX1_sine_24 : decode cX1_sine 24 = .ok (.ldc2_w 27, 3) := by decide +kernel
theorem dX1_sine_27 : decode cX1_sine 27 = .ok (.dmul, 1) := by decide +kernel
theorem dX1_sine_28 : decode cX1_sine 28 = .ok (.dadd, 1) := by decide +kernel
theorem dX1_sine_29 : decode cX1_sine 29 = .ok (.dmul, 1) := by decide +kernel
theorem dX1_sine_30 : decode cX1_sine 30 = .ok (.dadd, 1) := by decide +kernel
theorem dX1_sine_31 : decode cX1_sine 31 = .ok (.dmul, 1) := by decide +kernel
theorem dX1_sine_32 : decode cX1_sine 32 = .ok (.dadd, 1) := by decide +kernel
theorem dX1_sine_33 : decode cX1_sine 33 = .ok (.dmul, 1) := by decide +kernel
theorem dX1_sine_34 : decode cX1_sine 34 = .ok (.dreturn, 1) := by decide +kernel
set_option maxRecDepth 20000 in
theorem ggX1_cosine_X1_radians : GoodIn wsX1_cosine wsX1_radians := goodIn_r _ [7, 8, 9] (by decide +kernel) (by decide +kernel)
set_option maxRecDepth 20000 in
theorem gX1_cosine_X1_radians : GoodIn wsX1_cosine (va_wsS RX1 11 yX1_radians wsX1_radians) := goodIn_app (goodIn_of _ (by decide +kernel)) ggX1_cosine_X1_radians
theorem dX1_cosine_0 : decode cX1_cosine 0 = .ok (.dload_n 0, 1) := by decide +kernel
theorem dX1_cosine_1 : decode cX1_cosine 1 = .ok (.invokestatic 11, 3) := by decide +kernel
theorem dX1_cosine_4 : decode cX1_cosine 4 = .ok (.dstore_n 2, 1) := by decide +kernel
theorem dX1_cosine_5 : decode cX1_cosine 5 = .ok (.dload_n 2, 1) := by decide +kernel
theorem dX1_cosine_6 : decode cX1_cosine 6 = .ok (.dload_n 2, 1) := by decide +kernel
theorem dX1_cosine_7 : decode cX1_cosine 7 = .ok (.dmul, 1) := by decide +kernel
theorem dX1_cosine_8 : decode cX1_cosine 8 = .ok (.dstore 4, 2) := by decide +kernel
theorem dX1_cosine_10 : decode cX1_cosine 10 = .ok (.dconst 1, 1) := by decide +kernel
theorem dX1_cosine_11 : decode cX1_cosine 11 = .ok (.dload 4, 2) := by decide +kernel
theorem dX1_cosine_13 : decode cX1_cosine 13 = .ok (.ldc2_w 29, 3) := by decide +kernel
theorem dX1_cosine_16 : decode cX1_cosine 16 = .ok (.dload 4, 2) := by decide +kernel
theorem dX1_cosine_18 : decode cX1_cosine 18 = .ok (.ldc2_w 31, 3) := by decide +kernel
theorem dX1_cosine_21 : decode cX1_cosine 21 = .ok (.dload 4, 2) := by decide +kernel
theorem dX1_cosine_23 : decode cX1_cosine 23 = .ok (.ldc2_w 33, 3) := by decide +kernel
theorem dX1_cosine_26 : decode cX1_cosine 26 = .ok (.dmul, 1) := by decide +kernel
theorem dX1_cosine_27 : decode cX1_cosine 27 = .ok (.dadd, 1) := by decide +kernel
theorem dX1_cosine_28 : decode cX1_cosine 28 = .ok (.dmul, 1) := by decide +kernel
theorem dX1_cosine_29 : decode cX1_cosine 29 = .ok (.dadd, 1) := by decide +kernel
theorem dX1_cosine_30 : decode cX1_cosine 30 = .ok (.dmul, 1) := by decide +kernel
theorem dX1_cosine_31 : decode cX1_cosine 31 = .ok (.dadd, 1) := by decide +kernel
theorem dX1_cosine_32 : decode cX1_cosine 32 = .ok (.dreturn, 1) := by decide +kernel
theorem dX1_whole_0 : decode cX1_whole 0 = .ok (.dload_n 0, 1) := by decide +kernel
theorem dX1_whole_1 : decode cX1_whole 1 = .ok (.ldc2_w 35, 3) := by decide +kernel
theorem dX1_whole_4 : decode cX1_whole 4 = .ok (.dadd, 1) := by decide +kernel
theorem dX1_whole_5 : decode cX1_whole 5 = .ok (.dstore_n 2, 1) := by decide +kernel
theorem dX1_whole_6 : decode cX1_whole 6 = .ok (.dload_n 2, 1) := by decide +kernel
theorem dX1_whole_7 : decode cX1_whole 7 = .ok (.d2i, 1) := by decide +kernel
theorem dX1_whole_8 : decode cX1_whole 8 = .ok (.istore 4, 2) := by decide +kernel
theorem dX1_whole_10 : decode cX1_whole 10 = .ok (.iload 4, 2) := by decide +kernel
theorem dX1_whole_12 : decode cX1_whole 12 = .ok (.i2d, 1) := by decide +kernel
theorem dX1_whole_13 : decode cX1_whole 13 = .ok (.dload_n 2, 1) := by decide +kernel
theorem dX1_whole_14 : decode cX1_whole 14 = .ok (.dcmp .l, 1) := by decide +kernel
theorem dX1_whole_15 : decode cX1_whole 15 = .ok (.ifCond .le 10, 3) := by decide +kernel
theorem dX1_whole_18 : decode cX1_whole 18 = .ok (.iload 4, 2) := by decide +kernel
theorem dX1_whole_20 : decode cX1_whole 20 = .ok (.iconst 1, 1) := by decide +kernel
theorem dX1_whole_21 : decode cX1_whole 21 = .ok (.isub, 1) := by decide +kernel
theorem dX1_whole_22 : decode cX1_whole 22 = .ok (.goto 5, 3) := by decide +kernel
theorem dX1_whole_25 : decode cX1_whole 25 = .ok (.iload 4, 2) := by decide +kernel
theorem dX1_whole_27 : decode cX1_whole 27 = .ok (.ireturn, 1) := by decide +kernel
set_option maxRecDepth 20000 in
theorem ggX1_wrapped_J9_floorMod_7cf53 : GoodIn wsX1_wrapped wsJ9_floorMod_7cf53 := goodIn_r _ [4] (by decide +kernel) (by decide +kernel)
set_option maxRecDepth 20000 in
theorem gX1_wrapped_J9_floorMod_7cf53 : GoodIn wsX1_wrapped (va_wsS RX1 37 yJ9_floorMod_7cf53 wsJ9_floorMod_7cf53) := goodIn_app (goodIn_of _ (by decide +kernel)) ggX1_wrapped_J9_floorMod_7cf53
theorem dX1_wrapped_0 : decode cX1_wrapped 0 = .ok (.iload_n 1, 1) := by decide +kernel
theorem dX1_wrapped_1 : decode cX1_wrapped 1 = .ok (.iconst 1, 1) := by decide +kernel
theorem dX1_wrapped_2 : decode cX1_wrapped 2 = .ok (.if_icmp .ge 7, 3) := by decide +kernel
theorem dX1_wrapped_5 : decode cX1_wrapped 5 = .ok (.iconst 0, 1) := by decide +kernel
theorem dX1_wrapped_6 : decode cX1_wrapped 6 = .ok (.goto 8, 3) := by decide +kernel
theorem dX1_wrapped_9 : decode cX1_wrapped 9 = .ok (.iload_n 0, 1) := by decide +kernel
theorem dX1_wrapped_10 : decode cX1_wrapped 10 = .ok (.iload_n 1, 1) := by decide +kernel
theorem dX1_wrapped_11 : decode cX1_wrapped 11 = .ok (.invokestatic 37, 3) := by decide +kernel
theorem dX1_wrapped_14 : decode cX1_wrapped 14 = .ok (.ireturn, 1) := by decide +kernel
theorem dJ6_bitCount_0f7a4_0 : decode cJ6_bitCount_0f7a4 0 = .ok (.iload_n 0, 1) := by decide +kernel
theorem dJ6_bitCount_0f7a4_1 : decode cJ6_bitCount_0f7a4 1 = .ok (.iload_n 0, 1) := by decide +kernel
theorem dJ6_bitCount_0f7a4_2 : decode cJ6_bitCount_0f7a4 2 = .ok (.iconst 1, 1) := by decide +kernel
theorem dJ6_bitCount_0f7a4_3 : decode cJ6_bitCount_0f7a4 3 = .ok (.iushr, 1) := by decide +kernel
theorem dJ6_bitCount_0f7a4_4 : decode cJ6_bitCount_0f7a4 4 = .ok (.ldc_w 265, 3) := by decide +kernel
theorem dJ6_bitCount_0f7a4_7 : decode cJ6_bitCount_0f7a4 7 = .ok (.iand, 1) := by decide +kernel
theorem dJ6_bitCount_0f7a4_8 : decode cJ6_bitCount_0f7a4 8 = .ok (.isub, 1) := by decide +kernel
theorem dJ6_bitCount_0f7a4_9 : decode cJ6_bitCount_0f7a4 9 = .ok (.istore_n 0, 1) := by decide +kernel
theorem dJ6_bitCount_0f7a4_10 : decode cJ6_bitCount_0f7a4 10 = .ok (.iload_n 0, 1) := by decide +kernel
theorem dJ6_bitCount_0f7a4_11 : decode cJ6_bitCount_0f7a4 11 = .ok (.ldc_w 266, 3) := by decide +kernel
theorem dJ6_bitCount_0f7a4_14 : decode cJ6_bitCount_0f7a4 14 = .ok (.iand, 1) := by decide +kernel
theorem dJ6_bitCount_0f7a4_15 : decode cJ6_bitCount_0f7a4 15 = .ok (.iload_n 0, 1) := by decide +kernel
theorem dJ6_bitCount_0f7a4_16 : decode cJ6_bitCount_0f7a4 16 = .ok (.iconst 2, 1) := by decide +kernel
theorem dJ6_bitCount_0f7a4_17 : decode cJ6_bitCount_0f7a4 17 = .ok (.iushr, 1) := by decide +kernel
theorem dJ6_bitCount_0f7a4_18 : decode cJ6_bitCount_0f7a4 18 = .ok (.ldc_w 266, 3) := by decide +kernel
theorem dJ6_bitCount_0f7a4_21 : decode cJ6_bitCount_0f7a4 21 = .ok (.iand, 1) := by decide +kernel
theorem dJ6_bitCount_0f7a4_22 : decode cJ6_bitCount_0f7a4 22 = .ok (.iadd, 1) := by decide +kernel
theorem dJ6_bitCount_0f7a4_23 : decode cJ6_bitCount_0f7a4 23 = .ok (.istore_n 0, 1) := by decide +kernel
theorem dJ6_bitCount_0f7a4_24 : decode cJ6_bitCount_0f7a4 24 = .ok (.iload_n 0, 1) := by decide +kernel
theorem dJ6_bitCount_0f7a4_25 : decode cJ6_bitCount_0f7a4 25 = .ok (.iload_n 0, 1) := by decide +kernel
theorem dJ6_bitCount_0f7a4_26 : decode cJ6_bitCount_0f7a4 26 = .ok (.iconst 4, 1) := by decide +kernel
theorem dJ6_bitCount_0f7a4_27 : decode cJ6_bitCount_0f7a4 27 = .ok (.iushr, 1) := by decide +kernel
theorem dJ6_bitCount_0f7a4_28 : decode cJ6_bitCount_0f7a4 28 = .ok (.iadd, 1) := by decide +kernel
theorem dJ6_bitCount_0f7a4_29 : decode cJ6_bitCount_0f7a4 29 = .ok (.ldc_w 267, 3) := by decide +kernel
theorem dJ6_bitCount_0f7a4_32 : decode cJ6_bitCount_0f7a4 32 = .ok (.iand, 1) := by decide +kernel
theorem dJ6_bitCount_0f7a4_33 : decode cJ6_bitCount_0f7a4 33 = .ok (.istore_n 0, 1) := by decide +kernel
theorem dJ6_bitCount_0f7a4_34 : decode cJ6_bitCount_0f7a4 34 = .ok (.iload_n 0, 1) := by decide +kernel
theorem dJ6_bitCount_0f7a4_35 : decode cJ6_bitCount_0f7a4 35 = .ok (.iload_n 0, 1) := by decide +kernel
theorem dJ6_bitCount_0f7a4_36 : decode cJ6_bitCount_0f7a4 36 = .ok (.bipush 8, 2) := by decide +kernel
theorem dJ6_bitCount_0f7a4_38 : decode cJ6_bitCount_0f7a4 38 = .ok (.iushr, 1) := by decide +kernel
theorem dJ6_bitCount_0f7a4_39 : decode cJ6_bitCount_0f7a4 39 = .ok (.iadd, 1) := by decide +kernel
theorem dJ6_bitCount_0f7a4_40 : decode cJ6_bitCount_0f7a4 40 = .ok (.istore_n 0, 1) := by decide +kernel
theorem dJ6_bitCount_0f7a4_41 : decode cJ6_bitCount_0f7a4 41 = .ok (.iload_n 0, 1) := by decide +kernel
theorem dJ6_bitCount_0f7a4_42 : decode cJ6_bitCount_0f7a4 42 = .ok (.iload_n 0, 1) := by decide +kernel
theorem dJ6_bitCount_0f7a4_43 : decode cJ6_bitCount_0f7a4 43 = .ok (.bipush 16, 2) := by decide +kernel
theorem dJ6_bitCount_0f7a4_45 : decode cJ6_bitCount_0f7a4 45 = .ok (.iushr, 1) := by decide +kernel
theorem dJ6_bitCount_0f7a4_46 : decode cJ6_bitCount_0f7a4 46 = .ok (.iadd, 1) := by decide +kernel
theorem dJ6_bitCount_0f7a4_47 : decode cJ6_bitCount_0f7a4 47 = .ok (.istore_n 0, 1) := by decide +kernel
theorem dJ6_bitCount_0f7a4_48 : decode cJ6_bitCount_0f7a4 48 = .ok (.iload_n 0, 1) := by decide +kernel
theorem dJ6_bitCount_0f7a4_49 : decode cJ6_bitCount_0f7a4 49 = .ok (.bipush 63, 2) := by decide +kernel
theorem dJ6_bitCount_0f7a4_51 : decode cJ6_bitCount_0f7a4 51 = .ok (.iand, 1) := by decide +kernel
theorem dJ6_bitCount_0f7a4_52 : decode cJ6_bitCount_0f7a4 52 = .ok (.ireturn, 1) := by decide +kernel
theorem dJ9_floorMod_7cf53_0 : decode cJ9_floorMod_7cf53 0 = .ok (.iload_n 0, 1) := by decide +kernel
theorem dJ9_floorMod_7cf53_1 : decode cJ9_floorMod_7cf53 1 = .ok (.iload_n 1, 1) := by decide +kernel
theorem dJ9_floorMod_7cf53_2 : decode cJ9_floorMod_7cf53 2 = .ok (.irem, 1) := by decide +kernel
theorem dJ9_floorMod_7cf53_3 : decode cJ9_floorMod_7cf53 3 = .ok (.istore_n 2, 1) := by decide +kernel
theorem dJ9_floorMod_7cf53_4 : decode cJ9_floorMod_7cf53 4 = .ok (.iload_n 0, 1) := by decide +kernel
theorem dJ9_floorMod_7cf53_5 : decode cJ9_floorMod_7cf53 5 = .ok (.iload_n 1, 1) := by decide +kernel
theorem dJ9_floorMod_7cf53_6 : decode cJ9_floorMod_7cf53 6 = .ok (.ixor, 1) := by decide +kernel
theorem dJ9_floorMod_7cf53_7 : decode cJ9_floorMod_7cf53 7 = .ok (.ifCond .ge 11, 3) := by decide +kernel
theorem dJ9_floorMod_7cf53_10 : decode cJ9_floorMod_7cf53 10 = .ok (.iload_n 2, 1) := by decide +kernel
theorem dJ9_floorMod_7cf53_11 : decode cJ9_floorMod_7cf53 11 = .ok (.ifCond .eq 7, 3) := by decide +kernel
theorem dJ9_floorMod_7cf53_14 : decode cJ9_floorMod_7cf53 14 = .ok (.iload_n 2, 1) := by decide +kernel
theorem dJ9_floorMod_7cf53_15 : decode cJ9_floorMod_7cf53 15 = .ok (.iload_n 1, 1) := by decide +kernel
theorem dJ9_floorMod_7cf53_16 : decode cJ9_floorMod_7cf53 16 = .ok (.iadd, 1) := by decide +kernel
theorem dJ9_floorMod_7cf53_17 : decode cJ9_floorMod_7cf53 17 = .ok (.ireturn, 1) := by decide +kernel
theorem dJ9_floorMod_7cf53_18 : decode cJ9_floorMod_7cf53 18 = .ok (.iload_n 2, 1) := by decide +kernel
theorem dJ9_floorMod_7cf53_19 : decode cJ9_floorMod_7cf53 19 = .ok (.ireturn, 1) := by decide +kernel
theorem dJ9_abs_0f7a4_0 : decode cJ9_abs_0f7a4 0 = .ok (.iload_n 0, 1) := by decide +kernel
theorem dJ9_abs_0f7a4_1 : decode cJ9_abs_0f7a4 1 = .ok (.ifCond .ge 8, 3) := by decide +kernel
theorem dJ9_abs_0f7a4_4 : decode cJ9_abs_0f7a4 4 = .ok (.iload_n 0, 1) := by decide +kernel
theorem dJ9_abs_0f7a4_5 : decode cJ9_abs_0f7a4 5 = .ok (.ineg, 1) := by decide +kernel
theorem dJ9_abs_0f7a4_6 : decode cJ9_abs_0f7a4 6 = .ok (.goto 4, 3) := by decide +kernel
theorem dJ9_abs_0f7a4_9 : decode cJ9_abs_0f7a4 9 = .ok (.iload_n 0, 1) := by decide +kernel
theorem dJ9_abs_0f7a4_10 : decode cJ9_abs_0f7a4 10 = .ok (.ireturn, 1) := by decide +kernel
theorem dJ9_max_7cf53_0 : decode cJ9_max_7cf53 0 = .ok (.iload_n 0, 1) := by decide +kernel
theorem dJ9_max_7cf53_1 : decode cJ9_max_7cf53 1 = .ok (.iload_n 1, 1) := by decide +kernel
theorem dJ9_max_7cf53_2 : decode cJ9_max_7cf53 2 = .ok (.if_icmp .lt 7, 3) := by decide +kernel
theorem dJ9_max_7cf53_5 : decode cJ9_max_7cf53 5 = .ok (.iload_n 0, 1) := by decide +kernel
theorem dJ9_max_7cf53_6 : decode cJ9_max_7cf53 6 = .ok (.goto 4, 3) := by decide +kernel
theorem dJ9_max_7cf53_9 : decode cJ9_max_7cf53 9 = .ok (.iload_n 1, 1) := by decide +kernel
theorem dJ9_max_7cf53_10 : decode cJ9_max_7cf53 10 = .ok (.ireturn, 1) := by decide +kernel
theorem dJ9_min_7cf53_0 : decode cJ9_min_7cf53 0 = .ok (.iload_n 0, 1) := by decide +kernel
theorem dJ9_min_7cf53_1 : decode cJ9_min_7cf53 1 = .ok (.iload_n 1, 1) := by decide +kernel
theorem dJ9_min_7cf53_2 : decode cJ9_min_7cf53 2 = .ok (.if_icmp .gt 7, 3) := by decide +kernel
theorem dJ9_min_7cf53_5 : decode cJ9_min_7cf53 5 = .ok (.iload_n 0, 1) := by decide +kernel
theorem dJ9_min_7cf53_6 : decode cJ9_min_7cf53 6 = .ok (.goto 4, 3) := by decide +kernel
theorem dJ9_min_7cf53_9 : decode cJ9_min_7cf53 9 = .ok (.iload_n 1, 1) := by decide +kernel
theorem dJ9_min_7cf53_10 : decode cJ9_min_7cf53 10 = .ok (.ireturn, 1) := by decide +kernel
