/-! printed names, part 04.d2345 -/
theorem dX2_init_0 : decode cX2_init 0 = .ok (.aload_n 0, 1) := by decide +kernel
theorem dX2_init_1 : decode cX2_init 1 = .ok (.invokespecial 3, 3) := by decide +kernel
theorem dX2_init_4 : decode cX2_init 4 = .ok (.aload_n 0, 1) := by decide +kernel
theorem dX2_init_5 : decode cX2_init 5 = .ok (.aload_n 1, 1) := by decide +kernel
theorem dX2_init_6 : decode cX2_init 6 = .ok (.putfield 9, 3) := by decide +kernel
theorem dX2_init_9 : decode cX2_init 9 = .ok (.return_, 1) := by decide +kernel
set_option maxRecDepth 20000 in
theorem ggX2_beginsBand_X0_rowBits : GoodIn wsX2_beginsBand wsX0_rowBits := goodIn_r _ [6, 7, 9, 10, 11, 12, 13, 14] (by decide +kernel) (by decide +kernel)
set_option maxRecDepth 20000 in
theorem gX2_beginsBand_X0_rowBits : GoodIn wsX2_beginsBand (wsV RX2 15 RX0 yX0_rowBits wsX0_rowBits) := goodIn_app (goodIn_of _ (by decide +kernel)) ggX2_beginsBand_X0_rowBits
theorem dX2_beginsBand_0 : decode cX2_beginsBand 0 = .ok (.aload_n 0, 1) := by decide +kernel
theorem dX2_beginsBand_1 : decode cX2_beginsBand 1 = .ok (.getfield 9, 3) := by decide +kernel
theorem dX2_beginsBand_4 : decode cX2_beginsBand 4 = .ok (.iload_n 1, 1) := by decide +kernel
theorem dX2_beginsBand_5 : decode cX2_beginsBand 5 = .ok (.invokevirtual 15, 3) := by decide +kernel
theorem dX2_beginsBand_8 : decode cX2_beginsBand 8 = .ok (.ifCond .eq 20, 3) := by decide +kernel
theorem dX2_beginsBand_11 : decode cX2_beginsBand 11 = .ok (.aload_n 0, 1) := by decide +kernel
theorem dX2_beginsBand_12 : decode cX2_beginsBand 12 = .ok (.getfield 9, 3) := by decide +kernel
theorem dX2_beginsBand_15 : decode cX2_beginsBand 15 = .ok (.iload_n 1, 1) := by decide +kernel
theorem dX2_beginsBand_16 : decode cX2_beginsBand 16 = .ok (.iconst 1, 1) := by decide +kernel
theorem dX2_beginsBand_17 : decode cX2_beginsBand 17 = .ok (.isub, 1) := by decide +kernel
theorem dX2_beginsBand_18 : decode cX2_beginsBand 18 = .ok (.invokevirtual 15, 3) := by decide +kernel
theorem dX2_beginsBand_21 : decode cX2_beginsBand 21 = .ok (.ifCond .ne 7, 3) := by decide +kernel
theorem dX2_beginsBand_24 : decode cX2_beginsBand 24 = .ok (.iconst 1, 1) := by decide +kernel
theorem dX2_beginsBand_25 : decode cX2_beginsBand 25 = .ok (.goto 4, 3) := by decide +kernel
theorem dX2_beginsBand_28 : decode cX2_beginsBand 28 = .ok (.iconst 0, 1) := by decide +kernel
theorem dX2_beginsBand_29 : decode cX2_beginsBand 29 = .ok (.ireturn, 1) := by decide +kernel
set_option maxRecDepth 20000 in
theorem ggX2_bandCount_X2_beginsBand : GoodIn wsX2_bandCount wsX2_beginsBand := goodIn_r _ [7, 1, 8, 9, 10, 11, 12, 13, 14, 15, 16, 17, 18, 19, 20] (by decide +kernel) (by decide +kernel)
set_option maxRecDepth 20000 in
theorem gX2_bandCount_X2_beginsBand : GoodIn wsX2_bandCount (wsV RX2 25 RX2 yX2_beginsBand wsX2_beginsBand) := goodIn_app (goodIn_of _ (by decide +kernel)) ggX2_bandCount_X2_beginsBand
theorem dX2_bandCount_0 : decode cX2_bandCount 0 = .ok (.iconst 0, 1) := by decide +kernel
theorem dX2_bandCount_1 : decode cX2_bandCount 1 = .ok (.istore_n 1, 1) := by decide +kernel
theorem dX2_bandCount_2 : decode cX2_bandCount 2 = .ok (.iconst 0, 1) := by decide +kernel
theorem dX2_bandCount_3 : decode cX2_bandCount 3 = .ok (.istore_n 2, 1) := by decide +kernel
theorem dX2_bandCount_4 : decode cX2_bandCount 4 = .ok (.iload_n 2, 1) := by decide +kernel
theorem dX2_bandCount_5 : decode cX2_bandCount 5 = .ok (.aload_n 0, 1) := by decide +kernel
theorem dX2_bandCount_6 : decode cX2_bandCount 6 = .ok (.getfield 9, 3) := by decide +kernel
theorem dX2_bandCount_9 : decode cX2_bandCount 9 = .ok (.getfield 21, 3) := by decide +kernel
theorem dX2_bandCount_12 : decode cX2_bandCount 12 = .ok (.if_icmp .ge 20, 3) := by decide +kernel
theorem dX2_bandCount_15 : decode cX2_bandCount 15 = .ok (.aload_n 0, 1) := by decide +kernel
theorem dX2_bandCount_16 : decode cX2_bandCount 16 = .ok (.iload_n 2, 1) := by decide +kernel
theorem dX2_bandCount_17 : decode cX2_bandCount 17 = .ok (.invokevirtual 25, 3) := by decide +kernel
theorem dX2_bandCount_20 : decode cX2_bandCount 20 = .ok (.ifCond .eq 6, 3) := by decide +kernel
theorem dX2_bandCount_23 : decode cX2_bandCount 23 = .ok (.iinc 1 1, 3) := by decide +kernel
theorem dX2_bandCount_26 : decode cX2_bandCount 26 = .ok (.iinc 2 1, 3) := by decide +kernel
theorem dX2_bandCount_29 : decode cX2_bandCount 29 = .ok (.goto (-25), 3) := by decide +kernel
theorem dX2_bandCount_32 : decode cX2_bandCount 32 = .ok (.iload_n 1, 1) := by decide +kernel
theorem dX2_bandCount_33 : decode cX2_bandCount 33 = .ok (.ireturn, 1) := by decide +kernel
set_option maxRecDepth 20000 in
theorem ggX2_firstOfBand_X2_beginsBand : GoodIn wsX2_firstOfBand wsX2_beginsBand := goodIn_r _ [7, 1, 8, 9, 10, 11, 12, 13, 14, 15, 16, 17, 18, 19, 20] (by decide +kernel) (by decide +kernel)
set_option maxRecDepth 20000 in
theorem gX2_firstOfBand_X2_beginsBand : GoodIn wsX2_firstOfBand (wsV RX2 25 RX2 yX2_beginsBand wsX2_beginsBand) := goodIn_app (goodIn_of _ (by decide +kernel)) ggX2_firstOfBand_X2_beginsBand
theorem dX2_firstOfBand_0 : decode cX2_firstOfBand 0 = .ok (.iconst 0, 1) := by decide +kernel
theorem dX2_firstOfBand_1 : decode cX2_firstOfBand 1 = .ok (.istore_n 2, 1) := by decide +kernel
theorem dX2_firstOfBand_2 : decode cX2_firstOfBand 2 = .ok (.iconst 0, 1) := by decide +kernel
theorem dX2_firstOfBand_3 : decode cX2_firstOfBand 3 = .ok (.istore_n 3, 1) := by decide +kernel
theorem dX2_firstOfBand_4 : decode cX2_firstOfBand 4 = .ok (.iload_n 3, 1) := by decide +kernel
theorem dX2_firstOfBand_5 : decode cX2_firstOfBand 5 = .ok (.aload_n 0, 1) := by decide +kernel
theorem dX2_firstOfBand_6 : decode cX2_firstOfBand 6 = .ok (.getfield 9, 3) := by decide +kernel
theorem dX2_firstOfBand_9 : decode cX2_firstOfBand 9 = .ok (.getfield 21, 3) := by decide +kernel
theorem dX2_firstOfBand_12 : decode cX2_firstOfBand 12 = .ok (.if_icmp .ge 27, 3) := by decide +kernel
theorem dX2_firstOfBand_15 : decode cX2_firstOfBand 15 = .ok (.aload_n 0, 1) := by decide +kernel
theorem dX2_firstOfBand_16 : decode cX2_firstOfBand 16 = .ok (.iload_n 3, 1) := by decide +kernel
theorem dX2_firstOfBand_17 : decode cX2_firstOfBand 17 = .ok (.invokevirtual 25, 3) := by decide +kernel
theorem dX2_firstOfBand_20 : decode cX2_firstOfBand 20 = .ok (.ifCond .eq 13, 3) := by decide +kernel
theorem dX2_firstOfBand_23 : decode cX2_firstOfBand 23 = .ok (.iload_n 2, 1) := by decide +kernel
theorem dX2_firstOfBand_24 : decode cX2_firstOfBand 24 = .ok (.iload_n 1, 1) := by decide +kernel
theorem dX2_firstOfBand_25 : decode cX2_firstOfBand 25 = .ok (.if_icmp .ne 5, 3) := by decide +kernel
theorem dX2_firstOfBand_28 : decode cX2_firstOfBand 28 = .ok (.iload_n 3, 1) := by decide +kernel
theorem dX2_firstOfBand_29 : decode cX2_firstOfBand 29 = .ok (.ireturn, 1) := by decide +kernel
theorem dX2_firstOfBand_30 : decode cX2_firstOfBand 30 = .ok (.iinc 2 1, 3) := by decide +kernel
theorem dX2_firstOfBand_33 : decode cX2_firstOfBand 33 = .ok (.iinc 3 1, 3) := by decide +kernel
theorem dX2_firstOfBand_36 : decode cX2_firstOfBand 36 = .ok (.goto (-32), 3) := by decide +kernel
theorem dX2_firstOfBand_39 : decode cX2_firstOfBand 39 = .ok (.iconst (-1), 1) := by decide +kernel
theorem dX2_firstOfBand_40 : decode cX2_firstOfBand 40 = .ok (.ireturn, 1) := by decide +kernel
set_option maxRecDepth 20000 in
theorem ggX2_behindBand_X0_rowBits : GoodIn wsX2_behindBand wsX0_rowBits := goodIn_r _ [7, 8, 10, 11, 12, 13, 14, 15] (by decide +kernel) (by decide +kernel)
set_option maxRecDepth 20000 in
theorem gX2_behindBand_X0_rowBits : GoodIn wsX2_behindBand (wsV RX2 15 RX0 yX0_rowBits wsX0_rowBits) := goodIn_app (goodIn_of _ (by decide +kernel)) ggX2_behindBand_X0_rowBits
theorem dX2_behindBand_0 : decode cX2_behindBand 0 = .ok (.iload_n 1, 1) := by decide +kernel
theorem dX2_behindBand_1 : decode cX2_behindBand 1 = .ok (.istore_n 2, 1) := by decide +kernel
theorem dX2_behindBand_2 : decode cX2_behindBand 2 = .ok (.iload_n 2, 1) := by decide +kernel
theorem dX2_behindBand_3 : decode cX2_behindBand 3 = .ok (.aload_n 0, 1) := by decide +kernel
theorem dX2_behindBand_4 : decode cX2_behindBand 4 = .ok (.getfield 9, 3) := by decide +kernel
theorem dX2_behindBand_7 : decode cX2_behindBand 7 = .ok (.getfield 21, 3) := by decide +kernel
theorem dX2_behindBand_10 : decode cX2_behindBand 10 = .ok (.if_icmp .ge 20, 3) := by decide +kernel
theorem dX2_behindBand_13 : decode cX2_behindBand 13 = .ok (.aload_n 0, 1) := by decide +kernel
theorem dX2_behindBand_14 : decode cX2_behindBand 14 = .ok (.getfield 9, 3) := by decide +kernel
theorem dX2_behindBand_17 : decode cX2_behindBand 17 = .ok (.iload_n 2, 1) := by decide +kernel
theorem dX2_behindBand_18 : decode cX2_behindBand 18 = .ok (.invokevirtual 15, 3) := by decide +kernel
theorem dX2_behindBand_21 : decode cX2_behindBand 21 = .ok (.ifCond .eq 9, 3) := by decide +kernel
theorem dX2_behindBand_24 : decode cX2_behindBand 24 = .ok (.iinc 2 1, 3) := by decide +kernel
theorem dX2_behindBand_27 : decode cX2_behindBand 27 = .ok (.goto (-25), 3) := by decide +kernel
theorem dX2_behindBand_30 : decode cX2_behindBand 30 = .ok (.iload_n 2, 1) := by decide +kernel
theorem dX2_behindBand_31 : decode cX2_behindBand 31 = .ok (.ireturn, 1) := by decide +kernel
set_option maxRecDepth 20000 in
theorem ggX2_samplesBetween_X0_rowBits : GoodIn wsX2_samplesBetween wsX0_rowBits := goodIn_r _ [6, 7, 16, 17, 18, 19, 20, 21] (by decide +kernel) (by decide +kernel)
set_option maxRecDepth 20000 in
theorem gX2_samplesBetween_X0_rowBits : GoodIn wsX2_samplesBetween (wsV RX2 15 RX0 yX0_rowBits wsX0_rowBits) := goodIn_app (goodIn_of _ (by decide +kernel)) ggX2_samplesBetween_X0_rowBits
set_option maxRecDepth 20000 in
theorem ggX2_samplesBetween_J6_bitCount_0f7a4 : GoodIn wsX2_samplesBetween wsJ6_bitCount_0f7a4 := goodIn_r _ [11, 12, 13, 14] (by decide +kernel) (by decide +kernel)
set_option maxRecDepth 20000 in
theorem gX2_samplesBetween_J6_bitCount_0f7a4 : GoodIn wsX2_samplesBetween (va_wsS RX2 29 yJ6_bitCount_0f7a4 wsJ6_bitCount_0f7a4) := goodIn_app (goodIn_of _ (by decide +kernel)) ggX2_samplesBetween_J6_bitCount_0f7a4
theorem dX2_samplesBetween_0 : decode cX2_samplesBetween 0 = .ok (.iconst 0, 1) := by decide +kernel
theorem dX2_samplesBetween_1 : decode cX2_samplesBetween 1 = .ok (.istore_n 3, 1) := by decide +kernel
theorem dX2_samplesBetween_2 : decode cX2_samplesBetween 2 = .ok (.iload_n 1, 1) := by decide +kernel
theorem dX2_samplesBetween_3 : decode cX2_samplesBetween 3 = .ok (.istore 4, 2) := by decide +kernel
theorem dX2_samplesBetween_5 : decode cX2_samplesBetween 5 = .ok (.iload 4, 2) := by decide +kernel
theorem dX2_samplesBetween_7 : decode cX2_samplesBetween 7 = .ok (.iload_n 2, 1) := by decide +kernel
theorem dX2_samplesBetween_8 : decode cX2_samplesBetween 8 = .ok (.if_icmp .ge 24, 3) := by decide +kernel
theorem dX2_samplesBetween_11 : decode cX2_samplesBetween 11 = .ok (.iload_n 3, 1) := by decide +kernel
theorem dX2_samplesBetween_12 : decode cX2_samplesBetween 12 = .ok (.aload_n 0, 1) := by decide +kernel
theorem dX2_samplesBetween_13 : decode cX2_samplesBetween 13 = .ok (.getfield 9, 3) := by decide +kernel
theorem dX2_samplesBetween_16 : decode cX2_samplesBetween 16 = .ok (.iload 4, 2) := by decide +kernel
theorem dX2_samplesBetween_18 : decode cX2_samplesBetween 18 = .ok (.invokevirtual 15, 3) := by decide +kernel
theorem dX2_samplesBetween_21 : decode cX2_samplesBetween 21 = .ok (.invokestatic 29, 3) := by decide +kernel
theorem dX2_samplesBetween_24 : decode cX2_samplesBetween 24 = .ok (.iadd, 1) := by decide +kernel
theorem dX2_samplesBetween_25 : decode cX2_samplesBetween 25 = .ok (.istore_n 3, 1) := by decide +kernel
theorem dX2_samplesBetween_26 : decode cX2_samplesBetween 26 = .ok (.iinc 4 1, 3) := by decide +kernel
theorem dX2_samplesBetween_29 : decode cX2_samplesBetween 29 = .ok (.goto (-24), 3) := by decide +kernel
theorem dX2_samplesBetween_32 : decode cX2_samplesBetween 32 = .ok (.iload_n 3, 1) := by decide +kernel
theorem dX2_samplesBetween_33 : decode cX2_samplesBetween 33 = .ok (.ireturn, 1) := by decide +kernel
set_option maxRecDepth 20000 in
theorem ggX2_lowerMinusUpper_X2_beginsBand : GoodIn wsX2_lowerMinusUpper wsX2_beginsBand := goodIn_r _ [7, 1, 8, 9, 10, 11, 12, 13, 29, 30, 31, 32, 33, 34, 35] (by decide +kernel) (by decide +kernel)
set_option maxRecDepth 20000 in
theorem gX2_lowerMinusUpper_X2_beginsBand : GoodIn wsX2_lowerMinusUpper (wsV RX2 25 RX2 yX2_beginsBand wsX2_beginsBand) := goodIn_app (goodIn_of _ (by decide +kernel)) ggX2_lowerMinusUpper_X2_beginsBand
set_option maxRecDepth 20000 in
theorem ggX2_lowerMinusUpper_X2_behindBand : GoodIn wsX2_lowerMinusUpper wsX2_behindBand := goodIn_r _ [17, 1, 2, 8, 9, 10, 11, 12, 13, 29, 30, 31, 32, 33, 34, 35] (by decide +kernel) (by decide +kernel)
set_option maxRecDepth 20000 in
theorem gX2_lowerMinusUpper_X2_behindBand : GoodIn wsX2_lowerMinusUpper (wsV RX2 34 RX2 yX2_behindBand wsX2_behindBand) := goodIn_app (goodIn_of _ (by decide +kernel)) ggX2_lowerMinusUpper_X2_behindBand
set_option maxRecDepth 20000 in
theorem ggX2_lowerMinusUpper_X2_samplesBetween : GoodIn wsX2_lowerMinusUpper wsX2_samplesBetween := goodIn_r _ [21, 1, 8, 9, 10, 11, 12, 13, 22, 23, 24, 25, 26, 27, 28, 29, 30, 31, 32, 33, 34, 35] (by decide +kernel) (by decide +kernel)
set_option maxRecDepth 20000 in
theorem gX2_lowerMinusUpper_X2_samplesBetween : GoodIn wsX2_lowerMinusUpper (wsV RX2 37 RX2 yX2_samplesBetween wsX2_samplesBetween) := goodIn_app (goodIn_of _ (by decide +kernel)) ggX2_lowerMinusUpper_X2_samplesBetween
theorem dX2_lowerMinusUpper_0 : decode cX2_lowerMinusUpper 0 = .ok (.iconst 0, 1) := by decide +kernel
theorem dX2_lowerMinusUpper_1 : decode cX2_lowerMinusUpper 1 = .ok (.istore_n 1, 1) := by decide +kernel
theorem dX2_lowerMinusUpper_2 : decode cX2_lowerMinusUpper 2 = .ok (.iconst 0, 1) := by decide +kernel
theorem dX2_lowerMinusUpper_3 : decode cX2_lowerMinusUpper 3 = .ok (.istore_n 2, 1) := by decide +kernel
theorem dX2_lowerMinusUpper_4 : decode cX2_lowerMinusUpper 4 = .ok (.iload_n 2, 1) := by decide +kernel
theorem dX2_lowerMinusUpper_5 : decode cX2_lowerMinusUpper 5 = .ok (.aload_n 0, 1) := by decide +kernel
theorem dX2_lowerMinusUpper_6 : decode cX2_lowerMinusUpper 6 = .ok (.getfield 9, 3) := by decide +kernel
theorem dX2_lowerMinusUpper_9 : decode cX2_lowerMinusUpper 9 = .ok (.getfield 21, 3) := by decide +kernel
theorem dX2_lowerMinusUpper_12 : decode cX2_lowerMinusUpper 12 = .ok (.if_icmp .ge 54, 3) := by decide +kernel
theorem dX2_lowerMinusUpper_15 : decode cX2_lowerMinusUpper 15 = .ok (.aload_n 0, 1) := by decide +kernel
theorem dX2_lowerMinusUpper_16 : decode cX2_lowerMinusUpper 16 = .ok (.iload_n 2, 1) := by decide +kernel
theorem dX2_lowerMinusUpper_17 : decode cX2_lowerMinusUpper 17 = .ok (.invokevirtual 25, 3) := by decide +kernel
theorem dX2_lowerMinusUpper_20 : decode cX2_lowerMinusUpper 20 = .ok (.ifCond .eq 40, 3) := by decide +kernel
theorem dX2_lowerMinusUpper_23 : decode cX2_lowerMinusUpper 23 = .ok (.aload_n 0, 1) := by decide +kernel
theorem dX2_lowerMinusUpper_24 : decode cX2_lowerMinusUpper 24 = .ok (.iload_n 2, 1) := by decide +kernel
theorem dX2_lowerMinusUpper_25 : decode cX2_lowerMinusUpper 25 = .ok (.invokevirtual 34, 3) := by decide +kernel
theorem dX2_lowerMinusUpper_28 : decode cX2_lowerMinusUpper 28 = .ok (.istore_n 3, 1) := by decide +kernel
theorem dX2_lowerMinusUpper_29 : decode cX2_lowerMinusUpper 29 = .ok (.iload_n 3, 1) := by decide +kernel
theorem dX2_lowerMinusUpper_30 : decode cX2_lowerMinusUpper 30 = .ok (.iload_n 2, 1) := by decide +kernel
theorem dX2_lowerMinusUpper_31 : decode cX2_lowerMinusUpper 31 = .ok (.isub, 1) := by decide +kernel
theorem dX2_lowerMinusUpper_32 : decode cX2_lowerMinusUpper 32 = .ok (.iconst 2, 1) := by decide +kernel
theorem dX2_lowerMinusUpper_33 : decode cX2_lowerMinusUpper 33 = .ok (.idiv, 1) := by decide +kernel
theorem dX2_lowerMinusUpper_34 : decode cX2_lowerMinusUpper 34 = .ok (.istore 4, 2) := by decide +kernel
theorem dX2_lowerMinusUpper_36 : decode cX2_lowerMinusUpper 36 = .ok (.iload_n 1, 1) := by decide +kernel
theorem dX2_lowerMinusUpper_37 : decode cX2_lowerMinusUpper 37 = .ok (.aload_n 0, 1) := by decide +kernel
theorem dX2_lowerMinusUpper_38 : decode cX2_lowerMinusUpper 38 = .ok (.iload_n 3, 1) := by decide +kernel
theorem dX2_lowerMinusUpper_39 : decode cX2_lowerMinusUpper 39 = .ok (.iload 4, 2) := by decide +kernel
theorem dX2_lowerMinusUpper_41 : decode cX2_lowerMinusUpper 41 = .ok (.isub, 1) := by decide +kernel
theorem dX2_lowerMinusUpper_42 : decode cX2_lowerMinusUpper 42 = .ok (.iload_n 3, 1) := by decide +kernel
theorem dX2_lowerMinusUpper_43 : decode cX2_lowerMinusUpper 43 = .ok (.invokevirtual 37, 3) := by decide +kernel
theorem dX2_lowerMinusUpper_46 : decode cX2_lowerMinusUpper 46 = .ok (.iadd, 1) := by decide +kernel
theorem dX2_lowerMinusUpper_47 : decode cX2_lowerMinusUpper 47 = .ok (.istore_n 1, 1) := by decide +kernel
theorem dX2_lowerMinusUpper_48 : decode cX2_lowerMinusUpper 48 = .ok (.iload_n 1, 1) := by decide +kernel
theorem dX2_lowerMinusUpper_49 : decode cX2_lowerMinusUpper 49 = .ok (.aload_n 0, 1) := by decide +kernel
theorem dX2_lowerMinusUpper_50 : decode cX2_lowerMinusUpper 50 = .ok (.iload_n 2, 1) := by decide +kernel
theorem dX2_lowerMinusUpper_51 : decode cX2_lowerMinusUpper 51 = .ok (.iload_n 2, 1) := by decide +kernel
theorem dX2_lowerMinusUpper_52 : decode cX2_lowerMinusUpper 52 = .ok (.iload 4, 2) := by decide +kernel
theorem dX2_lowerMinusUpper_54 : decode cX2_lowerMinusUpper 54 = .ok (.iadd, 1) := by decide +kernel
theorem dX2_lowerMinusUpper_55 : decode cX2_lowerMinusUpper 55 = .ok (.invokevirtual 37, 3) := by decide +kernel
theorem dX2_lowerMinusUpper_58 : decode cX2_lowerMinusUpper 58 = .ok (.isub, 1) := by decide +kernel
theorem dX2_lowerMinusUpper_59 : decode cX2_lowerMinusUpper 59 = .ok (.istore_n 1, 1) := by decide +kernel
theorem dX2_lowerMinusUpper_60 : decode cX2_lowerMinusUpper 60 = .ok (.iinc 2 1, 3) := by decide +kernel
theorem dX2_lowerMinusUpper_63 : decode cX2_lowerMinusUpper 63 = .ok (.goto (-59), 3) := by decide +kernel
theorem dX2_lowerMinusUpper_66 : decode cX2_lowerMinusUpper 66 = .ok (.iload_n 1, 1) := by decide +kernel
theorem dX2_lowerMinusUpper_67 : decode cX2_lowerMinusUpper 67 = .ok (.ireturn, 1) := by decide +kernel
set_option maxRecDepth 20000 in
theorem ggX2_baseLineAt_X2_behindBand : GoodIn wsX2_baseLineAt wsX2_behindBand := goodIn_r _ [7, 1, 8, 9, 10, 11, 12, 13, 14, 30, 31, 32, 33, 34, 35, 36] (by decide +kernel) (by decide +kernel)
set_option maxRecDepth 20000 in
theorem gX2_baseLineAt_X2_behindBand : GoodIn wsX2_baseLineAt (wsV RX2 34 RX2 yX2_behindBand wsX2_behindBand) := goodIn_app (goodIn_of _ (by decide +kernel)) ggX2_baseLineAt_X2_behindBand
set_option maxRecDepth 20000 in
theorem ggX2_baseLineAt_X2_lowestOn : GoodIn wsX2_baseLineAt wsX2_lowestOn := goodIn_r _ [18, 1, 19, 20, 21, 12, 22, 23, 24, 25, 26, 27, 28, 29, 10, 11, 13, 14, 30, 31, 32, 33, 34, 35, 36] (by decide +kernel) (by decide +kernel)
set_option maxRecDepth 20000 in
theorem gX2_baseLineAt_X2_lowestOn : GoodIn wsX2_baseLineAt (wsV RX2 44 RX2 yX2_lowestOn wsX2_lowestOn) := goodIn_app (goodIn_of _ (by decide +kernel)) ggX2_baseLineAt_X2_lowestOn
theorem dX2_baseLineAt_0 : decode cX2_baseLineAt 0 = .ok (.aload_n 0, 1) := by decide +kernel
theorem dX2_baseLineAt_1 : decode cX2_baseLineAt 1 = .ok (.iload_n 1, 1) := by decide +kernel
theorem dX2_baseLineAt_2 : decode cX2_baseLineAt 2 = .ok (.invokevirtual 34, 3) := by decide +kernel
theorem dX2_baseLineAt_5 : decode cX2_baseLineAt 5 = .ok (.istore 4, 2) := by decide +kernel
theorem dX2_baseLineAt_7 : decode cX2_baseLineAt 7 = .ok (.iconst 0, 1) := by decide +kernel
theorem dX2_baseLineAt_8 : decode cX2_baseLineAt 8 = .ok (.istore 5, 2) := by decide +kernel
theorem dX2_baseLineAt_10 : decode cX2_baseLineAt 10 = .ok (.iconst 0, 1) := by decide +kernel
theorem dX2_baseLineAt_11 : decode cX2_baseLineAt 11 = .ok (.istore 6, 2) := by decide +kernel
theorem dX2_baseLineAt_13 : decode cX2_baseLineAt 13 = .ok (.iconst 0, 1) := by decide +kernel
theorem dX2_baseLineAt_14 : decode cX2_baseLineAt 14 = .ok (.istore 7, 2) := by decide +kernel
theorem dX2_baseLineAt_16 : decode cX2_baseLineAt 16 = .ok (.iconst 0, 1) := by decide +kernel
theorem dX2_baseLineAt_17 : decode cX2_baseLineAt 17 = .ok (.istore 8, 2) := by decide +kernel
theorem dX2_baseLineAt_19 : decode cX2_baseLineAt 19 = .ok (.iconst 0, 1) := by decide +kernel
theorem dX2_baseLineAt_20 : decode cX2_baseLineAt 20 = .ok (.istore 9, 2) := by decide +kernel
theorem dX2_baseLineAt_22 : decode cX2_baseLineAt 22 = .ok (.iconst 0, 1) := by decide +kernel
theorem dX2_baseLineAt_23 : decode cX2_baseLineAt 23 = .ok (.istore 10, 2) := by decide +kernel
theorem dX2_baseLineAt_25 : decode cX2_baseLineAt 25 = .ok (.iload 10, 2) := by decide +kernel
theorem dX2_baseLineAt_27 : decode cX2_baseLineAt 27 = .ok (.aload_n 0, 1) := by decide +kernel
theorem dX2_baseLineAt_28 : decode cX2_baseLineAt 28 = .ok (.getfield 9, 3) := by decide +kernel
theorem dX2_baseLineAt_31 : decode cX2_baseLineAt 31 = .ok (.getfield 41, 3) := by decide +kernel
theorem dX2_baseLineAt_34 : decode cX2_baseLineAt 34 = .ok (.if_icmp .ge 63, 3) := by decide +kernel
theorem dX2_baseLineAt_37 : decode cX2_baseLineAt 37 = .ok (.aload_n 0, 1) := by decide +kernel
theorem dX2_baseLineAt_38 : decode cX2_baseLineAt 38 = .ok (.iload 10, 2) := by decide +kernel
theorem dX2_baseLineAt_40 : decode cX2_baseLineAt 40 = .ok (.iload_n 1, 1) := by decide +kernel
theorem dX2_baseLineAt_41 : decode cX2_baseLineAt 41 = .ok (.iload 4, 2) := by decide +kernel
theorem dX2_baseLineAt_43 : decode cX2_baseLineAt 43 = .ok (.invokevirtual 44, 3) := by decide +kernel
theorem dX2_baseLineAt_46 : decode cX2_baseLineAt 46 = .ok (.istore 11, 2) := by decide +kernel
theorem dX2_baseLineAt_48 : decode cX2_baseLineAt 48 = .ok (.iload 11, 2) := by decide +kernel
theorem dX2_baseLineAt_50 : decode cX2_baseLineAt 50 = .ok (.iconst (-1), 1) := by decide +kernel
theorem dX2_baseLineAt_51 : decode cX2_baseLineAt 51 = .ok (.if_icmp .eq 40, 3) := by decide +kernel
theorem dX2_baseLineAt_54 : decode cX2_baseLineAt 54 = .ok (.iinc 5 1, 3) := by decide +kernel
theorem dX2_baseLineAt_57 : decode cX2_baseLineAt 57 = .ok (.iload 6, 2) := by decide +kernel
theorem dX2_baseLineAt_59 : decode cX2_baseLineAt 59 = .ok (.iload 10, 2) := by decide +kernel
theorem dX2_baseLineAt_61 : decode cX2_baseLineAt 61 = .ok (.iadd, 1) := by decide +kernel
theorem dX2_baseLineAt_62 : decode cX2_baseLineAt 62 = .ok (.istore 6, 2) := by decide +kernel
theorem dX2_baseLineAt_64 : decode cX2_baseLineAt 64 = .ok (.iload 7, 2) := by decide +kernel
theorem dX2_baseLineAt_66 : decode cX2_baseLineAt 66 = .ok (.iload 11, 2) := by decide +kernel
theorem dX2_baseLineAt_68 : decode cX2_baseLineAt 68 = .ok (.iadd, 1) := by decide +kernel
theorem dX2_baseLineAt_69 : decode cX2_baseLineAt 69 = .ok (.istore 7, 2) := by decide +kernel
theorem dX2_baseLineAt_71 : decode cX2_baseLineAt 71 = .ok (.iload 8, 2) := by decide +kernel
theorem dX2_baseLineAt_73 : decode cX2_baseLineAt 73 = .ok (.iload 10, 2) := by decide +kernel
theorem dX2_baseLineAt_75 : decode cX2_baseLineAt 75 = .ok (.iload 10, 2) := by decide +kernel
theorem dX2_baseLineAt_77 : decode cX2_baseLineAt 77 = .ok (.imul, 1) := by decide +kernel
theorem dX2_baseLineAt_78 : decode cX2_baseLineAt 78 = .ok (.iadd, 1) := by decide +kernel
theorem dX2_baseLineAt_79 : decode cX2_baseLineAt 79 = .ok (.istore 8, 2) := by decide +kernel
theorem dX2_baseLineAt_81 : decode cX2_baseLineAt 81 = .ok (.iload 9, 2) := by decide +kernel
theorem dX2_baseLineAt_83 : decode cX2_baseLineAt 83 = .ok (.iload 10, 2) := by decide +kernel
theorem dX2_baseLineAt_85 : decode cX2_baseLineAt 85 = .ok (.iload 11, 2) := by decide +kernel
theorem dX2_baseLineAt_87 : decode cX2_baseLineAt 87 = .ok (.imul, 1) := by decide +kernel
theorem dX2_baseLineAt_88 : decode cX2_baseLineAt 88 = .ok (.iadd, 1) := by decide +kernel
theorem dX2_baseLineAt_89 : decode cX2_baseLineAt 89 = .ok (.istore 9, 2) := by decide +kernel
theorem dX2_baseLineAt_91 : decode cX2_baseLineAt 91 = .ok (.iinc 10 1, 3) := by decide +kernel
theorem dX2_baseLineAt_94 : decode cX2_baseLineAt 94 = .ok (.goto (-69), 3) := by decide +kernel
theorem dX2_baseLineAt_97 : decode cX2_baseLineAt 97 = .ok (.iload 5, 2) := by decide +kernel
theorem dX2_baseLineAt_99 : decode cX2_baseLineAt 99 = .ok (.ifCond .ne 5, 3) := by decide +kernel
theorem dX2_baseLineAt_102 : decode cX2_baseLineAt 102 = .ok (.dconst 0, 1) := by decide +kernel
theorem dX2_baseLineAt_103 : decode cX2_baseLineAt 103 = .ok (.dreturn, 1) := by decide +kernel
theorem dX2_baseLineAt_104 : decode cX2_baseLineAt 104 = .ok (.iload 5, 2) := by decide +kernel
theorem dX2_baseLineAt_106 : decode cX2_baseLineAt 106 = .ok (.iload 8, 2) := by decide +kernel
theorem dX2_baseLineAt_108 : decode cX2_baseLineAt 108 = .ok (.imul, 1) := by decide +kernel
theorem dX2_baseLineAt_109 : decode cX2_baseLineAt 109 = .ok (.iload 6, 2) := by decide +kernel
theorem dX2_baseLineAt_111 : decode cX2_baseLineAt 111 = .ok (.iload 6, 2) := by decide +kernel
theorem dX2_baseLineAt_113 : decode cX2_baseLineAt 113 = .ok (.imul, 1) := by decide +kernel
theorem dX2_baseLineAt_114 : decode cX2_baseLineAt 114 = .ok (.isub, 1) := by decide +kernel
theorem dX2_baseLineAt_115 : decode cX2_baseLineAt 115 = .ok (.istore 10, 2) := by decide +kernel
theorem dX2_baseLineAt_117 : decode cX2_baseLineAt 117 = .ok (.iload 10, 2) := by decide +kernel
theorem dX2_baseLineAt_119 : decode cX2_baseLineAt 119 = .ok (.ifCond .ne 11, 3) := by decide +kernel
theorem dX2_baseLineAt_122 : decode cX2_baseLineAt 122 = .ok (.iload 7, 2) := by decide +kernel
theorem dX2_baseLineAt_124 : decode cX2_baseLineAt 124 = .ok (.i2d, 1) := by decide +kernel
theorem dX2_baseLineAt_125 : decode cX2_baseLineAt 125 = .ok (.iload 5, 2) := by decide +kernel
theorem dX2_baseLineAt_127 : decode cX2_baseLineAt 127 = .ok (.i2d, 1) := by decide +kernel
theorem dX2_baseLineAt_128 : decode cX2_baseLineAt 128 = .ok (.ddiv, 1) := by decide +kernel
theorem dX2_baseLineAt_129 : decode cX2_baseLineAt 129 = .ok (.dreturn, 1) := by decide +kernel
theorem dX2_baseLineAt_130 : decode cX2_baseLineAt 130 = .ok (.iload 5, 2) := by decide +kernel
theorem dX2_baseLineAt_132 : decode cX2_baseLineAt 132 = .ok (.iload 9, 2) := by decide +kernel
theorem dX2_baseLineAt_134 : decode cX2_baseLineAt 134 = .ok (.imul, 1) := by decide +kernel
theorem dX2_baseLineAt_135 : decode cX2_baseLineAt 135 = .ok (.iload 6, 2) := by decide +kernel
theorem dX2_baseLineAt_137 : decode cX2_baseLineAt 137 = .ok (.iload 7, 2) := by decide +kernel
theorem dX2_baseLineAt_139 : decode cX2_baseLineAt 139 = .ok (.imul, 1) := by decide +kernel
theorem dX2_baseLineAt_140 : decode cX2_baseLineAt 140 = .ok (.isub, 1) := by decide +kernel
theorem dX2_baseLineAt_141 : decode cX2_baseLineAt 141 = .ok (.i2d, 1) := by decide +kernel
theorem dX2_baseLineAt_142 : decode cX2_baseLineAt 142 = .ok (.iload 10, 2) := by decide +kernel
theorem dX2_baseLineAt_144 : decode cX2_baseLineAt 144 = .ok (.i2d, 1) := by decide +kernel
theorem dX2_baseLineAt_145 : decode cX2_baseLineAt 145 = .ok (.ddiv, 1) := by decide +kernel
theorem dX2_baseLineAt_146 : decode cX2_baseLineAt 146 = .ok (.dstore 11, 2) := by decide +kernel
theorem dX2_baseLineAt_148 : decode cX2_baseLineAt 148 = .ok (.dload 11, 2) := by decide +kernel
theorem dX2_baseLineAt_150 : decode cX2_baseLineAt 150 = .ok (.dload_n 2, 1) := by decide +kernel
theorem dX2_baseLineAt_151 : decode cX2_baseLineAt 151 = .ok (.dmul, 1) := by decide +kernel
theorem dX2_baseLineAt_152 : decode cX2_baseLineAt 152 = .ok (.iload 7, 2) := by decide +kernel
theorem dX2_baseLineAt_154 : decode cX2_baseLineAt 154 = .ok (.i2d, 1) := by decide +kernel
theorem dX2_baseLineAt_155 : decode cX2_baseLineAt 155 = .ok (.dload 11, 2) := by decide +kernel
theorem dX2_baseLineAt_157 : decode cX2_baseLineAt 157 = .ok (.iload 6, 2) := by decide +kernel
theorem dX2_baseLineAt_159 : decode cX2_baseLineAt 159 = .ok (.i2d, 1) := by decide +kernel
theorem dX2_baseLineAt_160 : decode cX2_baseLineAt 160 = .ok (.dmul, 1) := by decide +kernel
theorem dX2_baseLineAt_161 : decode cX2_baseLineAt 161 = .ok (.dsub, 1) := by decide +kernel
theorem dX2_baseLineAt_162 : decode cX2_baseLineAt 162 = .ok (.iload 5, 2) := by decide +kernel
theorem dX2_baseLineAt_164 : decode cX2_baseLineAt 164 = .ok (.i2d, 1) := by decide +kernel
theorem dX2_baseLineAt_165 : decode cX2_baseLineAt 165 = .ok (.ddiv, 1) := by decide +kernel
theorem dX2_baseLineAt_166 : decode cX2_baseLineAt 166 = .ok (.dadd, 1) := by decide +kernel
theorem dX2_baseLineAt_167 : decode cX2_baseLineAt 167 = .ok (.dreturn, 1) := by decide +kernel
set_option maxRecDepth 20000 in
theorem ggX2_lowestOn_X0_isOn : GoodIn wsX2_lowestOn wsX0_isOn := goodIn_r _ [6, 7, 8, 9, 5, 10, 11, 12, 13, 14, 15, 16, 17, 19, 20, 21, 22, 23, 24] (by decide +kernel) (by decide +kernel)
set_option maxRecDepth 20000 in
theorem gX2_lowestOn_X0_isOn : GoodIn wsX2_lowestOn (wsV RX2 48 RX0 yX0_isOn wsX0_isOn) := goodIn_app (goodIn_of _ (by decide +kernel)) ggX2_lowestOn_X0_isOn
theorem dX2_lowestOn_0 : decode cX2_lowestOn 0 = .ok (.iload_n 3, 1) := by decide +kernel
theorem dX2_lowestOn_1 : decode cX2_lowestOn 1 = .ok (.iconst 1, 1) := by decide +kernel
theorem dX2_lowestOn_2 : decode cX2_lowestOn 2 = .ok (.isub, 1) := by decide +kernel
theorem dX2_lowestOn_3 : decode cX2_lowestOn 3 = .ok (.istore 4, 2) := by decide +kernel
theorem dX2_lowestOn_5 : decode cX2_lowestOn 5 = .ok (.iload 4, 2) := by decide +kernel
theorem dX2_lowestOn_7 : decode cX2_lowestOn 7 = .ok (.iload_n 2, 1) := by decide +kernel
theorem dX2_lowestOn_8 : decode cX2_lowestOn 8 = .ok (.if_icmp .lt 25, 3) := by decide +kernel
theorem dX2_lowestOn_11 : decode cX2_lowestOn 11 = .ok (.aload_n 0, 1) := by decide +kernel
theorem dX2_lowestOn_12 : decode cX2_lowestOn 12 = .ok (.getfield 9, 3) := by decide +kernel
theorem dX2_lowestOn_15 : decode cX2_lowestOn 15 = .ok (.iload_n 1, 1) := by decide +kernel
theorem dX2_lowestOn_16 : decode cX2_lowestOn 16 = .ok (.iload 4, 2) := by decide +kernel
theorem dX2_lowestOn_18 : decode cX2_lowestOn 18 = .ok (.invokevirtual 48, 3) := by decide +kernel
theorem dX2_lowestOn_21 : decode cX2_lowestOn 21 = .ok (.ifCond .eq 6, 3) := by decide +kernel
theorem dX2_lowestOn_24 : decode cX2_lowestOn 24 = .ok (.iload 4, 2) := by decide +kernel
theorem dX2_lowestOn_26 : decode cX2_lowestOn 26 = .ok (.ireturn, 1) := by decide +kernel
theorem dX2_lowestOn_27 : decode cX2_lowestOn 27 = .ok (.iinc 4 (-1), 3) := by decide +kernel
theorem dX2_lowestOn_30 : decode cX2_lowestOn 30 = .ok (.goto (-25), 3) := by decide +kernel
theorem dX2_lowestOn_33 : decode cX2_lowestOn 33 = .ok (.iconst (-1), 1) := by decide +kernel
theorem dX2_lowestOn_34 : decode cX2_lowestOn 34 = .ok (.ireturn, 1) := by decide +kernel
theorem dX3_init_0 : decode cX3_init 0 = .ok (.aload_n 0, 1) := by decide +kernel
theorem dX3_init_1 : decode cX3_init 1 = .ok (.invokespecial 3, 3) := by decide +kernel
theorem dX3_init_4 : decode cX3_init 4 = .ok (.aload_n 0, 1) := by decide +kernel
theorem dX3_init_5 : decode cX3_init 5 = .ok (.bipush 48, 2) := by decide +kernel
theorem dX3_init_7 : decode cX3_init 7 = .ok (.newarray .int, 2) := by decide +kernel
theorem dX3_init_9 : decode cX3_init 9 = .ok (.putfield 11, 3) := by decide +kernel
theorem dX3_init_12 : decode cX3_init 12 = .ok (.aload_n 0, 1) := by decide +kernel
theorem dX3_init_13 : decode cX3_init 13 = .ok (.iconst 0, 1) := by decide +kernel
theorem dX3_init_14 : decode cX3_init 14 = .ok (.putfield 15, 3) := by decide +kernel
theorem dX3_init_17 : decode cX3_init 17 = .ok (.aload_n 0, 1) := by decide +kernel
theorem dX3_init_18 : decode cX3_init 18 = .ok (.iconst 0, 1) := by decide +kernel
theorem dX3_init_19 : decode cX3_init 19 = .ok (.putfield 19, 3) := by decide +kernel
theorem dX3_init_22 : decode cX3_init 22 = .ok (.aload_n 0, 1) := by decide +kernel
theorem dX3_init_23 : decode cX3_init 23 = .ok (.dconst 0, 1) := by decide +kernel
theorem dX3_init_24 : decode cX3_init 24 = .ok (.putfield 22, 3) := by decide +kernel
theorem dX3_init_27 : decode cX3_init 27 = .ok (.aload_n 0, 1) := by decide +kernel
theorem dX3_init_28 : decode cX3_init 28 = .ok (.iconst 0, 1) := by decide +kernel
theorem dX3_init_29 : decode cX3_init 29 = .ok (.putfield 26, 3) := by decide +kernel
theorem dX3_init_32 : decode cX3_init 32 = .ok (.aload_n 0, 1) := by decide +kernel
theorem dX3_init_33 : decode cX3_init 33 = .ok (.dconst 0, 1) := by decide +kernel
theorem dX3_init_34 : decode cX3_init 34 = .ok (.putfield 30, 3) := by decide +kernel
theorem dX3_init_37 : decode cX3_init 37 = .ok (.aload_n 0, 1) := by decide +kernel
theorem dX3_init_38 : decode cX3_init 38 = .ok (.aload_n 1, 1) := by decide +kernel
theorem dX3_init_39 : decode cX3_init 39 = .ok (.putfield 33, 3) := by decide +kernel
theorem dX3_init_42 : decode cX3_init 42 = .ok (.return_, 1) := by decide +kernel
theorem dX3_forget_0 : decode cX3_forget 0 = .ok (.aload_n 0, 1) := by decide +kernel
theorem dX3_forget_1 : decode cX3_forget 1 = .ok (.iconst 0, 1) := by decide +kernel
theorem dX3_forget_2 : decode cX3_forget 2 = .ok (.putfield 15, 3) := by decide +kernel
theorem dX3_forget_5 : decode cX3_forget 5 = .ok (.return_, 1) := by decide +kernel
theorem dX3_isAsked_0 : decode cX3_isAsked 0 = .ok (.aload_n 0, 1) := by decide +kernel
theorem dX3_isAsked_1 : decode cX3_isAsked 1 = .ok (.getfield 15, 3) := by decide +kernel
theorem dX3_isAsked_4 : decode cX3_isAsked 4 = .ok (.ireturn, 1) := by decide +kernel
theorem dX3_isSure_0 : decode cX3_isSure 0 = .ok (.aload_n 0, 1) := by decide +kernel
theorem dX3_isSure_1 : decode cX3_isSure 1 = .ok (.getfield 19, 3) := by decide +kernel
theorem dX3_isSure_4 : decode cX3_isSure 4 = .ok (.ireturn, 1) := by decide +kernel
theorem dX3_meanOfGrid_0 : decode cX3_meanOfGrid 0 = .ok (.aload_n 0, 1) := by decide +kernel
theorem dX3_meanOfGrid_1 : decode cX3_meanOfGrid 1 = .ok (.getfield 22, 3) := by decide +kernel
theorem dX3_meanOfGrid_4 : decode cX3_meanOfGrid 4 = .ok (.dreturn, 1) := by decide +kernel
set_option maxRecDepth 20000 in
theorem ggX3_find_X0_samplesOn : GoodIn wsX3_find wsX0_samplesOn := goodIn_r _ [14, 15, 16, 17, 18, 13, 19, 20, 21, 22, 23, 24, 25, 26, 27, 92, 93, 94, 95, 96, 97] (by decide +kernel) (by decide +kernel)
set_option maxRecDepth 20000 in
theorem gX3_find_X0_samplesOn : GoodIn wsX3_find (wsV RX3 37 RX0 yX0_samplesOn wsX0_samplesOn) := goodIn_app (goodIn_of _ (by decide +kernel)) ggX3_find_X0_samplesOn
set_option maxRecDepth 20000 in
theorem ggX3_find_X3_tryGrid : GoodIn wsX3_find wsX3_tryGrid := goodIn_r _ [32, 7, 4, 33, 34, 35, 31, 36, 2, 37, 38, 39, 13, 40, 15, 41, 42, 43, 44, 16, 17, 18, 19, 20, 21, 22, 23, 24, 25, 26, 27, 45, 46, 47, 48, 49, 50, 51, 52, 53, 54, 55, 56, 57, 58, 59, 60, 61, 62, 63, 64, 65, 66, 67, 68, 69, 70, 71, 72, 73, 74, 75, 76, 77, 78, 79, 80, 9, 85, 86, 87, 88, 89, 90, 91, 92, 93, 94, 95, 96, 97] (by decide +kernel) (by decide +kernel)
set_option maxRecDepth 20000 in
theorem gX3_find_X3_tryGrid : GoodIn wsX3_find (wsV RX3 44 RX3 yX3_tryGrid wsX3_tryGrid) := goodIn_app (goodIn_of _ (by decide +kernel)) ggX3_find_X3_tryGrid
set_option maxRecDepth 20000 in
theorem ggX3_find_X3_tryBeside : GoodIn wsX3_find wsX3_tryBeside := goodIn_r _ [84, 9, 7, 33, 34, 35, 31, 36, 2, 37, 38, 39, 13, 40, 15, 41, 42, 43, 44, 16, 17, 18, 19, 20, 21, 22, 23, 24, 25, 26, 27, 45, 46, 47, 48, 49, 50, 51, 52, 53, 54, 55, 56, 57, 58, 59, 60, 61, 62, 63, 64, 65, 66, 67, 68, 69, 70, 71, 72, 73, 74, 75, 76, 77, 78, 79, 80, 85, 86, 87, 88, 89, 90, 91, 92, 93, 94, 95, 96, 97] (by decide +kernel) (by decide +kernel)
set_option maxRecDepth 20000 in
theorem gX3_find_X3_tryBeside : GoodIn wsX3_find (wsV RX3 51 RX3 yX3_tryBeside wsX3_tryBeside) := goodIn_app (goodIn_of _ (by decide +kernel)) ggX3_find_X3_tryBeside
theorem dX3_find_0 : decode cX3_find 0 = .ok (.aload_n 0, 1) := by decide +kernel
theorem dX3_find_1 : decode cX3_find 1 = .ok (.iconst 1, 1) := by decide +kernel
theorem dX3_find_2 : decode cX3_find 2 = .ok (.putfield 15, 3) := by decide +kernel
theorem dX3_find_5 : decode cX3_find 5 = .ok (.aload_n 0, 1) := by decide +kernel
theorem dX3_find_6 : decode cX3_find 6 = .ok (.getfield 33, 3) := by decide +kernel
theorem dX3_find_9 : decode cX3_find 9 = .ok (.invokevirtual 37, 3) := by decide +kernel
theorem dX3_find_12 : decode cX3_find 12 = .ok (.ifCond .ne 16, 3) := by decide +kernel
theorem dX3_find_15 : decode cX3_find 15 = .ok (.aload_n 0, 1) := by decide +kernel
theorem dX3_find_16 : decode cX3_find 16 = .ok (.iconst 0, 1) := by decide +kernel
theorem dX3_find_17 : decode cX3_find 17 = .ok (.putfield 19, 3) := by decide +kernel
theorem dX3_find_20 : decode cX3_find 20 = .ok (.aload_n 0, 1) := by decide +kernel
theorem dX3_find_21 : decode cX3_find 21 = .ok (.dconst 0, 1) := by decide +kernel
theorem dX3_find_22 : decode cX3_find 22 = .ok (.putfield 22, 3) := by decide +kernel
theorem dX3_find_25 : decode cX3_find 25 = .ok (.ldc 43, 2) := by decide +kernel
theorem dX3_find_27 : decode cX3_find 27 = .ok (.ireturn, 1) := by decide +kernel
theorem dX3_find_28 : decode cX3_find 28 = .ok (.aload_n 0, 1) := by decide +kernel
theorem dX3_find_29 : decode cX3_find 29 = .ok (.iload_n 1, 1) := by decide +kernel
theorem dX3_find_30 : decode cX3_find 30 = .ok (.invokevirtual 44, 3) := by decide +kernel
theorem dX3_find_33 : decode cX3_find 33 = .ok (.iconst 0, 1) := by decide +kernel
theorem dX3_find_34 : decode cX3_find 34 = .ok (.istore_n 2, 1) := by decide +kernel
theorem dX3_find_35 : decode cX3_find 35 = .ok (.iload_n 2, 1) := by decide +kernel
theorem dX3_find_36 : decode cX3_find 36 = .ok (.getstatic 48, 3) := by decide +kernel
theorem dX3_find_39 : decode cX3_find 39 = .ok (.arraylength, 1) := by decide +kernel
theorem dX3_find_40 : decode cX3_find 40 = .ok (.if_icmp .ge 19, 3) := by decide +kernel
theorem dX3_find_43 : decode cX3_find 43 = .ok (.aload_n 0, 1) := by decide +kernel
theorem dX3_find_44 : decode cX3_find 44 = .ok (.getstatic 48, 3) := by decide +kernel
theorem dX3_find_47 : decode cX3_find 47 = .ok (.iload_n 2, 1) := by decide +kernel
theorem dX3_find_48 : decode cX3_find 48 = .ok (.iaload, 1) := by decide +kernel
theorem dX3_find_49 : decode cX3_find 49 = .ok (.iload_n 1, 1) := by decide +kernel
theorem dX3_find_50 : decode cX3_find 50 = .ok (.invokevirtual 51, 3) := by decide +kernel
theorem dX3_find_53 : decode cX3_find 53 = .ok (.iinc 2 1, 3) := by decide +kernel
theorem dX3_find_56 : decode cX3_find 56 = .ok (.goto (-21), 3) := by decide +kernel
theorem dX3_find_59 : decode cX3_find 59 = .ok (.aload_n 0, 1) := by decide +kernel
theorem dX3_find_60 : decode cX3_find 60 = .ok (.aload_n 0, 1) := by decide +kernel
theorem dX3_find_61 : decode cX3_find 61 = .ok (.getfield 30, 3) := by decide +kernel
theorem dX3_find_64 : decode cX3_find 64 = .ok (.ldc2_w 55, 3) := by decide +kernel
theorem dX3_find_67 : decode cX3_find 67 = .ok (.aload_n 0, 1) := by decide +kernel
theorem dX3_find_68 : decode cX3_find 68 = .ok (.getfield 22, 3) := by decide +kernel
theorem dX3_find_71 : decode cX3_find 71 = .ok (.dmul, 1) := by decide +kernel
theorem dX3_find_72 : decode cX3_find 72 = .ok (.dcmp .l, 1) := by decide +kernel
theorem dX3_find_73 : decode cX3_find 73 = .ok (.ifCond .lt 7, 3) := by decide +kernel
theorem dX3_find_76 : decode cX3_find 76 = .ok (.iconst 1, 1) := by decide +kernel
theorem dX3_find_77 : decode cX3_find 77 = .ok (.goto 4, 3) := by decide +kernel
theorem dX3_find_80 : decode cX3_find 80 = .ok (.iconst 0, 1) := by decide +kernel
theorem dX3_find_81 : decode cX3_find 81 = .ok (.putfield 19, 3) := by decide +kernel
theorem dX3_find_84 : decode cX3_find 84 = .ok (.aload_n 0, 1) := by decide +kernel
theorem dX3_find_85 : decode cX3_find 85 = .ok (.getfield 26, 3) := by decide +kernel
theorem dX3_find_88 : decode cX3_find 88 = .ok (.ireturn, 1) := by decide +kernel
set_option maxRecDepth 20000 in
theorem ggX3_tryGrid_X3_sumAt : GoodIn wsX3_tryGrid wsX3_sumAt := goodIn_r _ [7, 8, 9, 10, 11, 12, 13, 14, 15, 16, 17, 18, 19, 20, 21, 22, 23, 24, 25, 26, 27, 28, 29, 30, 31, 32, 33, 34, 35, 36, 37, 38, 39, 40, 41, 42, 43, 44, 45, 6, 46, 47, 48, 49, 50, 51, 52, 53, 54, 55, 56, 57, 58, 59, 60, 61, 62, 68, 69, 70, 71, 72, 73, 74, 75, 76, 77, 78, 79, 80] (by decide +kernel) (by decide +kernel)
set_option maxRecDepth 20000 in
theorem gX3_tryGrid_X3_sumAt : GoodIn wsX3_tryGrid (wsV RX3 57 RX3 yX3_sumAt wsX3_sumAt) := goodIn_app (goodIn_of _ (by decide +kernel)) ggX3_tryGrid_X3_sumAt
set_option maxRecDepth 20000 in
theorem ggX3_tryGrid_X3_take : GoodIn wsX3_tryGrid wsX3_take := goodIn_r _ [66, 67, 1, 68, 69, 70, 71, 72, 73, 74] (by decide +kernel) (by decide +kernel)
set_option maxRecDepth 20000 in
theorem gX3_tryGrid_X3_take : GoodIn wsX3_tryGrid (wsV RX3 61 RX3 yX3_take wsX3_take) := goodIn_app (goodIn_of _ (by decide +kernel)) ggX3_tryGrid_X3_take
theorem dX3_tryGrid_0 : decode cX3_tryGrid 0 = .ok (.dconst 0, 1) := by decide +kernel
theorem dX3_tryGrid_1 : decode cX3_tryGrid 1 = .ok (.dstore_n 2, 1) := by decide +kernel
theorem dX3_tryGrid_2 : decode cX3_tryGrid 2 = .ok (.iconst 0, 1) := by decide +kernel
theorem dX3_tryGrid_3 : decode cX3_tryGrid 3 = .ok (.istore 4, 2) := by decide +kernel
theorem dX3_tryGrid_5 : decode cX3_tryGrid 5 = .ok (.iload_n 1, 1) := by decide +kernel
theorem dX3_tryGrid_6 : decode cX3_tryGrid 6 = .ok (.ineg, 1) := by decide +kernel
theorem dX3_tryGrid_7 : decode cX3_tryGrid 7 = .ok (.istore 5, 2) := by decide +kernel
theorem dX3_tryGrid_9 : decode cX3_tryGrid 9 = .ok (.iload 5, 2) := by decide +kernel
theorem dX3_tryGrid_11 : decode cX3_tryGrid 11 = .ok (.iload_n 1, 1) := by decide +kernel
theorem dX3_tryGrid_12 : decode cX3_tryGrid 12 = .ok (.if_icmp .gt 48, 3) := by decide +kernel
theorem dX3_tryGrid_15 : decode cX3_tryGrid 15 = .ok (.aload_n 0, 1) := by decide +kernel
theorem dX3_tryGrid_16 : decode cX3_tryGrid 16 = .ok (.iload 5, 2) := by decide +kernel
theorem dX3_tryGrid_18 : decode cX3_tryGrid 18 = .ok (.invokevirtual 57, 3) := by decide +kernel
theorem dX3_tryGrid_21 : decode cX3_tryGrid 21 = .ok (.dstore 6, 2) := by decide +kernel
theorem dX3_tryGrid_23 : decode cX3_tryGrid 23 = .ok (.iload 4, 2) := by decide +kernel
theorem dX3_tryGrid_25 : decode cX3_tryGrid 25 = .ok (.ifCond .eq 13, 3) := by decide +kernel
theorem dX3_tryGrid_28 : decode cX3_tryGrid 28 = .ok (.dload 6, 2) := by decide +kernel
theorem dX3_tryGrid_30 : decode cX3_tryGrid 30 = .ok (.aload_n 0, 1) := by decide +kernel
theorem dX3_tryGrid_31 : decode cX3_tryGrid 31 = .ok (.getfield 30, 3) := by decide +kernel
theorem dX3_tryGrid_34 : decode cX3_tryGrid 34 = .ok (.dcmp .l, 1) := by decide +kernel
theorem dX3_tryGrid_35 : decode cX3_tryGrid 35 = .ok (.ifCond .le 11, 3) := by decide +kernel
theorem dX3_tryGrid_38 : decode cX3_tryGrid 38 = .ok (.aload_n 0, 1) := by decide +kernel
theorem dX3_tryGrid_39 : decode cX3_tryGrid 39 = .ok (.iload 5, 2) := by decide +kernel
theorem dX3_tryGrid_41 : decode cX3_tryGrid 41 = .ok (.dload 6, 2) := by decide +kernel
theorem dX3_tryGrid_43 : decode cX3_tryGrid 43 = .ok (.invokevirtual 61, 3) := by decide +kernel
theorem dX3_tryGrid_46 : decode cX3_tryGrid 46 = .ok (.dload_n 2, 1) := by decide +kernel
theorem dX3_tryGrid_47 : decode cX3_tryGrid 47 = .ok (.dload 6, 2) := by decide +kernel
theorem dX3_tryGrid_49 : decode cX3_tryGrid 49 = .ok (.dadd, 1) := by decide +kernel
theorem dX3_tryGrid_50 : decode cX3_tryGrid 50 = .ok (.dstore_n 2, 1) := by decide +kernel
theorem dX3_tryGrid_51 : decode cX3_tryGrid 51 = .ok (.iinc 4 1, 3) := by decide +kernel
theorem dX3_tryGrid_54 : decode cX3_tryGrid 54 = .ok (.iinc 5 100, 3) := by decide +kernel
theorem dX3_tryGrid_57 : decode cX3_tryGrid 57 = .ok (.goto (-48), 3) := by decide +kernel
theorem dX3_tryGrid_60 : decode cX3_tryGrid 60 = .ok (.aload_n 0, 1) := by decide +kernel
theorem dX3_tryGrid_61 : decode cX3_tryGrid 61 = .ok (.iload 4, 2) := by decide +kernel
theorem dX3_tryGrid_63 : decode cX3_tryGrid 63 = .ok (.ifCond .le 11, 3) := by decide +kernel
theorem dX3_tryGrid_66 : decode cX3_tryGrid 66 = .ok (.dload_n 2, 1) := by decide +kernel
theorem dX3_tryGrid_67 : decode cX3_tryGrid 67 = .ok (.iload 4, 2) := by decide +kernel
theorem dX3_tryGrid_69 : decode cX3_tryGrid 69 = .ok (.i2d, 1) := by decide +kernel
theorem dX3_tryGrid_70 : decode cX3_tryGrid 70 = .ok (.ddiv, 1) := by decide +kernel
theorem dX3_tryGrid_71 : decode cX3_tryGrid 71 = .ok (.goto 4, 3) := by decide +kernel
theorem dX3_tryGrid_74 : decode cX3_tryGrid 74 = .ok (.dconst 0, 1) := by decide +kernel
theorem dX3_tryGrid_75 : decode cX3_tryGrid 75 = .ok (.putfield 22, 3) := by decide +kernel
theorem dX3_tryGrid_78 : decode cX3_tryGrid 78 = .ok (.return_, 1) := by decide +kernel
set_option maxRecDepth 20000 in
theorem ggX3_tryBeside_X3_sumAt : GoodIn wsX3_tryBeside wsX3_sumAt := goodIn_r _ [7, 8, 9, 10, 11, 12, 13, 14, 15, 16, 17, 18, 19, 20, 21, 22, 23, 24, 25, 26, 27, 28, 29, 30, 31, 32, 33, 34, 35, 36, 37, 38, 39, 40, 41, 42, 43, 44, 45, 6, 46, 47, 48, 49, 50, 51, 52, 53, 54, 55, 56, 57, 58, 59, 60, 61, 62, 67, 68, 69, 70, 71, 72, 73, 74, 75, 76, 77, 78, 79] (by decide +kernel) (by decide +kernel)
set_option maxRecDepth 20000 in
theorem gX3_tryBeside_X3_sumAt : GoodIn wsX3_tryBeside (wsV RX3 57 RX3 yX3_sumAt wsX3_sumAt) := goodIn_app (goodIn_of _ (by decide +kernel)) ggX3_tryBeside_X3_sumAt
set_option maxRecDepth 20000 in
theorem ggX3_tryBeside_X3_take : GoodIn wsX3_tryBeside wsX3_take := goodIn_r _ [66, 1, 2, 67, 68, 69, 70, 71, 72, 73] (by decide +kernel) (by decide +kernel)
set_option maxRecDepth 20000 in
theorem gX3_tryBeside_X3_take : GoodIn wsX3_tryBeside (wsV RX3 61 RX3 yX3_take wsX3_take) := goodIn_app (goodIn_of _ (by decide +kernel)) ggX3_tryBeside_X3_take
theorem dX3_tryBeside_0 : decode cX3_tryBeside 0 = .ok (.aload_n 0, 1) := by decide +kernel
theorem dX3_tryBeside_1 : decode cX3_tryBeside 1 = .ok (.getfield 26, 3) := by decide +kernel
theorem dX3_tryBeside_4 : decode cX3_tryBeside 4 = .ok (.iload_n 1, 1) := by decide +kernel
theorem dX3_tryBeside_5 : decode cX3_tryBeside 5 = .ok (.isub, 1) := by decide +kernel
theorem dX3_tryBeside_6 : decode cX3_tryBeside 6 = .ok (.istore_n 3, 1) := by decide +kernel
theorem dX3_tryBeside_7 : decode cX3_tryBeside 7 = .ok (.aload_n 0, 1) := by decide +kernel
theorem dX3_tryBeside_8 : decode cX3_tryBeside 8 = .ok (.getfield 26, 3) := by decide +kernel
theorem dX3_tryBeside_11 : decode cX3_tryBeside 11 = .ok (.iload_n 1, 1) := by decide +kernel
theorem dX3_tryBeside_12 : decode cX3_tryBeside 12 = .ok (.iadd, 1) := by decide +kernel
theorem dX3_tryBeside_13 : decode cX3_tryBeside 13 = .ok (.istore 4, 2) := by decide +kernel
theorem dX3_tryBeside_15 : decode cX3_tryBeside 15 = .ok (.iload_n 3, 1) := by decide +kernel
theorem dX3_tryBeside_16 : decode cX3_tryBeside 16 = .ok (.iload_n 2, 1) := by decide +kernel
theorem dX3_tryBeside_17 : decode cX3_tryBeside 17 = .ok (.ineg, 1) := by decide +kernel
theorem dX3_tryBeside_18 : decode cX3_tryBeside 18 = .ok (.if_icmp .lt 27, 3) := by decide +kernel
theorem dX3_tryBeside_21 : decode cX3_tryBeside 21 = .ok (.aload_n 0, 1) := by decide +kernel
theorem dX3_tryBeside_22 : decode cX3_tryBeside 22 = .ok (.iload_n 3, 1) := by decide +kernel
theorem dX3_tryBeside_23 : decode cX3_tryBeside 23 = .ok (.invokevirtual 57, 3) := by decide +kernel
theorem dX3_tryBeside_26 : decode cX3_tryBeside 26 = .ok (.dstore 5, 2) := by decide +kernel
theorem dX3_tryBeside_28 : decode cX3_tryBeside 28 = .ok (.dload 5, 2) := by decide +kernel
theorem dX3_tryBeside_30 : decode cX3_tryBeside 30 = .ok (.aload_n 0, 1) := by decide +kernel
theorem dX3_tryBeside_31 : decode cX3_tryBeside 31 = .ok (.getfield 30, 3) := by decide +kernel
theorem dX3_tryBeside_34 : decode cX3_tryBeside 34 = .ok (.dcmp .l, 1) := by decide +kernel
theorem dX3_tryBeside_35 : decode cX3_tryBeside 35 = .ok (.ifCond .lt 10, 3) := by decide +kernel
theorem dX3_tryBeside_38 : decode cX3_tryBeside 38 = .ok (.aload_n 0, 1) := by decide +kernel
theorem dX3_tryBeside_39 : decode cX3_tryBeside 39 = .ok (.iload_n 3, 1) := by decide +kernel
theorem dX3_tryBeside_40 : decode cX3_tryBeside 40 = .ok (.dload 5, 2) := by decide +kernel
theorem dX3_tryBeside_42 : decode cX3_tryBeside 42 = .ok (.invokevirtual 61, 3) := by decide +kernel
theorem dX3_tryBeside_45 : decode cX3_tryBeside 45 = .ok (.iload 4, 2) := by decide +kernel
theorem dX3_tryBeside_47 : decode cX3_tryBeside 47 = .ok (.iload_n 2, 1) := by decide +kernel
theorem dX3_tryBeside_48 : decode cX3_tryBeside 48 = .ok (.if_icmp .gt 29, 3) := by decide +kernel
theorem dX3_tryBeside_51 : decode cX3_tryBeside 51 = .ok (.aload_n 0, 1) := by decide +kernel
theorem dX3_tryBeside_52 : decode cX3_tryBeside 52 = .ok (.iload 4, 2) := by decide +kernel
theorem dX3_tryBeside_54 : decode cX3_tryBeside 54 = .ok (.invokevirtual 57, 3) := by decide +kernel
theorem dX3_tryBeside_57 : decode cX3_tryBeside 57 = .ok (.dstore 5, 2) := by decide +kernel
theorem dX3_tryBeside_59 : decode cX3_tryBeside 59 = .ok (.dload 5, 2) := by decide +kernel
theorem dX3_tryBeside_61 : decode cX3_tryBeside 61 = .ok (.aload_n 0, 1) := by decide +kernel
theorem dX3_tryBeside_62 : decode cX3_tryBeside 62 = .ok (.getfield 30, 3) := by decide +kernel
theorem dX3_tryBeside_65 : decode cX3_tryBeside 65 = .ok (.dcmp .l, 1) := by decide +kernel
theorem dX3_tryBeside_66 : decode cX3_tryBeside 66 = .ok (.ifCond .le 11, 3) := by decide +kernel
theorem dX3_tryBeside_69 : decode cX3_tryBeside 69 = .ok (.aload_n 0, 1) := by decide +kernel
theorem dX3_tryBeside_70 : decode cX3_tryBeside 70 = .ok (.iload 4, 2) := by decide +kernel
theorem dX3_tryBeside_72 : decode cX3_tryBeside 72 = .ok (.dload 5, 2) := by decide +kernel
theorem dX3_tryBeside_74 : decode cX3_tryBeside 74 = .ok (.invokevirtual 61, 3) := by decide +kernel
theorem dX3_tryBeside_77 : decode cX3_tryBeside 77 = .ok (.return_, 1) := by decide +kernel
theorem dX3_take_0 : decode cX3_take 0 = .ok (.aload_n 0, 1) := by decide +kernel
theorem dX3_take_1 : decode cX3_take 1 = .ok (.iload_n 1, 1) := by decide +kernel
theorem dX3_take_2 : decode cX3_take 2 = .ok (.putfield 26, 3) := by decide +kernel
theorem dX3_take_5 : decode cX3_take 5 = .ok (.aload_n 0, 1) := by decide +kernel
theorem dX3_take_6 : decode cX3_take 6 = .ok (.dload_n 2, 1) := by decide +kernel
theorem dX3_take_7 : decode cX3_take 7 = .ok (.putfield 30, 3) := by decide +kernel
theorem dX3_take_10 : decode cX3_take 10 = .ok (.return_, 1) := by decide +kernel
set_option maxRecDepth 20000 in
theorem ggX3_sumAt_X0_runEnds : GoodIn wsX3_sumAt wsX0_runEnds := goodIn_r _ [6, 7, 8, 9, 10, 5, 11, 12, 13, 14, 15, 16, 17, 18, 19, 20, 21, 22, 23, 64, 65, 66, 67, 68, 69] (by decide +kernel) (by decide +kernel)
set_option maxRecDepth 20000 in
theorem gX3_sumAt_X0_runEnds : GoodIn wsX3_sumAt (wsV RX3 65 RX0 yX0_runEnds wsX0_runEnds) := goodIn_app (goodIn_of _ (by decide +kernel)) ggX3_sumAt_X0_runEnds
set_option maxRecDepth 20000 in
theorem ggX3_sumAt_X1_slope : GoodIn wsX3_sumAt wsX1_slope := goodIn_r _ [27, 28, 29, 30, 31, 32, 26, 33, 34, 35] (by decide +kernel) (by decide +kernel)
set_option maxRecDepth 20000 in
theorem gX3_sumAt_X1_slope : GoodIn wsX3_sumAt (va_wsS RX3 68 yX1_slope wsX1_slope) := goodIn_app (goodIn_of _ (by decide +kernel)) ggX3_sumAt_X1_slope
set_option maxRecDepth 20000 in
theorem ggX3_sumAt_X3_countEnds : GoodIn wsX3_sumAt wsX3_countEnds := goodIn_r _ [40, 41, 1, 42, 43, 44, 9, 10, 5, 11, 12, 13, 14, 15, 16, 45, 46, 26, 47, 48, 49, 50, 51, 39, 52, 57, 58, 59, 60, 61, 62, 63, 64, 65, 66, 67, 68, 69] (by decide +kernel) (by decide +kernel)
set_option maxRecDepth 20000 in
theorem gX3_sumAt_X3_countEnds : GoodIn wsX3_sumAt (wsV RX3 74 RX3 yX3_countEnds wsX3_countEnds) := goodIn_app (goodIn_of _ (by decide +kernel)) ggX3_sumAt_X3_countEnds
set_option maxRecDepth 20000 in
theorem ggX3_sumAt_X3_squaresOfCounts : GoodIn wsX3_sumAt wsX3_squaresOfCounts := goodIn_r _ [56, 41, 57, 58, 59, 60, 61, 62, 63] (by decide +kernel) (by decide +kernel)
set_option maxRecDepth 20000 in
theorem gX3_sumAt_X3_squaresOfCounts : GoodIn wsX3_sumAt (wsV RX3 78 RX3 yX3_squaresOfCounts wsX3_squaresOfCounts) := goodIn_app (goodIn_of _ (by decide +kernel)) ggX3_sumAt_X3_squaresOfCounts
theorem dX3_sumAt_0 : decode cX3_sumAt 0 = .ok (.aload_n 0, 1) := by decide +kernel
theorem dX3_sumAt_1 : decode cX3_sumAt 1 = .ok (.getfield 33, 3) := by decide +kernel
theorem dX3_sumAt_4 : decode cX3_sumAt 4 = .ok (.invokevirtual 65, 3) := by decide +kernel
theorem dX3_sumAt_7 : decode cX3_sumAt 7 = .ok (.istore_n 2, 1) := by decide +kernel
theorem dX3_sumAt_8 : decode cX3_sumAt 8 = .ok (.iload_n 2, 1) := by decide +kernel
theorem dX3_sumAt_9 : decode cX3_sumAt 9 = .ok (.ifCond .ne 5, 3) := by decide +kernel
theorem dX3_sumAt_12 : decode cX3_sumAt 12 = .ok (.dconst 0, 1) := by decide +kernel
theorem dX3_sumAt_13 : decode cX3_sumAt 13 = .ok (.dreturn, 1) := by decide +kernel
theorem dX3_sumAt_14 : decode cX3_sumAt 14 = .ok (.aload_n 0, 1) := by decide +kernel
theorem dX3_sumAt_15 : decode cX3_sumAt 15 = .ok (.iload_n 1, 1) := by decide +kernel
theorem dX3_sumAt_16 : decode cX3_sumAt 16 = .ok (.i2d, 1) := by decide +kernel
theorem dX3_sumAt_17 : decode cX3_sumAt 17 = .ok (.invokestatic 68, 3) := by decide +kernel
theorem dX3_sumAt_20 : decode cX3_sumAt 20 = .ok (.invokevirtual 74, 3) := by decide +kernel
theorem dX3_sumAt_23 : decode cX3_sumAt 23 = .ok (.aload_n 0, 1) := by decide +kernel
theorem dX3_sumAt_24 : decode cX3_sumAt 24 = .ok (.invokevirtual 78, 3) := by decide +kernel
theorem dX3_sumAt_27 : decode cX3_sumAt 27 = .ok (.i2d, 1) := by decide +kernel
theorem dX3_sumAt_28 : decode cX3_sumAt 28 = .ok (.iload_n 2, 1) := by decide +kernel
theorem dX3_sumAt_29 : decode cX3_sumAt 29 = .ok (.i2d, 1) := by decide +kernel
theorem dX3_sumAt_30 : decode cX3_sumAt 30 = .ok (.ddiv, 1) := by decide +kernel
theorem dX3_sumAt_31 : decode cX3_sumAt 31 = .ok (.dreturn, 1) := by decide +kernel
set_option maxRecDepth 20000 in
theorem ggX3_countEnds_X0_runEndBits : GoodIn wsX3_countEnds wsX0_runEndBits := goodIn_r _ [9, 10, 11, 12, 8, 13, 14, 32, 33, 34, 35, 36, 37] (by decide +kernel) (by decide +kernel)
set_option maxRecDepth 20000 in
theorem gX3_countEnds_X0_runEndBits : GoodIn wsX3_countEnds (wsV RX3 84 RX0 yX0_runEndBits wsX0_runEndBits) := goodIn_app (goodIn_of _ (by decide +kernel)) ggX3_countEnds_X0_runEndBits
set_option maxRecDepth 20000 in
theorem ggX3_countEnds_X1_whole : GoodIn wsX3_countEnds wsX1_whole := goodIn_r _ [18, 19] (by decide +kernel) (by decide +kernel)
set_option maxRecDepth 20000 in
theorem gX3_countEnds_X1_whole : GoodIn wsX3_countEnds (va_wsS RX3 91 yX1_whole wsX1_whole) := goodIn_app (goodIn_of _ (by decide +kernel)) ggX3_countEnds_X1_whole
set_option maxRecDepth 20000 in
theorem ggX3_countEnds_X3_countOnLine : GoodIn wsX3_countEnds wsX3_countOnLine := goodIn_r _ [24, 1, 25, 26, 27, 28, 29, 30, 31] (by decide +kernel) (by decide +kernel)
set_option maxRecDepth 20000 in
theorem gX3_countEnds_X3_countOnLine : GoodIn wsX3_countEnds (wsV RX3 95 RX3 yX3_countOnLine wsX3_countOnLine) := goodIn_app (goodIn_of _ (by decide +kernel)) ggX3_countEnds_X3_countOnLine
theorem dX3_countEnds_0 : decode cX3_countEnds 0 = .ok (.iconst 0, 1) := by decide +kernel
theorem dX3_countEnds_1 : decode cX3_countEnds 1 = .ok (.istore_n 3, 1) := by decide +kernel
theorem dX3_countEnds_2 : decode cX3_countEnds 2 = .ok (.iload_n 3, 1) := by decide +kernel
theorem dX3_countEnds_3 : decode cX3_countEnds 3 = .ok (.aload_n 0, 1) := by decide +kernel
theorem dX3_countEnds_4 : decode cX3_countEnds 4 = .ok (.getfield 11, 3) := by decide +kernel
theorem dX3_countEnds_7 : decode cX3_countEnds 7 = .ok (.arraylength, 1) := by decide +kernel
theorem dX3_countEnds_8 : decode cX3_countEnds 8 = .ok (.if_icmp .ge 16, 3) := by decide +kernel
theorem dX3_countEnds_11 : decode cX3_countEnds 11 = .ok (.aload_n 0, 1) := by decide +kernel
theorem dX3_countEnds_12 : decode cX3_countEnds 12 = .ok (.getfield 11, 3) := by decide +kernel
theorem dX3_countEnds_15 : decode cX3_countEnds 15 = .ok (.iload_n 3, 1) := by decide +kernel
theorem dX3_countEnds_16 : decode cX3_countEnds 16 = .ok (.iconst 0, 1) := by decide +kernel
theorem dX3_countEnds_17 : decode cX3_countEnds 17 = .ok (.iastore, 1) := by decide +kernel
theorem dX3_countEnds_18 : decode cX3_countEnds 18 = .ok (.iinc 3 1, 3) := by decide +kernel
theorem dX3_countEnds_21 : decode cX3_countEnds 21 = .ok (.goto (-19), 3) := by decide +kernel
theorem dX3_countEnds_24 : decode cX3_countEnds 24 = .ok (.iconst 0, 1) := by decide +kernel
theorem dX3_countEnds_25 : decode cX3_countEnds 25 = .ok (.istore_n 3, 1) := by decide +kernel
theorem dX3_countEnds_26 : decode cX3_countEnds 26 = .ok (.iload_n 3, 1) := by decide +kernel
theorem dX3_countEnds_27 : decode cX3_countEnds 27 = .ok (.aload_n 0, 1) := by decide +kernel
theorem dX3_countEnds_28 : decode cX3_countEnds 28 = .ok (.getfield 33, 3) := by decide +kernel
theorem dX3_countEnds_31 : decode cX3_countEnds 31 = .ok (.getfield 81, 3) := by decide +kernel
theorem dX3_countEnds_34 : decode cX3_countEnds 34 = .ok (.if_icmp .ge 73, 3) := by decide +kernel
theorem dX3_countEnds_37 : decode cX3_countEnds 37 = .ok (.aload_n 0, 1) := by decide +kernel
theorem dX3_countEnds_38 : decode cX3_countEnds 38 = .ok (.getfield 33, 3) := by decide +kernel
theorem dX3_countEnds_41 : decode cX3_countEnds 41 = .ok (.iload_n 3, 1) := by decide +kernel
theorem dX3_countEnds_42 : decode cX3_countEnds 42 = .ok (.invokevirtual 84, 3) := by decide +kernel
theorem dX3_countEnds_45 : decode cX3_countEnds 45 = .ok (.istore 4, 2) := by decide +kernel
theorem dX3_countEnds_47 : decode cX3_countEnds 47 = .ok (.iconst 0, 1) := by decide +kernel
theorem dX3_countEnds_48 : decode cX3_countEnds 48 = .ok (.istore 5, 2) := by decide +kernel
theorem dX3_countEnds_50 : decode cX3_countEnds 50 = .ok (.iload 5, 2) := by decide +kernel
theorem dX3_countEnds_52 : decode cX3_countEnds 52 = .ok (.aload_n 0, 1) := by decide +kernel
theorem dX3_countEnds_53 : decode cX3_countEnds 53 = .ok (.getfield 33, 3) := by decide +kernel
theorem dX3_countEnds_56 : decode cX3_countEnds 56 = .ok (.getfield 88, 3) := by decide +kernel
theorem dX3_countEnds_59 : decode cX3_countEnds 59 = .ok (.if_icmp .ge 42, 3) := by decide +kernel
theorem dX3_countEnds_62 : decode cX3_countEnds 62 = .ok (.iload 4, 2) := by decide +kernel
theorem dX3_countEnds_64 : decode cX3_countEnds 64 = .ok (.iload 5, 2) := by decide +kernel
theorem dX3_countEnds_66 : decode cX3_countEnds 66 = .ok (.iushr, 1) := by decide +kernel
theorem dX3_countEnds_67 : decode cX3_countEnds 67 = .ok (.ifCond .eq 34, 3) := by decide +kernel
theorem dX3_countEnds_70 : decode cX3_countEnds 70 = .ok (.iload 4, 2) := by decide +kernel
theorem dX3_countEnds_72 : decode cX3_countEnds 72 = .ok (.iload 5, 2) := by decide +kernel
theorem dX3_countEnds_74 : decode cX3_countEnds 74 = .ok (.iushr, 1) := by decide +kernel
theorem dX3_countEnds_75 : decode cX3_countEnds 75 = .ok (.iconst 1, 1) := by decide +kernel
theorem dX3_countEnds_76 : decode cX3_countEnds 76 = .ok (.iand, 1) := by decide +kernel
theorem dX3_countEnds_77 : decode cX3_countEnds 77 = .ok (.ifCond .eq 18, 3) := by decide +kernel
theorem dX3_countEnds_80 : decode cX3_countEnds 80 = .ok (.aload_n 0, 1) := by decide +kernel
theorem dX3_countEnds_81 : decode cX3_countEnds 81 = .ok (.iload_n 3, 1) := by decide +kernel
theorem dX3_countEnds_82 : decode cX3_countEnds 82 = .ok (.i2d, 1) := by decide +kernel
theorem dX3_countEnds_83 : decode cX3_countEnds 83 = .ok (.iload 5, 2) := by decide +kernel
theorem dX3_countEnds_85 : decode cX3_countEnds 85 = .ok (.i2d, 1) := by decide +kernel
theorem dX3_countEnds_86 : decode cX3_countEnds 86 = .ok (.dload_n 1, 1) := by decide +kernel
theorem dX3_countEnds_87 : decode cX3_countEnds 87 = .ok (.dmul, 1) := by decide +kernel
theorem dX3_countEnds_88 : decode cX3_countEnds 88 = .ok (.dsub, 1) := by decide +kernel
theorem dX3_countEnds_89 : decode cX3_countEnds 89 = .ok (.invokestatic 91, 3) := by decide +kernel
theorem dX3_countEnds_92 : decode cX3_countEnds 92 = .ok (.invokevirtual 95, 3) := by decide +kernel
theorem dX3_countEnds_95 : decode cX3_countEnds 95 = .ok (.iinc 5 1, 3) := by decide +kernel
theorem dX3_countEnds_98 : decode cX3_countEnds 98 = .ok (.goto (-48), 3) := by decide +kernel
theorem dX3_countEnds_101 : decode cX3_countEnds 101 = .ok (.iinc 3 1, 3) := by decide +kernel
theorem dX3_countEnds_104 : decode cX3_countEnds 104 = .ok (.goto (-78), 3) := by decide +kernel
theorem dX3_countEnds_107 : decode cX3_countEnds 107 = .ok (.return_, 1) := by decide +kernel
theorem dX3_countOnLine_0 : decode cX3_countOnLine 0 = .ok (.iload_n 1, 1) := by decide +kernel
theorem dX3_countOnLine_1 : decode cX3_countOnLine 1 = .ok (.bipush 12, 2) := by decide +kernel
theorem dX3_countOnLine_3 : decode cX3_countOnLine 3 = .ok (.iadd, 1) := by decide +kernel
theorem dX3_countOnLine_4 : decode cX3_countOnLine 4 = .ok (.istore_n 2, 1) := by decide +kernel
theorem dX3_countOnLine_5 : decode cX3_countOnLine 5 = .ok (.iload_n 2, 1) := by decide +kernel
theorem dX3_countOnLine_6 : decode cX3_countOnLine 6 = .ok (.ifCond .lt 22, 3) := by decide +kernel
theorem dX3_countOnLine_9 : decode cX3_countOnLine 9 = .ok (.iload_n 2, 1) := by decide +kernel
theorem dX3_countOnLine_10 : decode cX3_countOnLine 10 = .ok (.aload_n 0, 1) := by decide +kernel
theorem dX3_countOnLine_11 : decode cX3_countOnLine 11 = .ok (.getfield 11, 3) := by decide +kernel
theorem dX3_countOnLine_14 : decode cX3_countOnLine 14 = .ok (.arraylength, 1) := by decide +kernel
theorem dX3_countOnLine_15 : decode cX3_countOnLine 15 = .ok (.if_icmp .ge 13, 3) := by decide +kernel
theorem dX3_countOnLine_18 : decode cX3_countOnLine 18 = .ok (.aload_n 0, 1) := by decide +kernel
theorem dX3_countOnLine_19 : decode cX3_countOnLine 19 = .ok (.getfield 11, 3) := by decide +kernel
theorem dX3_countOnLine_22 : decode cX3_countOnLine 22 = .ok (.iload_n 2, 1) := by decide +kernel
theorem dX3_countOnLine_23 : decode cX3_countOnLine 23 = .ok (.dup2, 1) := by decide +kernel
theorem dX3_countOnLine_24 : decode cX3_countOnLine 24 = .ok (.iaload, 1) := by decide +kernel
theorem dX3_countOnLine_25 : decode cX3_countOnLine 25 = .ok (.iconst 1, 1) := by decide +kernel
theorem dX3_countOnLine_26 : decode cX3_countOnLine 26 = .ok (.iadd, 1) := by decide +kernel
theorem dX3_countOnLine_27 : decode cX3_countOnLine 27 = .ok (.iastore, 1) := by decide +kernel
theorem dX3_countOnLine_28 : decode cX3_countOnLine 28 = .ok (.return_, 1) := by decide +kernel
theorem dX3_squaresOfCounts_0 : decode cX3_squaresOfCounts 0 = .ok (.iconst 0, 1) := by decide +kernel
theorem dX3_squaresOfCounts_1 : decode cX3_squaresOfCounts 1 = .ok (.istore_n 1, 1) := by decide +kernel
theorem dX3_squaresOfCounts_2 : decode cX3_squaresOfCounts 2 = .ok (.iconst 0, 1) := by decide +kernel
theorem dX3_squaresOfCounts_3 : decode cX3_squaresOfCounts 3 = .ok (.istore_n 2, 1) := by decide +kernel
theorem dX3_squaresOfCounts_4 : decode cX3_squaresOfCounts 4 = .ok (.iload_n 2, 1) := by decide +kernel
theorem dX3_squaresOfCounts_5 : decode cX3_squaresOfCounts 5 = .ok (.aload_n 0, 1) := by decide +kernel
theorem dX3_squaresOfCounts_6 : decode cX3_squaresOfCounts 6 = .ok (.getfield 11, 3) := by decide +kernel
theorem dX3_squaresOfCounts_9 : decode cX3_squaresOfCounts 9 = .ok (.arraylength, 1) := by decide +kernel
theorem dX3_squaresOfCounts_10 : decode cX3_squaresOfCounts 10 = .ok (.if_icmp .ge 25, 3) := by decide +kernel
theorem dX3_squaresOfCounts_13 : decode cX3_squaresOfCounts 13 = .ok (.iload_n 1, 1) := by decide +kernel
theorem dX3_squaresOfCounts_14 : decode cX3_squaresOfCounts 14 = .ok (.aload_n 0, 1) := by decide +kernel
theorem dX3_squaresOfCounts_15 : decode cX3_squaresOfCounts 15 = .ok (.getfield 11, 3) := by decide +kernel
theorem dX3_squaresOfCounts_18 : decode cX3_squaresOfCounts 18 = .ok (.iload_n 2, 1) := by decide +kernel
theorem dX3_squaresOfCounts_19 : decode cX3_squaresOfCounts 19 = .ok (.iaload, 1) := by decide +kernel
theorem dX3_squaresOfCounts_20 : decode cX3_squaresOfCounts 20 = .ok (.aload_n 0, 1) := by decide +kernel
theorem dX3_squaresOfCounts_21 : decode cX3_squaresOfCounts 21 = .ok (.getfield 11, 3) := by decide +kernel
theorem dX3_squaresOfCounts_24 : decode cX3_squaresOfCounts 24 = .ok (.iload_n 2, 1) := by decide +kernel
theorem dX3_squaresOfCounts_25 : decode cX3_squaresOfCounts 25 = .ok (.iaload, 1) := by decide +kernel
theorem dX3_squaresOfCounts_26 : decode cX3_squaresOfCounts 26 = .ok (.imul, 1) := by decide +kernel
theorem dX3_squaresOfCounts_27 : decode cX3_squaresOfCounts 27 = .ok (.iadd, 1) := by decide +kernel
theorem dX3_squaresOfCounts_28 : decode cX3_squaresOfCounts 28 = .ok (.istore_n 1, 1) := by decide +kernel
theorem dX3_squaresOfCounts_29 : decode cX3_squaresOfCounts 29 = .ok (.iinc 2 1, 3) := by decide +kernel
theorem dX3_squaresOfCounts_32 : decode cX3_squaresOfCounts 32 = .ok (.goto (-28), 3) := by decide +kernel
theorem dX3_squaresOfCounts_35 : decode cX3_squaresOfCounts 35 = .ok (.iload_n 1, 1) := by decide +kernel
theorem dX3_squaresOfCounts_36 : decode cX3_squaresOfCounts 36 = .ok (.ireturn, 1) := by decide +kernel
set_option maxRecDepth 20000 in
theorem ggX4_init_X4_open : GoodIn wsX4_init wsX4_open := goodIn_r _ [9, 10, 11, 4, 12, 13, 14, 15, 16, 17, 18, 19, 20, 21, 22, 23, 24, 25, 26] (by decide +kernel) (by decide +kernel)
set_option maxRecDepth 20000 in
theorem gX4_init_X4_open : GoodIn wsX4_init (wsV RX4 15 RX4 yX4_open wsX4_open) := goodIn_app (goodIn_of _ (by decide +kernel)) ggX4_init_X4_open
theorem dX4_init_0 : decode cX4_init 0 = .ok (.aload_n 0, 1) := by decide +kernel
theorem dX4_init_1 : decode cX4_init 1 = .ok (.invokespecial 3, 3) := by decide +kernel
theorem dX4_init_4 : decode cX4_init 4 = .ok (.aload_n 0, 1) := by decide +kernel
theorem dX4_init_5 : decode cX4_init 5 = .ok (.aload_n 1, 1) := by decide +kernel
theorem dX4_init_6 : decode cX4_init 6 = .ok (.putfield 9, 3) := by decide +kernel
theorem dX4_init_9 : decode cX4_init 9 = .ok (.aload_n 0, 1) := by decide +kernel
theorem dX4_init_10 : decode cX4_init 10 = .ok (.invokevirtual 15, 3) := by decide +kernel
theorem dX4_init_13 : decode cX4_init 13 = .ok (.return_, 1) := by decide +kernel
theorem dX4_open_0 : decode cX4_open 0 = .ok (.aload_n 0, 1) := by decide +kernel
theorem dX4_open_1 : decode cX4_open 1 = .ok (.iconst 0, 1) := by decide +kernel
theorem dX4_open_2 : decode cX4_open 2 = .ok (.putfield 18, 3) := by decide +kernel
theorem dX4_open_5 : decode cX4_open 5 = .ok (.aload_n 0, 1) := by decide +kernel
theorem dX4_open_6 : decode cX4_open 6 = .ok (.iconst 0, 1) := by decide +kernel
theorem dX4_open_7 : decode cX4_open 7 = .ok (.putfield 22, 3) := by decide +kernel
theorem dX4_open_10 : decode cX4_open 10 = .ok (.aload_n 0, 1) := by decide +kernel
theorem dX4_open_11 : decode cX4_open 11 = .ok (.aload_n 0, 1) := by decide +kernel
theorem dX4_open_12 : decode cX4_open 12 = .ok (.getfield 9, 3) := by decide +kernel
theorem dX4_open_15 : decode cX4_open 15 = .ok (.getfield 25, 3) := by decide +kernel
theorem dX4_open_18 : decode cX4_open 18 = .ok (.putfield 30, 3) := by decide +kernel
theorem dX4_open_21 : decode cX4_open 21 = .ok (.aload_n 0, 1) := by decide +kernel
theorem dX4_open_22 : decode cX4_open 22 = .ok (.aload_n 0, 1) := by decide +kernel
theorem dX4_open_23 : decode cX4_open 23 = .ok (.getfield 9, 3) := by decide +kernel
theorem dX4_open_26 : decode cX4_open 26 = .ok (.getfield 33, 3) := by decide +kernel
theorem dX4_open_29 : decode cX4_open 29 = .ok (.putfield 36, 3) := by decide +kernel
theorem dX4_open_32 : decode cX4_open 32 = .ok (.return_, 1) := by decide +kernel
theorem dX4_end_0 : decode cX4_end 0 = .ok (.iload_n 1, 1) := by decide +kernel
theorem dX4_end_1 : decode cX4_end 1 = .ok (.tableswitch 42 0 2 #[27, 32, 37], 27) := by decide +kernel
theorem dX4_end_28 : decode cX4_end 28 = .ok (.aload_n 0, 1) := by decide +kernel
theorem dX4_end_29 : decode cX4_end 29 = .ok (.getfield 18, 3) := by decide +kernel
theorem dX4_end_32 : decode cX4_end 32 = .ok (.ireturn, 1) := by decide +kernel
theorem dX4_end_33 : decode cX4_end 33 = .ok (.aload_n 0, 1) := by decide +kernel
theorem dX4_end_34 : decode cX4_end 34 = .ok (.getfield 22, 3) := by decide +kernel
theorem dX4_end_37 : decode cX4_end 37 = .ok (.ireturn, 1) := by decide +kernel
theorem dX4_end_38 : decode cX4_end 38 = .ok (.aload_n 0, 1) := by decide +kernel
theorem dX4_end_39 : decode cX4_end 39 = .ok (.getfield 30, 3) := by decide +kernel
theorem dX4_end_42 : decode cX4_end 42 = .ok (.ireturn, 1) := by decide +kernel
theorem dX4_end_43 : decode cX4_end 43 = .ok (.aload_n 0, 1) := by decide +kernel
theorem dX4_end_44 : decode cX4_end 44 = .ok (.getfield 36, 3) := by decide +kernel
theorem dX4_end_47 : decode cX4_end 47 = .ok (.ireturn, 1) := by decide +kernel
set_option maxRecDepth 20000 in
theorem ggX4_cropAt_X0_samplesOn : GoodIn wsX4_cropAt wsX0_samplesOn := goodIn_r _ [10, 11, 12, 13, 14, 9, 15, 16, 17, 18, 19, 20, 21, 22, 23, 69, 70, 71, 72, 73, 74] (by decide +kernel) (by decide +kernel)
set_option maxRecDepth 20000 in
theorem gX4_cropAt_X0_samplesOn : GoodIn wsX4_cropAt (wsV RX4 39 RX0 yX0_samplesOn wsX0_samplesOn) := goodIn_app (goodIn_of _ (by decide +kernel)) ggX4_cropAt_X0_samplesOn
set_option maxRecDepth 20000 in
theorem ggX4_cropAt_X4_end : GoodIn wsX4_cropAt wsX4_end := goodIn_r _ [28, 29, 30, 31, 32, 64, 65, 66, 67, 68] (by decide +kernel) (by decide +kernel)
set_option maxRecDepth 20000 in
theorem gX4_cropAt_X4_end : GoodIn wsX4_cropAt (wsV RX4 43 RX4 yX4_end wsX4_end) := goodIn_app (goodIn_of _ (by decide +kernel)) ggX4_cropAt_X4_end
set_option maxRecDepth 20000 in
theorem ggX4_cropAt_X4_cropLeft : GoodIn wsX4_cropAt wsX4_cropLeft := goodIn_r _ [36, 29, 31, 37, 38, 39, 27, 40, 1, 41, 42, 43, 44, 9, 45, 46, 47, 48, 49, 50, 11, 12, 13, 14, 15, 16, 64, 65, 66, 67, 68, 69, 70, 71, 72, 73, 74] (by decide +kernel) (by decide +kernel)
set_option maxRecDepth 20000 in
theorem gX4_cropAt_X4_cropLeft : GoodIn wsX4_cropAt (wsV RX4 47 RX4 yX4_cropLeft wsX4_cropLeft) := goodIn_app (goodIn_of _ (by decide +kernel)) ggX4_cropAt_X4_cropLeft
set_option maxRecDepth 20000 in
theorem ggX4_cropAt_X4_cropUpper : GoodIn wsX4_cropAt wsX4_cropUpper := goodIn_r _ [54, 30, 32, 1, 55, 13, 14, 9, 15, 16, 64, 65, 66, 67, 68, 69, 70, 71, 72, 73, 74] (by decide +kernel) (by decide +kernel)
set_option maxRecDepth 20000 in
theorem gX4_cropAt_X4_cropUpper : GoodIn wsX4_cropAt (wsV RX4 50 RX4 yX4_cropUpper wsX4_cropUpper) := goodIn_app (goodIn_of _ (by decide +kernel)) ggX4_cropAt_X4_cropUpper
set_option maxRecDepth 20000 in
theorem ggX4_cropAt_X4_cropRight : GoodIn wsX4_cropAt wsX4_cropRight := goodIn_r _ [59, 31, 29, 37, 38, 39, 27, 40, 1, 41, 42, 43, 44, 9, 45, 46, 47, 48, 49, 50, 11, 12, 13, 14, 15, 16, 64, 65, 66, 67, 68, 69, 70, 71, 72, 73, 74] (by decide +kernel) (by decide +kernel)
set_option maxRecDepth 20000 in
theorem gX4_cropAt_X4_cropRight : GoodIn wsX4_cropAt (wsV RX4 53 RX4 yX4_cropRight wsX4_cropRight) := goodIn_app (goodIn_of _ (by decide +kernel)) ggX4_cropAt_X4_cropRight
set_option maxRecDepth 20000 in
theorem ggX4_cropAt_X4_cropLower : GoodIn wsX4_cropAt wsX4_cropLower := goodIn_r _ [63, 32, 30, 1, 55, 13, 14, 9, 15, 16, 64, 65, 66, 67, 68, 69, 70, 71, 72, 73, 74] (by decide +kernel) (by decide +kernel)
set_option maxRecDepth 20000 in
theorem gX4_cropAt_X4_cropLower : GoodIn wsX4_cropAt (wsV RX4 56 RX4 yX4_cropLower wsX4_cropLower) := goodIn_app (goodIn_of _ (by decide +kernel)) ggX4_cropAt_X4_cropLower
theorem dX4_cropAt_0 : decode cX4_cropAt 0 = .ok (.aload_n 0, 1) := by decide +kernel
theorem dX4_cropAt_1 : decode cX4_cropAt 1 = .ok (.getfield 9, 3) := by decide +kernel
theorem dX4_cropAt_4 : decode cX4_cropAt 4 = .ok (.invokevirtual 39, 3) := by decide +kernel
theorem dX4_cropAt_7 : decode cX4_cropAt 7 = .ok (.ifCond .ne 5, 3) := by decide +kernel
theorem dX4_cropAt_10 : decode cX4_cropAt 10 = .ok (.iconst 0, 1) := by decide +kernel
theorem dX4_cropAt_11 : decode cX4_cropAt 11 = .ok (.ireturn, 1) := by decide +kernel
theorem dX4_cropAt_12 : decode cX4_cropAt 12 = .ok (.aload_n 0, 1) := by decide +kernel
theorem dX4_cropAt_13 : decode cX4_cropAt 13 = .ok (.iload_n 1, 1) := by decide +kernel
theorem dX4_cropAt_14 : decode cX4_cropAt 14 = .ok (.invokevirtual 43, 3) := by decide +kernel
theorem dX4_cropAt_17 : decode cX4_cropAt 17 = .ok (.istore_n 2, 1) := by decide +kernel
theorem dX4_cropAt_18 : decode cX4_cropAt 18 = .ok (.iload_n 1, 1) := by decide +kernel
theorem dX4_cropAt_19 : decode cX4_cropAt 19 = .ok (.tableswitch 46 0 2 #[25, 32, 39], 25) := by decide +kernel
theorem dX4_cropAt_44 : decode cX4_cropAt 44 = .ok (.aload_n 0, 1) := by decide +kernel
theorem dX4_cropAt_45 : decode cX4_cropAt 45 = .ok (.invokevirtual 47, 3) := by decide +kernel
theorem dX4_cropAt_48 : decode cX4_cropAt 48 = .ok (.goto 21, 3) := by decide +kernel
theorem dX4_cropAt_51 : decode cX4_cropAt 51 = .ok (.aload_n 0, 1) := by decide +kernel
theorem dX4_cropAt_52 : decode cX4_cropAt 52 = .ok (.invokevirtual 50, 3) := by decide +kernel
theorem dX4_cropAt_55 : decode cX4_cropAt 55 = .ok (.goto 14, 3) := by decide +kernel
theorem dX4_cropAt_58 : decode cX4_cropAt 58 = .ok (.aload_n 0, 1) := by decide +kernel
theorem dX4_cropAt_59 : decode cX4_cropAt 59 = .ok (.invokevirtual 53, 3) := by decide +kernel
theorem dX4_cropAt_62 : decode cX4_cropAt 62 = .ok (.goto 7, 3) := by decide +kernel
theorem dX4_cropAt_65 : decode cX4_cropAt 65 = .ok (.aload_n 0, 1) := by decide +kernel
theorem dX4_cropAt_66 : decode cX4_cropAt 66 = .ok (.invokevirtual 56, 3) := by decide +kernel
theorem dX4_cropAt_69 : decode cX4_cropAt 69 = .ok (.aload_n 0, 1) := by decide +kernel
theorem dX4_cropAt_70 : decode cX4_cropAt 70 = .ok (.iload_n 1, 1) := by decide +kernel
theorem dX4_cropAt_71 : decode cX4_cropAt 71 = .ok (.invokevirtual 43, 3) := by decide +kernel
theorem dX4_cropAt_74 : decode cX4_cropAt 74 = .ok (.iload_n 2, 1) := by decide +kernel
theorem dX4_cropAt_75 : decode cX4_cropAt 75 = .ok (.isub, 1) := by decide +kernel
theorem dX4_cropAt_76 : decode cX4_cropAt 76 = .ok (.invokestatic 59, 3) := by decide +kernel
theorem dX4_cropAt_79 : decode cX4_cropAt 79 = .ok (.ireturn, 1) := by decide +kernel
set_option maxRecDepth 20000 in
theorem ggX4_cropLeft_X4_columnIsEmpty : GoodIn wsX4_cropLeft wsX4_columnIsEmpty := goodIn_r _ [7, 8, 9, 10, 11, 12, 13, 14, 15, 16, 17, 18, 19, 20, 21, 22, 23, 24, 25, 26, 27, 28, 29, 30, 31, 32, 33, 34, 35, 36] (by decide +kernel) (by decide +kernel)
set_option maxRecDepth 20000 in
theorem gX4_cropLeft_X4_columnIsEmpty : GoodIn wsX4_cropLeft (wsV RX4 64 RX4 yX4_columnIsEmpty wsX4_columnIsEmpty) := goodIn_app (goodIn_of _ (by decide +kernel)) ggX4_cropLeft_X4_columnIsEmpty
theorem dX4_cropLeft_0 : decode cX4_cropLeft 0 = .ok (.aload_n 0, 1) := by decide +kernel
theorem dX4_cropLeft_1 : decode cX4_cropLeft 1 = .ok (.getfield 18, 3) := by decide +kernel
theorem dX4_cropLeft_4 : decode cX4_cropLeft 4 = .ok (.aload_n 0, 1) := by decide +kernel
theorem dX4_cropLeft_5 : decode cX4_cropLeft 5 = .ok (.getfield 30, 3) := by decide +kernel
theorem dX4_cropLeft_8 : decode cX4_cropLeft 8 = .ok (.if_icmp .ge 27, 3) := by decide +kernel
theorem dX4_cropLeft_11 : decode cX4_cropLeft 11 = .ok (.aload_n 0, 1) := by decide +kernel
theorem dX4_cropLeft_12 : decode cX4_cropLeft 12 = .ok (.aload_n 0, 1) := by decide +kernel
theorem dX4_cropLeft_13 : decode cX4_cropLeft 13 = .ok (.getfield 18, 3) := by decide +kernel
theorem dX4_cropLeft_16 : decode cX4_cropLeft 16 = .ok (.invokevirtual 64, 3) := by decide +kernel
theorem dX4_cropLeft_19 : decode cX4_cropLeft 19 = .ok (.ifCond .eq 16, 3) := by decide +kernel
theorem dX4_cropLeft_22 : decode cX4_cropLeft 22 = .ok (.aload_n 0, 1) := by decide +kernel
theorem dX4_cropLeft_23 : decode cX4_cropLeft 23 = .ok (.dup, 1) := by decide +kernel
theorem dX4_cropLeft_24 : decode cX4_cropLeft 24 = .ok (.getfield 18, 3) := by decide +kernel
theorem dX4_cropLeft_27 : decode cX4_cropLeft 27 = .ok (.iconst 1, 1) := by decide +kernel
theorem dX4_cropLeft_28 : decode cX4_cropLeft 28 = .ok (.iadd, 1) := by decide +kernel
theorem dX4_cropLeft_29 : decode cX4_cropLeft 29 = .ok (.putfield 18, 3) := by decide +kernel
theorem dX4_cropLeft_32 : decode cX4_cropLeft 32 = .ok (.goto (-32), 3) := by decide +kernel
theorem dX4_cropLeft_35 : decode cX4_cropLeft 35 = .ok (.return_, 1) := by decide +kernel
set_option maxRecDepth 20000 in
theorem ggX4_cropUpper_X0_rowBits : GoodIn wsX4_cropUpper wsX0_rowBits := goodIn_r _ [8, 9, 15, 16, 17, 18, 19, 20] (by decide +kernel) (by decide +kernel)
set_option maxRecDepth 20000 in
theorem gX4_cropUpper_X0_rowBits : GoodIn wsX4_cropUpper (wsV RX4 68 RX0 yX0_rowBits wsX0_rowBits) := goodIn_app (goodIn_of _ (by decide +kernel)) ggX4_cropUpper_X0_rowBits
theorem dX4_cropUpper_0 : decode cX4_cropUpper 0 = .ok (.aload_n 0, 1) := by decide +kernel
theorem dX4_cropUpper_1 : decode cX4_cropUpper 1 = .ok (.getfield 22, 3) := by decide +kernel
theorem dX4_cropUpper_4 : decode cX4_cropUpper 4 = .ok (.aload_n 0, 1) := by decide +kernel
theorem dX4_cropUpper_5 : decode cX4_cropUpper 5 = .ok (.getfield 36, 3) := by decide +kernel
theorem dX4_cropUpper_8 : decode cX4_cropUpper 8 = .ok (.if_icmp .ge 30, 3) := by decide +kernel
theorem dX4_cropUpper_11 : decode cX4_cropUpper 11 = .ok (.aload_n 0, 1) := by decide +kernel
theorem dX4_cropUpper_12 : decode cX4_cropUpper 12 = .ok (.getfield 9, 3) := by decide +kernel
theorem dX4_cropUpper_15 : decode cX4_cropUpper 15 = .ok (.aload_n 0, 1) := by decide +kernel
theorem dX4_cropUpper_16 : decode cX4_cropUpper 16 = .ok (.getfield 22, 3) := by decide +kernel
theorem dX4_cropUpper_19 : decode cX4_cropUpper 19 = .ok (.invokevirtual 68, 3) := by decide +kernel
theorem dX4_cropUpper_22 : decode cX4_cropUpper 22 = .ok (.ifCond .ne 16, 3) := by decide +kernel
theorem dX4_cropUpper_25 : decode cX4_cropUpper 25 = .ok (.aload_n 0, 1) := by decide +kernel
theorem dX4_cropUpper_26 : decode cX4_cropUpper 26 = .ok (.dup, 1) := by decide +kernel
theorem dX4_cropUpper_27 : decode cX4_cropUpper 27 = .ok (.getfield 22, 3) := by decide +kernel
theorem dX4_cropUpper_30 : decode cX4_cropUpper 30 = .ok (.iconst 1, 1) := by decide +kernel
theorem dX4_cropUpper_31 : decode cX4_cropUpper 31 = .ok (.iadd, 1) := by decide +kernel
theorem dX4_cropUpper_32 : decode cX4_cropUpper 32 = .ok (.putfield 22, 3) := by decide +kernel
theorem dX4_cropUpper_35 : decode cX4_cropUpper 35 = .ok (.goto (-35), 3) := by decide +kernel
theorem dX4_cropUpper_38 : decode cX4_cropUpper 38 = .ok (.return_, 1) := by decide +kernel
set_option maxRecDepth 20000 in
theorem ggX4_cropRight_X4_columnIsEmpty : GoodIn wsX4_cropRight wsX4_columnIsEmpty := goodIn_r _ [7, 8, 9, 10, 11, 12, 13, 14, 15, 16, 17, 18, 19, 20, 21, 22, 23, 24, 25, 26, 27, 28, 29, 30, 31, 32, 33, 34, 35, 36] (by decide +kernel) (by decide +kernel)
set_option maxRecDepth 20000 in
theorem gX4_cropRight_X4_columnIsEmpty : GoodIn wsX4_cropRight (wsV RX4 64 RX4 yX4_columnIsEmpty wsX4_columnIsEmpty) := goodIn_app (goodIn_of _ (by decide +kernel)) ggX4_cropRight_X4_columnIsEmpty
theorem dX4_cropRight_0 : decode cX4_cropRight 0 = .ok (.aload_n 0, 1) := by decide +kernel
theorem dX4_cropRight_1 : decode cX4_cropRight 1 = .ok (.getfield 30, 3) := by decide +kernel
theorem dX4_cropRight_4 : decode cX4_cropRight 4 = .ok (.aload_n 0, 1) := by decide +kernel
theorem dX4_cropRight_5 : decode cX4_cropRight 5 = .ok (.getfield 18, 3) := by decide +kernel
theorem dX4_cropRight_8 : decode cX4_cropRight 8 = .ok (.if_icmp .le 29, 3) := by decide +kernel
theorem dX4_cropRight_11 : decode cX4_cropRight 11 = .ok (.aload_n 0, 1) := by decide +kernel
theorem dX4_cropRight_12 : decode cX4_cropRight 12 = .ok (.aload_n 0, 1) := by decide +kernel
theorem dX4_cropRight_13 : decode cX4_cropRight 13 = .ok (.getfield 30, 3) := by decide +kernel
theorem dX4_cropRight_16 : decode cX4_cropRight 16 = .ok (.iconst 1, 1) := by decide +kernel
theorem dX4_cropRight_17 : decode cX4_cropRight 17 = .ok (.isub, 1) := by decide +kernel
theorem dX4_cropRight_18 : decode cX4_cropRight 18 = .ok (.invokevirtual 64, 3) := by decide +kernel
theorem dX4_cropRight_21 : decode cX4_cropRight 21 = .ok (.ifCond .eq 16, 3) := by decide +kernel
theorem dX4_cropRight_24 : decode cX4_cropRight 24 = .ok (.aload_n 0, 1) := by decide +kernel
theorem dX4_cropRight_25 : decode cX4_cropRight 25 = .ok (.dup, 1) := by decide +kernel
theorem dX4_cropRight_26 : decode cX4_cropRight 26 = .ok (.getfield 30, 3) := by decide +kernel
theorem dX4_cropRight_29 : decode cX4_cropRight 29 = .ok (.iconst 1, 1) := by decide +kernel
theorem dX4_cropRight_30 : decode cX4_cropRight 30 = .ok (.isub, 1) := by decide +kernel
theorem dX4_cropRight_31 : decode cX4_cropRight 31 = .ok (.putfield 30, 3) := by decide +kernel
theorem dX4_cropRight_34 : decode cX4_cropRight 34 = .ok (.goto (-34), 3) := by decide +kernel
theorem dX4_cropRight_37 : decode cX4_cropRight 37 = .ok (.return_, 1) := by decide +kernel
set_option maxRecDepth 20000 in
theorem ggX4_cropLower_X0_rowBits : GoodIn wsX4_cropLower wsX0_rowBits := goodIn_r _ [8, 9, 15, 16, 17, 18, 19, 20] (by decide +kernel) (by decide +kernel)
set_option maxRecDepth 20000 in
theorem gX4_cropLower_X0_rowBits : GoodIn wsX4_cropLower (wsV RX4 68 RX0 yX0_rowBits wsX0_rowBits) := goodIn_app (goodIn_of _ (by decide +kernel)) ggX4_cropLower_X0_rowBits
theorem dX4_cropLower_0 : decode cX4_cropLower 0 = .ok (.aload_n 0, 1) := by decide +kernel
theorem dX4_cropLower_1 : decode cX4_cropLower 1 = .ok (.getfield 36, 3) := by decide +kernel
theorem dX4_cropLower_4 : decode cX4_cropLower 4 = .ok (.aload_n 0, 1) := by decide +kernel
theorem dX4_cropLower_5 : decode cX4_cropLower 5 = .ok (.getfield 22, 3) := by decide +kernel
theorem dX4_cropLower_8 : decode cX4_cropLower 8 = .ok (.if_icmp .le 32, 3) := by decide +kernel
theorem dX4_cropLower_11 : decode cX4_cropLower 11 = .ok (.aload_n 0, 1) := by decide +kernel
theorem dX4_cropLower_12 : decode cX4_cropLower 12 = .ok (.getfield 9, 3) := by decide +kernel
theorem dX4_cropLower_15 : decode cX4_cropLower 15 = .ok (.aload_n 0, 1) := by decide +kernel
theorem dX4_cropLower_16 : decode cX4_cropLower 16 = .ok (.getfield 36, 3) := by decide +kernel
theorem dX4_cropLower_19 : decode cX4_cropLower 19 = .ok (.iconst 1, 1) := by decide +kernel
theorem dX4_cropLower_20 : decode cX4_cropLower 20 = .ok (.isub, 1) := by decide +kernel
theorem dX4_cropLower_21 : decode cX4_cropLower 21 = .ok (.invokevirtual 68, 3) := by decide +kernel
theorem dX4_cropLower_24 : decode cX4_cropLower 24 = .ok (.ifCond .ne 16, 3) := by decide +kernel
theorem dX4_cropLower_27 : decode cX4_cropLower 27 = .ok (.aload_n 0, 1) := by decide +kernel
theorem dX4_cropLower_28 : decode cX4_cropLower 28 = .ok (.dup, 1) := by decide +kernel
theorem dX4_cropLower_29 : decode cX4_cropLower 29 = .ok (.getfield 36, 3) := by decide +kernel
theorem dX4_cropLower_32 : decode cX4_cropLower 32 = .ok (.iconst 1, 1) := by decide +kernel
theorem dX4_cropLower_33 : decode cX4_cropLower 33 = .ok (.isub, 1) := by decide +kernel
theorem dX4_cropLower_34 : decode cX4_cropLower 34 = .ok (.putfield 36, 3) := by decide +kernel
theorem dX4_cropLower_37 : decode cX4_cropLower 37 = .ok (.goto (-37), 3) := by decide +kernel
theorem dX4_cropLower_40 : decode cX4_cropLower 40 = .ok (.return_, 1) := by decide +kernel
set_option maxRecDepth 20000 in
theorem ggX4_columnIsEmpty_X0_isOn : GoodIn wsX4_columnIsEmpty wsX0_isOn := goodIn_r _ [7, 8, 9, 10, 6, 11, 12, 13, 14, 15, 16, 17, 18, 24, 25, 26, 27, 28, 29] (by decide +kernel) (by decide +kernel)
set_option maxRecDepth 20000 in
theorem gX4_columnIsEmpty_X0_isOn : GoodIn wsX4_columnIsEmpty (wsV RX4 71 RX0 yX0_isOn wsX0_isOn) := goodIn_app (goodIn_of _ (by decide +kernel)) ggX4_columnIsEmpty_X0_isOn
theorem dX4_columnIsEmpty_0 : decode cX4_columnIsEmpty 0 = .ok (.iconst 0, 1) := by decide +kernel
theorem dX4_columnIsEmpty_1 : decode cX4_columnIsEmpty 1 = .ok (.istore_n 2, 1) := by decide +kernel
theorem dX4_columnIsEmpty_2 : decode cX4_columnIsEmpty 2 = .ok (.iload_n 2, 1) := by decide +kernel
theorem dX4_columnIsEmpty_3 : decode cX4_columnIsEmpty 3 = .ok (.aload_n 0, 1) := by decide +kernel
theorem dX4_columnIsEmpty_4 : decode cX4_columnIsEmpty 4 = .ok (.getfield 9, 3) := by decide +kernel
theorem dX4_columnIsEmpty_7 : decode cX4_columnIsEmpty 7 = .ok (.getfield 33, 3) := by decide +kernel
theorem dX4_columnIsEmpty_10 : decode cX4_columnIsEmpty 10 = .ok (.if_icmp .ge 23, 3) := by decide +kernel
theorem dX4_columnIsEmpty_13 : decode cX4_columnIsEmpty 13 = .ok (.aload_n 0, 1) := by decide +kernel
theorem dX4_columnIsEmpty_14 : decode cX4_columnIsEmpty 14 = .ok (.getfield 9, 3) := by decide +kernel
theorem dX4_columnIsEmpty_17 : decode cX4_columnIsEmpty 17 = .ok (.iload_n 1, 1) := by decide +kernel
theorem dX4_columnIsEmpty_18 : decode cX4_columnIsEmpty 18 = .ok (.iload_n 2, 1) := by decide +kernel
theorem dX4_columnIsEmpty_19 : decode cX4_columnIsEmpty 19 = .ok (.invokevirtual 71, 3) := by decide +kernel
theorem dX4_columnIsEmpty_22 : decode cX4_columnIsEmpty 22 = .ok (.ifCond .eq 5, 3) := by decide +kernel
theorem dX4_columnIsEmpty_25 : decode cX4_columnIsEmpty 25 = .ok (.iconst 0, 1) := by decide +kernel
theorem dX4_columnIsEmpty_26 : decode cX4_columnIsEmpty 26 = .ok (.ireturn, 1) := by decide +kernel
theorem dX4_columnIsEmpty_27 : decode cX4_columnIsEmpty 27 = .ok (.iinc 2 1, 3) := by decide +kernel
theorem dX4_columnIsEmpty_30 : decode cX4_columnIsEmpty 30 = .ok (.goto (-28), 3) := by decide +kernel
theorem dX4_columnIsEmpty_33 : decode cX4_columnIsEmpty 33 = .ok (.iconst 1, 1) := by decide +kernel
theorem dX4_columnIsEmpty_34 : decode cX4_columnIsEmpty 34 = .ok (.ireturn, 1) := by decide +kernel
set_option maxRecDepth 20000 in
theorem ggX5_init_X5_nearestSide : GoodIn wsX5_init wsX5_nearestSide := goodIn_r _ [26, 27, 28, 29, 30, 31, 32, 33] (by decide +kernel) (by decide +kernel)
set_option maxRecDepth 20000 in
theorem gX5_init_X5_nearestSide : GoodIn wsX5_init (va_wsS RX5 19 yX5_nearestSide wsX5_nearestSide) := goodIn_app (goodIn_of _ (by decide +kernel)) ggX5_init_X5_nearestSide
set_option maxRecDepth 20000 in
theorem ggX5_init_X0_init : GoodIn wsX5_init wsX0_init := goodIn_r _ [36, 37, 2, 3, 38, 39, 40, 41, 42, 4, 43, 44, 82, 83, 84, 85, 86, 87] (by decide +kernel) (by decide +kernel)
set_option maxRecDepth 20000 in
theorem gX5_init_X0_init : GoodIn wsX5_init (wsX0_init) := ggX5_init_X0_init
set_option maxRecDepth 20000 in
theorem ggX5_init_X4_init : GoodIn wsX5_init wsX4_init := goodIn_r _ [47, 48, 2, 3, 49, 50, 51, 52, 13, 53, 54, 55, 56, 57, 58, 59, 88, 89, 90, 91, 92, 82, 83, 84, 85, 86, 87] (by decide +kernel) (by decide +kernel)
set_option maxRecDepth 20000 in
theorem gX5_init_X4_init : GoodIn wsX5_init (wsX4_init) := ggX5_init_X4_init
set_option maxRecDepth 20000 in
theorem ggX5_init_X3_init : GoodIn wsX5_init wsX3_init := goodIn_r _ [62, 63, 2, 3, 4, 64, 65, 66, 67, 68, 69, 70, 93, 94, 95, 96, 97, 98, 99] (by decide +kernel) (by decide +kernel)
set_option maxRecDepth 20000 in
theorem gX5_init_X3_init : GoodIn wsX5_init (wsX3_init) := ggX5_init_X3_init
set_option maxRecDepth 20000 in
theorem ggX5_init_X2_init : GoodIn wsX5_init wsX2_init := goodIn_r _ [73, 74, 2, 3, 75, 100] (by decide +kernel) (by decide +kernel)
set_option maxRecDepth 20000 in
theorem gX5_init_X2_init : GoodIn wsX5_init (wsX2_init) := ggX5_init_X2_init
theorem dX5_init_0 : decode cX5_init 0 = .ok (.aload_n 0, 1) := by decide +kernel
theorem dX5_init_1 : decode cX5_init 1 = .ok (.invokespecial 1, 3) := by decide +kernel
theorem dX5_init_4 : decode cX5_init 4 = .ok (.aload_n 0, 1) := by decide +kernel
theorem dX5_init_5 : decode cX5_init 5 = .ok (.bipush 16, 2) := by decide +kernel
theorem dX5_init_7 : decode cX5_init 7 = .ok (.newarray .int, 2) := by decide +kernel
theorem dX5_init_9 : decode cX5_init 9 = .ok (.putfield 9, 3) := by decide +kernel
theorem dX5_init_12 : decode cX5_init 12 = .ok (.aload_n 0, 1) := by decide +kernel
theorem dX5_init_13 : decode cX5_init 13 = .ok (.iconst 0, 1) := by decide +kernel
theorem dX5_init_14 : decode cX5_init 14 = .ok (.putfield 13, 3) := by decide +kernel
theorem dX5_init_17 : decode cX5_init 17 = .ok (.aload_n 0, 1) := by decide +kernel
theorem dX5_init_18 : decode cX5_init 18 = .ok (.new 17, 3) := by decide +kernel
theorem dX5_init_21 : decode cX5_init 21 = .ok (.dup, 1) := by decide +kernel
theorem dX5_init_22 : decode cX5_init 22 = .ok (.iload_n 1, 1) := by decide +kernel
theorem dX5_init_23 : decode cX5_init 23 = .ok (.invokestatic 19, 3) := by decide +kernel
theorem dX5_init_26 : decode cX5_init 26 = .ok (.iload_n 2, 1) := by decide +kernel
theorem dX5_init_27 : decode cX5_init 27 = .ok (.invokestatic 19, 3) := by decide +kernel
theorem dX5_init_30 : decode cX5_init 30 = .ok (.invokespecial 23, 3) := by decide +kernel
theorem dX5_init_33 : decode cX5_init 33 = .ok (.putfield 26, 3) := by decide +kernel
theorem dX5_init_36 : decode cX5_init 36 = .ok (.aload_n 0, 1) := by decide +kernel
theorem dX5_init_37 : decode cX5_init 37 = .ok (.new 30, 3) := by decide +kernel
theorem dX5_init_40 : decode cX5_init 40 = .ok (.dup, 1) := by decide +kernel
theorem dX5_init_41 : decode cX5_init 41 = .ok (.aload_n 0, 1) := by decide +kernel
theorem dX5_init_42 : decode cX5_init 42 = .ok (.getfield 26, 3) := by decide +kernel
theorem dX5_init_45 : decode cX5_init 45 = .ok (.invokespecial 32, 3) := by decide +kernel
theorem dX5_init_48 : decode cX5_init 48 = .ok (.putfield 35, 3) := by decide +kernel
theorem dX5_init_51 : decode cX5_init 51 = .ok (.aload_n 0, 1) := by decide +kernel
theorem dX5_init_52 : decode cX5_init 52 = .ok (.new 39, 3) := by decide +kernel
theorem dX5_init_55 : decode cX5_init 55 = .ok (.dup, 1) := by decide +kernel
theorem dX5_init_56 : decode cX5_init 56 = .ok (.aload_n 0, 1) := by decide +kernel
theorem dX5_init_57 : decode cX5_init 57 = .ok (.getfield 26, 3) := by decide +kernel
theorem dX5_init_60 : decode cX5_init 60 = .ok (.invokespecial 41, 3) := by decide +kernel
theorem dX5_init_63 : decode cX5_init 63 = .ok (.putfield 42, 3) := by decide +kernel
theorem dX5_init_66 : decode cX5_init 66 = .ok (.aload_n 0, 1) := by decide +kernel
theorem dX5_init_67 : decode cX5_init 67 = .ok (.new 46, 3) := by decide +kernel
theorem dX5_init_70 : decode cX5_init 70 = .ok (.dup, 1) := by decide +kernel
theorem dX5_init_71 : decode cX5_init 71 = .ok (.aload_n 0, 1) := by decide +kernel
theorem dX5_init_72 : decode cX5_init 72 = .ok (.getfield 26, 3) := by decide +kernel
theorem dX5_init_75 : decode cX5_init 75 = .ok (.invokespecial 48, 3) := by decide +kernel
theorem dX5_init_78 : decode cX5_init 78 = .ok (.putfield 49, 3) := by decide +kernel
theorem dX5_init_81 : decode cX5_init 81 = .ok (.return_, 1) := by decide +kernel
set_option maxRecDepth 20000 in
theorem ggX5_put_X5_checkSample : GoodIn wsX5_put wsX5_checkSample := goodIn_ca (goodIn_r _ [8, 9, 10, 3, 11, 12, 13, 14, 15, 16, 17, 70, 71, 72, 73, 74, 75, 76, 77, 78, 79, 80, 81] (by decide +kernel) (by decide +kernel)) (goodIn_sub (fun _ h => List.mem_cons_of_mem _ (List.mem_append_right _ h)) (by decide +kernel))
set_option maxRecDepth 20000 in
theorem gX5_put_X5_checkSample : GoodIn wsX5_put (wsV RX5 53 RX5 yX5_checkSample wsX5_checkSample) := goodIn_app (goodIn_of _ (by decide +kernel)) ggX5_put_X5_checkSample
set_option maxRecDepth 20000 in
theorem ggX5_put_X0_fill : GoodIn wsX5_put wsX0_fill := goodIn_r _ [21, 16, 22, 23, 24, 25, 26, 12, 13, 14, 15, 17, 27, 28, 29, 30, 31, 32, 33, 34, 35, 36, 37, 38, 39, 40, 41, 42, 43, 44, 45, 76, 77, 78, 79, 80, 81] (by decide +kernel) (by decide +kernel)
set_option maxRecDepth 20000 in
theorem gX5_put_X0_fill : GoodIn wsX5_put (wsV RX5 63 RX0 yX0_fill wsX0_fill) := goodIn_app (goodIn_of _ (by decide +kernel)) ggX5_put_X0_fill
set_option maxRecDepth 20000 in
theorem ggX5_put_X5_noteChange : GoodIn wsX5_put wsX5_noteChange := goodIn_r _ [49, 50, 51, 52, 53, 54, 55, 56, 57, 58, 59, 60, 61, 62, 63, 64, 65, 66, 67, 68, 69, 70, 71, 72, 73, 74, 75, 82, 83, 84, 85, 86, 76, 77, 78, 79, 80, 81, 87, 88, 89, 90, 91, 92, 93] (by decide +kernel) (by decide +kernel)
set_option maxRecDepth 20000 in
theorem gX5_put_X5_noteChange : GoodIn wsX5_put (wsV RX5 67 RX5 yX5_noteChange wsX5_noteChange) := goodIn_app (goodIn_of _ (by decide +kernel)) ggX5_put_X5_noteChange
theorem dX5_put_0 : decode cX5_put 0 = .ok (.aload_n 0, 1) := by decide +kernel
theorem dX5_put_1 : decode cX5_put 1 = .ok (.iload_n 1, 1) := by decide +kernel
theorem dX5_put_2 : decode cX5_put 2 = .ok (.iload_n 2, 1) := by decide +kernel
theorem dX5_put_3 : decode cX5_put 3 = .ok (.invokevirtual 53, 3) := by decide +kernel
theorem dX5_put_6 : decode cX5_put 6 = .ok (.iload_n 3, 1) := by decide +kernel
theorem dX5_put_7 : decode cX5_put 7 = .ok (.iconst 1, 1) := by decide +kernel
theorem dX5_put_8 : decode cX5_put 8 = .ok (.if_icmp .ge 13, 3) := by decide +kernel
theorem dX5_put_11 : decode cX5_put 11 = .ok (.new 56, 3) := by decide +kernel
theorem dX5_put_14 : decode cX5_put 14 = .ok (.dup, 1) := by decide +kernel
theorem dX5_put_15 : decode cX5_put 15 = .ok (.ldc 58, 2) := by decide +kernel
theorem dX5_put_17 : decode cX5_put 17 = .ok (.invokespecial 60, 3) := by decide +kernel
theorem dX5_put_20 : decode cX5_put 20 = .ok (.athrow, 1) := by decide +kernel
theorem dX5_put_21 : decode cX5_put 21 = .ok (.aload_n 0, 1) := by decide +kernel
theorem dX5_put_22 : decode cX5_put 22 = .ok (.getfield 26, 3) := by decide +kernel
theorem dX5_put_25 : decode cX5_put 25 = .ok (.iload_n 1, 1) := by decide +kernel
theorem dX5_put_26 : decode cX5_put 26 = .ok (.iload_n 2, 1) := by decide +kernel
theorem dX5_put_27 : decode cX5_put 27 = .ok (.iload_n 3, 1) := by decide +kernel
theorem dX5_put_28 : decode cX5_put 28 = .ok (.iload 4, 2) := by decide +kernel
theorem dX5_put_30 : decode cX5_put 30 = .ok (.invokevirtual 63, 3) := by decide +kernel
theorem dX5_put_33 : decode cX5_put 33 = .ok (.istore 5, 2) := by decide +kernel
theorem dX5_put_35 : decode cX5_put 35 = .ok (.iload 5, 2) := by decide +kernel
theorem dX5_put_37 : decode cX5_put 37 = .ok (.ifCond .le 7, 3) := by decide +kernel
theorem dX5_put_40 : decode cX5_put 40 = .ok (.aload_n 0, 1) := by decide +kernel
theorem dX5_put_41 : decode cX5_put 41 = .ok (.invokevirtual 67, 3) := by decide +kernel
theorem dX5_put_44 : decode cX5_put 44 = .ok (.iload 5, 2) := by decide +kernel
theorem dX5_put_46 : decode cX5_put 46 = .ok (.ireturn, 1) := by decide +kernel
set_option maxRecDepth 20000 in
theorem ggX5_at_X5_checkSample : GoodIn wsX5_at wsX5_checkSample := goodIn_ca (goodIn_r _ [6, 7, 8, 1, 9, 10, 11, 12, 13, 14, 15, 26, 27, 28, 29, 30, 31, 32, 33, 34, 35, 36, 37] (by decide +kernel) (by decide +kernel)) (goodIn_sub (fun _ h => List.mem_cons_of_mem _ (List.mem_append_right _ h)) (by decide +kernel))
set_option maxRecDepth 20000 in
theorem gX5_at_X5_checkSample : GoodIn wsX5_at (wsV RX5 53 RX5 yX5_checkSample wsX5_checkSample) := goodIn_app (goodIn_of _ (by decide +kernel)) ggX5_at_X5_checkSample
set_option maxRecDepth 20000 in
theorem ggX5_at_X0_isOn : GoodIn wsX5_at wsX0_isOn := goodIn_r _ [19, 20, 10, 11, 12, 13, 14, 15, 21, 22, 23, 24, 25, 32, 33, 34, 35, 36, 37] (by decide +kernel) (by decide +kernel)
set_option maxRecDepth 20000 in
theorem gX5_at_X0_isOn : GoodIn wsX5_at (wsV RX5 70 RX0 yX0_isOn wsX0_isOn) := goodIn_app (goodIn_of _ (by decide +kernel)) ggX5_at_X0_isOn
theorem dX5_at_0 : decode cX5_at 0 = .ok (.aload_n 0, 1) := by decide +kernel
theorem dX5_at_1 : decode cX5_at 1 = .ok (.iload_n 1, 1) := by decide +kernel
theorem dX5_at_2 : decode cX5_at 2 = .ok (.iload_n 2, 1) := by decide +kernel
theorem dX5_at_3 : decode cX5_at 3 = .ok (.invokevirtual 53, 3) := by decide +kernel
theorem dX5_at_6 : decode cX5_at 6 = .ok (.aload_n 0, 1) := by decide +kernel
theorem dX5_at_7 : decode cX5_at 7 = .ok (.getfield 26, 3) := by decide +kernel
theorem dX5_at_10 : decode cX5_at 10 = .ok (.iload_n 1, 1) := by decide +kernel
theorem dX5_at_11 : decode cX5_at 11 = .ok (.iload_n 2, 1) := by decide +kernel
theorem dX5_at_12 : decode cX5_at 12 = .ok (.invokevirtual 70, 3) := by decide +kernel
theorem dX5_at_15 : decode cX5_at 15 = .ok (.ireturn, 1) := by decide +kernel
set_option maxRecDepth 20000 in
theorem ggX5_sum_X5_checkAngle : GoodIn wsX5_sum wsX5_checkAngle := goodIn_ca (goodIn_r _ [5, 6, 7] (by decide +kernel) (by decide +kernel)) (goodIn_sub (fun _ h => List.mem_cons_of_mem _ (List.mem_append_right _ h)) (by decide +kernel))
set_option maxRecDepth 20000 in
theorem gX5_sum_X5_checkAngle : GoodIn wsX5_sum (va_wsS RX5 74 yX5_checkAngle wsX5_checkAngle) := goodIn_app (goodIn_of _ (by decide +kernel)) ggX5_sum_X5_checkAngle
set_option maxRecDepth 20000 in
theorem ggX5_sum_X3_sumAt : GoodIn wsX5_sum wsX3_sumAt := goodIn_r _ [12, 13, 14, 15, 16, 17, 18, 19, 20, 21, 22, 23, 24, 25, 26, 27, 28, 29, 30, 31, 32, 33, 34, 35, 36, 37, 38, 39, 40, 41, 42, 43, 44, 45, 46, 47, 48, 49, 50, 11, 51, 52, 53, 54, 55, 56, 57, 58, 59, 60, 61, 62, 63, 64, 65, 66, 67, 74, 75, 76, 77, 78, 79, 80, 81, 82, 83, 84, 85, 86] (by decide +kernel) (by decide +kernel)
set_option maxRecDepth 20000 in
theorem gX5_sum_X3_sumAt : GoodIn wsX5_sum (wsV RX5 78 RX3 yX3_sumAt wsX3_sumAt) := goodIn_app (goodIn_of _ (by decide +kernel)) ggX5_sum_X3_sumAt
theorem dX5_sum_0 : decode cX5_sum 0 = .ok (.iload_n 1, 1) := by decide +kernel
theorem dX5_sum_1 : decode cX5_sum 1 = .ok (.invokestatic 74, 3) := by decide +kernel
theorem dX5_sum_4 : decode cX5_sum 4 = .ok (.aload_n 0, 1) := by decide +kernel
theorem dX5_sum_5 : decode cX5_sum 5 = .ok (.getfield 42, 3) := by decide +kernel
theorem dX5_sum_8 : decode cX5_sum 8 = .ok (.iload_n 1, 1) := by decide +kernel
theorem dX5_sum_9 : decode cX5_sum 9 = .ok (.invokevirtual 78, 3) := by decide +kernel
theorem dX5_sum_12 : decode cX5_sum 12 = .ok (.dreturn, 1) := by decide +kernel
set_option maxRecDepth 20000 in
theorem ggX5_angle_X3_find : GoodIn wsX5_angle wsX3_find := goodIn_r _ [8, 9, 10, 11, 12, 13, 14, 15, 16, 17, 18, 19, 20, 21, 22, 23, 24, 25, 26, 27, 28, 29, 30, 31, 32, 33, 34, 35, 36, 37, 38, 7, 39, 40, 41, 42, 43, 44, 45, 46, 47, 48, 49, 50, 51, 52, 53, 54, 55, 56, 57, 58, 59, 60, 61, 62, 63, 64, 65, 66, 67, 68, 69, 70, 71, 72, 73, 74, 75, 76, 77, 78, 79, 80, 81, 82, 83, 84, 85, 86, 87, 88, 89, 90, 91, 98, 99, 100, 101, 102, 103, 104, 105, 106, 107, 108, 109, 110] (by decide +kernel) (by decide +kernel)
set_option maxRecDepth 20000 in
theorem gX5_angle_X3_find : GoodIn wsX5_angle (wsV RX5 84 RX3 yX3_find wsX3_find) := goodIn_app (goodIn_of _ (by decide +kernel)) ggX5_angle_X3_find
theorem dX5_angle_0 : decode cX5_angle 0 = .ok (.iload_n 1, 1) := by decide +kernel
theorem dX5_angle_1 : decode cX5_angle 1 = .ok (.ifCond .lt 10, 3) := by decide +kernel
theorem dX5_angle_4 : decode cX5_angle 4 = .ok (.iload_n 1, 1) := by decide +kernel
theorem dX5_angle_5 : decode cX5_angle 5 = .ok (.sipush 2000, 3) := by decide +kernel
theorem dX5_angle_8 : decode cX5_angle 8 = .ok (.if_icmp .le 13, 3) := by decide +kernel
theorem dX5_angle_11 : decode cX5_angle 11 = .ok (.new 56, 3) := by decide +kernel
theorem dX5_angle_14 : decode cX5_angle 14 = .ok (.dup, 1) := by decide +kernel
theorem dX5_angle_15 : decode cX5_angle 15 = .ok (.ldc 82, 2) := by decide +kernel
theorem dX5_angle_17 : decode cX5_angle 17 = .ok (.invokespecial 60, 3) := by decide +kernel
theorem dX5_angle_20 : decode cX5_angle 20 = .ok (.athrow, 1) := by decide +kernel
theorem dX5_angle_21 : decode cX5_angle 21 = .ok (.aload_n 0, 1) := by decide +kernel
theorem dX5_angle_22 : decode cX5_angle 22 = .ok (.getfield 42, 3) := by decide +kernel
theorem dX5_angle_25 : decode cX5_angle 25 = .ok (.iload_n 1, 1) := by decide +kernel
theorem dX5_angle_26 : decode cX5_angle 26 = .ok (.invokevirtual 84, 3) := by decide +kernel
theorem dX5_angle_29 : decode cX5_angle 29 = .ok (.ireturn, 1) := by decide +kernel
set_option maxRecDepth 20000 in
theorem ggX5_sure_X5_checkAsked : GoodIn wsX5_sure wsX5_checkAsked := goodIn_ca (goodIn_r _ [6, 7, 8, 1, 9, 10, 11, 12, 13, 14, 20, 21, 22, 23, 24, 25, 26, 27, 28, 29, 30, 31, 32] (by decide +kernel) (by decide +kernel)) (goodIn_sub (fun _ h => List.mem_cons_of_mem _ (List.mem_append_right _ h)) (by decide +kernel))
set_option maxRecDepth 20000 in
theorem gX5_sure_X5_checkAsked : GoodIn wsX5_sure (wsV RX5 87 RX5 yX5_checkAsked wsX5_checkAsked) := goodIn_app (goodIn_of _ (by decide +kernel)) ggX5_sure_X5_checkAsked
set_option maxRecDepth 20000 in
theorem ggX5_sure_X3_isSure : GoodIn wsX5_sure wsX3_isSure := goodIn_r _ [18, 19, 26, 27, 28, 29, 30, 31, 32] (by decide +kernel) (by decide +kernel)
set_option maxRecDepth 20000 in
theorem gX5_sure_X3_isSure : GoodIn wsX5_sure (wsV RX5 90 RX3 yX3_isSure wsX3_isSure) := goodIn_app (goodIn_of _ (by decide +kernel)) ggX5_sure_X3_isSure
theorem dX5_sure_0 : decode cX5_sure 0 = .ok (.aload_n 0, 1) := by decide +kernel
theorem dX5_sure_1 : decode cX5_sure 1 = .ok (.invokevirtual 87, 3) := by decide +kernel
theorem dX5_sure_4 : decode cX5_sure 4 = .ok (.aload_n 0, 1) := by decide +kernel
theorem dX5_sure_5 : decode cX5_sure 5 = .ok (.getfield 42, 3) := by decide +kernel
theorem dX5_sure_8 : decode cX5_sure 8 = .ok (.invokevirtual 90, 3) := by decide +kernel
theorem dX5_sure_11 : decode cX5_sure 11 = .ok (.ireturn, 1) := by decide +kernel
set_option maxRecDepth 20000 in
theorem ggX5_mean_X5_checkAsked : GoodIn wsX5_mean wsX5_checkAsked := goodIn_ca (goodIn_r _ [6, 7, 8, 1, 9, 10, 11, 12, 13, 14, 20, 21, 22, 23, 24, 25, 26, 27, 28, 29, 30, 31, 32] (by decide +kernel) (by decide +kernel)) (goodIn_sub (fun _ h => List.mem_cons_of_mem _ (List.mem_append_right _ h)) (by decide +kernel))
set_option maxRecDepth 20000 in
theorem gX5_mean_X5_checkAsked : GoodIn wsX5_mean (wsV RX5 87 RX5 yX5_checkAsked wsX5_checkAsked) := goodIn_app (goodIn_of _ (by decide +kernel)) ggX5_mean_X5_checkAsked
set_option maxRecDepth 20000 in
theorem ggX5_mean_X3_meanOfGrid : GoodIn wsX5_mean wsX3_meanOfGrid := goodIn_r _ [18, 19, 26, 27, 28, 29, 30, 31, 32] (by decide +kernel) (by decide +kernel)
set_option maxRecDepth 20000 in
theorem gX5_mean_X3_meanOfGrid : GoodIn wsX5_mean (wsV RX5 94 RX3 yX3_meanOfGrid wsX3_meanOfGrid) := goodIn_app (goodIn_of _ (by decide +kernel)) ggX5_mean_X3_meanOfGrid
theorem dX5_mean_0 : decode cX5_mean 0 = .ok (.aload_n 0, 1) := by decide +kernel
theorem dX5_mean_1 : decode cX5_mean 1 = .ok (.invokevirtual 87, 3) := by decide +kernel
theorem dX5_mean_4 : decode cX5_mean 4 = .ok (.aload_n 0, 1) := by decide +kernel
theorem dX5_mean_5 : decode cX5_mean 5 = .ok (.getfield 42, 3) := by decide +kernel
theorem dX5_mean_8 : decode cX5_mean 8 = .ok (.invokevirtual 94, 3) := by decide +kernel
theorem dX5_mean_11 : decode cX5_mean 11 = .ok (.dreturn, 1) := by decide +kernel
set_option maxRecDepth 20000 in
theorem ggX5_turn_X5_checkAngle : GoodIn wsX5_turn wsX5_checkAngle := goodIn_ca (goodIn_r _ [9, 10, 11] (by decide +kernel) (by decide +kernel)) (goodIn_sub (fun _ h => List.mem_cons_of_mem _ (List.mem_append_right _ h)) (by decide +kernel))
set_option maxRecDepth 20000 in
theorem gX5_turn_X5_checkAngle : GoodIn wsX5_turn (va_wsS RX5 74 yX5_checkAngle wsX5_checkAngle) := goodIn_app (goodIn_of _ (by decide +kernel)) ggX5_turn_X5_checkAngle
set_option maxRecDepth 20000 in
theorem ggX5_turn_X0_turnBySampling : GoodIn wsX5_turn wsX0_turnBySampling := goodIn_r _ [16, 17, 18, 19, 20, 21, 22, 23, 24, 25, 26, 27, 28, 29, 30, 31, 32, 33, 34, 35, 36, 37, 38, 15, 39, 40, 41, 42, 43, 44, 45, 46, 47, 48, 49, 50, 51, 52, 53, 54, 55, 56, 57, 58, 59, 60, 61, 62, 63, 64, 65, 66, 67, 68, 151, 152, 153, 154, 155, 156] (by decide +kernel) (by decide +kernel)
set_option maxRecDepth 20000 in
theorem gX5_turn_X0_turnBySampling : GoodIn wsX5_turn (wsV RX5 98 RX0 yX0_turnBySampling wsX0_turnBySampling) := goodIn_app (goodIn_of _ (by decide +kernel)) ggX5_turn_X0_turnBySampling
set_option maxRecDepth 20000 in
theorem ggX5_turn_X0_turnByShears : GoodIn wsX5_turn wsX0_turnByShears := goodIn_r _ [72, 73, 74, 75, 15, 76, 77, 78, 79, 20, 80, 81, 82, 83, 25, 26, 27, 28, 29, 18, 19, 21, 22, 23, 24, 84, 85, 86, 87, 17, 52, 53, 54, 55, 56, 41, 42, 43, 44, 45, 88, 89, 90, 91, 50, 92, 93, 94, 95, 96, 97, 98, 99, 100, 101, 65, 66, 67, 68, 102, 103, 104, 105, 51, 36, 37, 38, 39, 40, 106, 107, 108, 109, 61, 62, 63, 64, 151, 152, 153, 154, 155, 156] (by decide +kernel) (by decide +kernel)
set_option maxRecDepth 20000 in
theorem gX5_turn_X0_turnByShears : GoodIn wsX5_turn (wsV RX5 101 RX0 yX0_turnByShears wsX0_turnByShears) := goodIn_app (goodIn_of _ (by decide +kernel)) ggX5_turn_X0_turnByShears
set_option maxRecDepth 20000 in
theorem ggX5_turn_X5_noteChange : GoodIn wsX5_turn wsX5_noteChange := goodIn_r _ [113, 114, 115, 116, 117, 118, 119, 120, 121, 122, 123, 124, 125, 126, 127, 128, 129, 130, 131, 132, 133, 145, 146, 147, 148, 149, 150, 157, 158, 159, 160, 161, 151, 152, 153, 154, 155, 156, 162, 163, 164, 165, 166, 167, 168] (by decide +kernel) (by decide +kernel)
set_option maxRecDepth 20000 in
theorem gX5_turn_X5_noteChange : GoodIn wsX5_turn (wsV RX5 67 RX5 yX5_noteChange wsX5_noteChange) := goodIn_app (goodIn_of _ (by decide +kernel)) ggX5_turn_X5_noteChange
set_option maxRecDepth 20000 in
theorem ggX5_turn_X0_samplesOn : GoodIn wsX5_turn wsX0_samplesOn := goodIn_r _ [137, 17, 41, 42, 43, 15, 44, 45, 138, 139, 140, 141, 142, 143, 144, 151, 152, 153, 154, 155, 156] (by decide +kernel) (by decide +kernel)
set_option maxRecDepth 20000 in
theorem gX5_turn_X0_samplesOn : GoodIn wsX5_turn (wsV RX5 109 RX0 yX0_samplesOn wsX0_samplesOn) := goodIn_app (goodIn_of _ (by decide +kernel)) ggX5_turn_X0_samplesOn
theorem dX5_turn_0 : decode cX5_turn 0 = .ok (.iload_n 1, 1) := by decide +kernel
theorem dX5_turn_1 : decode cX5_turn 1 = .ok (.invokestatic 74, 3) := by decide +kernel
theorem dX5_turn_4 : decode cX5_turn 4 = .ok (.iload_n 2, 1) := by decide +kernel
theorem dX5_turn_5 : decode cX5_turn 5 = .ok (.ifCond .ne 19, 3) := by decide +kernel
theorem dX5_turn_8 : decode cX5_turn 8 = .ok (.aload_n 0, 1) := by decide +kernel
theorem dX5_turn_9 : decode cX5_turn 9 = .ok (.iconst 0, 1) := by decide +kernel
theorem dX5_turn_10 : decode cX5_turn 10 = .ok (.putfield 13, 3) := by decide +kernel
theorem dX5_turn_13 : decode cX5_turn 13 = .ok (.aload_n 0, 1) := by decide +kernel
theorem dX5_turn_14 : decode cX5_turn 14 = .ok (.getfield 26, 3) := by decide +kernel
theorem dX5_turn_17 : decode cX5_turn 17 = .ok (.iload_n 1, 1) := by decide +kernel
theorem dX5_turn_18 : decode cX5_turn 18 = .ok (.invokevirtual 98, 3) := by decide +kernel
theorem dX5_turn_21 : decode cX5_turn 21 = .ok (.goto 63, 3) := by decide +kernel
theorem dX5_turn_24 : decode cX5_turn 24 = .ok (.aload_n 0, 1) := by decide +kernel
theorem dX5_turn_25 : decode cX5_turn 25 = .ok (.getfield 13, 3) := by decide +kernel
theorem dX5_turn_28 : decode cX5_turn 28 = .ok (.ifCond .lt 46, 3) := by decide +kernel
theorem dX5_turn_31 : decode cX5_turn 31 = .ok (.aload_n 0, 1) := by decide +kernel
theorem dX5_turn_32 : decode cX5_turn 32 = .ok (.getfield 13, 3) := by decide +kernel
theorem dX5_turn_35 : decode cX5_turn 35 = .ok (.aload_n 0, 1) := by decide +kernel
theorem dX5_turn_36 : decode cX5_turn 36 = .ok (.getfield 9, 3) := by decide +kernel
theorem dX5_turn_39 : decode cX5_turn 39 = .ok (.arraylength, 1) := by decide +kernel
theorem dX5_turn_40 : decode cX5_turn 40 = .ok (.if_icmp .ge 34, 3) := by decide +kernel
theorem dX5_turn_43 : decode cX5_turn 43 = .ok (.aload_n 0, 1) := by decide +kernel
theorem dX5_turn_44 : decode cX5_turn 44 = .ok (.getfield 9, 3) := by decide +kernel
theorem dX5_turn_47 : decode cX5_turn 47 = .ok (.aload_n 0, 1) := by decide +kernel
theorem dX5_turn_48 : decode cX5_turn 48 = .ok (.getfield 13, 3) := by decide +kernel
theorem dX5_turn_51 : decode cX5_turn 51 = .ok (.iload_n 1, 1) := by decide +kernel
theorem dX5_turn_52 : decode cX5_turn 52 = .ok (.iastore, 1) := by decide +kernel
theorem dX5_turn_53 : decode cX5_turn 53 = .ok (.aload_n 0, 1) := by decide +kernel
theorem dX5_turn_54 : decode cX5_turn 54 = .ok (.dup, 1) := by decide +kernel
theorem dX5_turn_55 : decode cX5_turn 55 = .ok (.getfield 13, 3) := by decide +kernel
theorem dX5_turn_58 : decode cX5_turn 58 = .ok (.iconst 1, 1) := by decide +kernel
theorem dX5_turn_59 : decode cX5_turn 59 = .ok (.iadd, 1) := by decide +kernel
theorem dX5_turn_60 : decode cX5_turn 60 = .ok (.putfield 13, 3) := by decide +kernel
theorem dX5_turn_63 : decode cX5_turn 63 = .ok (.aload_n 0, 1) := by decide +kernel
theorem dX5_turn_64 : decode cX5_turn 64 = .ok (.getfield 26, 3) := by decide +kernel
theorem dX5_turn_67 : decode cX5_turn 67 = .ok (.iload_n 1, 1) := by decide +kernel
theorem dX5_turn_68 : decode cX5_turn 68 = .ok (.invokevirtual 101, 3) := by decide +kernel
theorem dX5_turn_71 : decode cX5_turn 71 = .ok (.goto 13, 3) := by decide +kernel
theorem dX5_turn_74 : decode cX5_turn 74 = .ok (.new 104, 3) := by decide +kernel
theorem dX5_turn_77 : decode cX5_turn 77 = .ok (.dup, 1) := by decide +kernel
theorem dX5_turn_78 : decode cX5_turn 78 = .ok (.ldc 106, 2) := by decide +kernel
theorem dX5_turn_80 : decode cX5_turn 80 = .ok (.invokespecial 108, 3) := by decide +kernel
theorem dX5_turn_83 : decode cX5_turn 83 = .ok (.athrow, 1) := by decide +kernel
theorem dX5_turn_84 : decode cX5_turn 84 = .ok (.aload_n 0, 1) := by decide +kernel
theorem dX5_turn_85 : decode cX5_turn 85 = .ok (.invokevirtual 67, 3) := by decide +kernel
theorem dX5_turn_88 : decode cX5_turn 88 = .ok (.aload_n 0, 1) := by decide +kernel
theorem dX5_turn_89 : decode cX5_turn 89 = .ok (.getfield 26, 3) := by decide +kernel
theorem dX5_turn_92 : decode cX5_turn 92 = .ok (.invokevirtual 109, 3) := by decide +kernel
theorem dX5_turn_95 : decode cX5_turn 95 = .ok (.ireturn, 1) := by decide +kernel
set_option maxRecDepth 20000 in
theorem ggX5_back_X0_turnBackByShears : GoodIn wsX5_back wsX0_turnBackByShears := goodIn_r _ [8, 9, 10, 11, 7, 12, 13, 14, 15, 16, 17, 18, 19, 20, 21, 22, 23, 24, 25, 26, 27, 28, 29, 30, 31, 32, 33, 34, 35, 36, 37, 38, 39, 40, 41, 42, 43, 44, 45, 46, 47, 48, 49, 50, 51, 52, 53, 54, 55, 56, 57, 58, 59, 60, 61, 62, 63, 64, 65, 66, 67, 68, 69, 70, 71, 72, 73, 74, 75, 76, 77, 78, 79, 80, 81, 82, 83, 115, 116, 117, 118, 119, 120] (by decide +kernel) (by decide +kernel)
set_option maxRecDepth 20000 in
theorem gX5_back_X0_turnBackByShears : GoodIn wsX5_back (wsV RX5 113 RX0 yX0_turnBackByShears wsX0_turnBackByShears) := goodIn_app (goodIn_of _ (by decide +kernel)) ggX5_back_X0_turnBackByShears
set_option maxRecDepth 20000 in
theorem ggX5_back_X5_noteChange : GoodIn wsX5_back wsX5_noteChange := goodIn_r _ [88, 89, 90, 91, 92, 93, 94, 95, 96, 97, 98, 99, 100, 101, 102, 103, 104, 105, 106, 107, 108, 109, 110, 111, 112, 113, 114, 121, 122, 123, 124, 125, 115, 116, 117, 118, 119, 120, 126, 127, 128, 129, 130, 131, 132] (by decide +kernel) (by decide +kernel)
set_option maxRecDepth 20000 in
theorem gX5_back_X5_noteChange : GoodIn wsX5_back (wsV RX5 67 RX5 yX5_noteChange wsX5_noteChange) := goodIn_app (goodIn_of _ (by decide +kernel)) ggX5_back_X5_noteChange
theorem dX5_back_0 : decode cX5_back 0 = .ok (.aload_n 0, 1) := by decide +kernel
theorem dX5_back_1 : decode cX5_back 1 = .ok (.getfield 13, 3) := by decide +kernel
theorem dX5_back_4 : decode cX5_back 4 = .ok (.iconst 1, 1) := by decide +kernel
theorem dX5_back_5 : decode cX5_back 5 = .ok (.isub, 1) := by decide +kernel
theorem dX5_back_6 : decode cX5_back 6 = .ok (.istore_n 1, 1) := by decide +kernel
theorem dX5_back_7 : decode cX5_back 7 = .ok (.iload_n 1, 1) := by decide +kernel
theorem dX5_back_8 : decode cX5_back 8 = .ok (.ifCond .lt 12, 3) := by decide +kernel
theorem dX5_back_11 : decode cX5_back 11 = .ok (.iload_n 1, 1) := by decide +kernel
theorem dX5_back_12 : decode cX5_back 12 = .ok (.aload_n 0, 1) := by decide +kernel
theorem dX5_back_13 : decode cX5_back 13 = .ok (.getfield 9, 3) := by decide +kernel
theorem dX5_back_16 : decode cX5_back 16 = .ok (.arraylength, 1) := by decide +kernel
theorem dX5_back_17 : decode cX5_back 17 = .ok (.if_icmp .lt 5, 3) := by decide +kernel
theorem dX5_back_20 : decode cX5_back 20 = .ok (.iconst (-1), 1) := by decide +kernel
theorem dX5_back_21 : decode cX5_back 21 = .ok (.ireturn, 1) := by decide +kernel
theorem dX5_back_22 : decode cX5_back 22 = .ok (.aload_n 0, 1) := by decide +kernel
theorem dX5_back_23 : decode cX5_back 23 = .ok (.getfield 26, 3) := by decide +kernel
theorem dX5_back_26 : decode cX5_back 26 = .ok (.aload_n 0, 1) := by decide +kernel
theorem dX5_back_27 : decode cX5_back 27 = .ok (.getfield 9, 3) := by decide +kernel
theorem dX5_back_30 : decode cX5_back 30 = .ok (.iload_n 1, 1) := by decide +kernel
theorem dX5_back_31 : decode cX5_back 31 = .ok (.iaload, 1) := by decide +kernel
theorem dX5_back_32 : decode cX5_back 32 = .ok (.invokevirtual 113, 3) := by decide +kernel
theorem dX5_back_35 : decode cX5_back 35 = .ok (.aload_n 0, 1) := by decide +kernel
theorem dX5_back_36 : decode cX5_back 36 = .ok (.iload_n 1, 1) := by decide +kernel
theorem dX5_back_37 : decode cX5_back 37 = .ok (.putfield 13, 3) := by decide +kernel
theorem dX5_back_40 : decode cX5_back 40 = .ok (.aload_n 0, 1) := by decide +kernel
theorem dX5_back_41 : decode cX5_back 41 = .ok (.invokevirtual 67, 3) := by decide +kernel
theorem dX5_back_44 : decode cX5_back 44 = .ok (.aload_n 0, 1) := by decide +kernel
theorem dX5_back_45 : decode cX5_back 45 = .ok (.getfield 13, 3) := by decide +kernel
theorem dX5_back_48 : decode cX5_back 48 = .ok (.ireturn, 1) := by decide +kernel
set_option maxRecDepth 20000 in
theorem ggX5_crop_X5_checkSide : GoodIn wsX5_crop wsX5_checkSide := goodIn_ca (goodIn_r _ [5, 6, 7] (by decide +kernel) (by decide +kernel)) (goodIn_sub (fun _ h => List.mem_cons_of_mem _ (List.mem_append_right _ h)) (by decide +kernel))
set_option maxRecDepth 20000 in
theorem gX5_crop_X5_checkSide : GoodIn wsX5_crop (va_wsS RX5 116 yX5_checkSide wsX5_checkSide) := goodIn_app (goodIn_of _ (by decide +kernel)) ggX5_crop_X5_checkSide
set_option maxRecDepth 20000 in
theorem ggX5_crop_X4_cropAt : GoodIn wsX5_crop wsX4_cropAt := goodIn_r _ [12, 13, 14, 15, 16, 17, 18, 19, 20, 21, 22, 23, 24, 25, 26, 27, 28, 29, 30, 31, 32, 33, 34, 35, 36, 37, 38, 11, 39, 40, 41, 42, 43, 44, 45, 46, 47, 48, 49, 50, 51, 52, 53, 54, 55, 56, 57, 58, 59, 60, 61, 62, 63, 64, 65, 66, 67, 68, 69, 70, 71, 72, 73, 74, 81, 82, 83, 84, 85, 86, 87, 88, 89, 90, 91] (by decide +kernel) (by decide +kernel)
set_option maxRecDepth 20000 in
theorem gX5_crop_X4_cropAt : GoodIn wsX5_crop (wsV RX5 119 RX4 yX4_cropAt wsX4_cropAt) := goodIn_app (goodIn_of _ (by decide +kernel)) ggX5_crop_X4_cropAt
theorem dX5_crop_0 : decode cX5_crop 0 = .ok (.iload_n 1, 1) := by decide +kernel
theorem dX5_crop_1 : decode cX5_crop 1 = .ok (.invokestatic 116, 3) := by decide +kernel
theorem dX5_crop_4 : decode cX5_crop 4 = .ok (.aload_n 0, 1) := by decide +kernel
theorem dX5_crop_5 : decode cX5_crop 5 = .ok (.getfield 35, 3) := by decide +kernel
theorem dX5_crop_8 : decode cX5_crop 8 = .ok (.iload_n 1, 1) := by decide +kernel
theorem dX5_crop_9 : decode cX5_crop 9 = .ok (.invokevirtual 119, 3) := by decide +kernel
theorem dX5_crop_12 : decode cX5_crop 12 = .ok (.ireturn, 1) := by decide +kernel
set_option maxRecDepth 20000 in
theorem ggX5_size_X5_checkSide : GoodIn wsX5_size wsX5_checkSide := goodIn_ca (goodIn_r _ [5, 6, 7] (by decide +kernel) (by decide +kernel)) (goodIn_sub (fun _ h => List.mem_cons_of_mem _ (List.mem_append_right _ h)) (by decide +kernel))
set_option maxRecDepth 20000 in
theorem gX5_size_X5_checkSide : GoodIn wsX5_size (va_wsS RX5 116 yX5_checkSide wsX5_checkSide) := goodIn_app (goodIn_of _ (by decide +kernel)) ggX5_size_X5_checkSide
set_option maxRecDepth 20000 in
theorem ggX5_size_X4_end : GoodIn wsX5_size wsX4_end := goodIn_r _ [12, 13, 14, 15, 16, 23, 24, 25, 26, 27] (by decide +kernel) (by decide +kernel)
set_option maxRecDepth 20000 in
theorem gX5_size_X4_end : GoodIn wsX5_size (wsV RX5 122 RX4 yX4_end wsX4_end) := goodIn_app (goodIn_of _ (by decide +kernel)) ggX5_size_X4_end
theorem dX5_size_0 : decode cX5_size 0 = .ok (.iload_n 1, 1) := by decide +kernel
theorem dX5_size_1 : decode cX5_size 1 = .ok (.invokestatic 116, 3) := by decide +kernel
theorem dX5_size_4 : decode cX5_size 4 = .ok (.aload_n 0, 1) := by decide +kernel
theorem dX5_size_5 : decode cX5_size 5 = .ok (.getfield 35, 3) := by decide +kernel
theorem dX5_size_8 : decode cX5_size 8 = .ok (.iload_n 1, 1) := by decide +kernel
theorem dX5_size_9 : decode cX5_size 9 = .ok (.invokevirtual 122, 3) := by decide +kernel
theorem dX5_size_12 : decode cX5_size 12 = .ok (.ireturn, 1) := by decide +kernel
set_option maxRecDepth 20000 in
theorem ggX5_bands_X2_bandCount : GoodIn wsX5_bands wsX2_bandCount := goodIn_r _ [6, 7, 8, 9, 10, 11, 5, 12, 13, 14, 15, 16, 17, 18, 25, 26, 27, 28, 29, 30, 31] (by decide +kernel) (by decide +kernel)
set_option maxRecDepth 20000 in
theorem gX5_bands_X2_bandCount : GoodIn wsX5_bands (wsV RX5 125 RX2 yX2_bandCount wsX2_bandCount) := goodIn_app (goodIn_of _ (by decide +kernel)) ggX5_bands_X2_bandCount
theorem dX5_bands_0 : decode cX5_bands 0 = .ok (.aload_n 0, 1) := by decide +kernel
theorem dX5_bands_1 : decode cX5_bands 1 = .ok (.getfield 49, 3) := by decide +kernel
theorem dX5_bands_4 : decode cX5_bands 4 = .ok (.invokevirtual 125, 3) := by decide +kernel
theorem dX5_bands_7 : decode cX5_bands 7 = .ok (.ireturn, 1) := by decide +kernel
set_option maxRecDepth 20000 in
theorem ggX5_band_X5_checkBand : GoodIn wsX5_band wsX5_checkBand := goodIn_ca (goodIn_r _ [6, 7, 8, 1, 9, 10, 11, 12, 13, 14, 15, 16, 17, 18, 19, 20, 21, 22, 23, 24, 25, 45, 46, 47, 48, 49, 50, 51, 52, 53, 54, 55, 56, 57] (by decide +kernel) (by decide +kernel)) (goodIn_sub (fun _ h => List.mem_cons_of_mem _ (List.mem_append_right _ h)) (by decide +kernel))
set_option maxRecDepth 20000 in
theorem gX5_band_X5_checkBand : GoodIn wsX5_band (wsV RX5 128 RX5 yX5_checkBand wsX5_checkBand) := goodIn_app (goodIn_of _ (by decide +kernel)) ggX5_band_X5_checkBand
set_option maxRecDepth 20000 in
theorem ggX5_band_X2_firstOfBand : GoodIn wsX5_band wsX2_firstOfBand := goodIn_r _ [29, 14, 15, 16, 17, 18, 12, 19, 20, 21, 22, 23, 24, 25, 51, 52, 53, 54, 55, 56, 57] (by decide +kernel) (by decide +kernel)
set_option maxRecDepth 20000 in
theorem gX5_band_X2_firstOfBand : GoodIn wsX5_band (wsV RX5 131 RX2 yX2_firstOfBand wsX2_firstOfBand) := goodIn_app (goodIn_of _ (by decide +kernel)) ggX5_band_X2_firstOfBand
set_option maxRecDepth 20000 in
theorem ggX5_band_X2_behindBand : GoodIn wsX5_band wsX2_behindBand := goodIn_r _ [33, 14, 15, 20, 21, 22, 23, 24, 25, 51, 52, 53, 54, 55, 56, 57] (by decide +kernel) (by decide +kernel)
set_option maxRecDepth 20000 in
theorem gX5_band_X2_behindBand : GoodIn wsX5_band (wsV RX5 134 RX2 yX2_behindBand wsX2_behindBand) := goodIn_app (goodIn_of _ (by decide +kernel)) ggX5_band_X2_behindBand
set_option maxRecDepth 20000 in
theorem ggX5_band_X2_samplesBetween : GoodIn wsX5_band wsX2_samplesBetween := goodIn_r _ [37, 14, 20, 21, 22, 23, 24, 25, 38, 39, 40, 41, 42, 43, 44, 51, 52, 53, 54, 55, 56, 57] (by decide +kernel) (by decide +kernel)
set_option maxRecDepth 20000 in
theorem gX5_band_X2_samplesBetween : GoodIn wsX5_band (wsV RX5 137 RX2 yX2_samplesBetween wsX2_samplesBetween) := goodIn_app (goodIn_of _ (by decide +kernel)) ggX5_band_X2_samplesBetween
theorem dX5_band_0 : decode cX5_band 0 = .ok (.aload_n 0, 1) := by decide +kernel
theorem dX5_band_1 : decode cX5_band 1 = .ok (.iload_n 1, 1) := by decide +kernel
theorem dX5_band_2 : decode cX5_band 2 = .ok (.invokevirtual 128, 3) := by decide +kernel
theorem dX5_band_5 : decode cX5_band 5 = .ok (.aload_n 0, 1) := by decide +kernel
theorem dX5_band_6 : decode cX5_band 6 = .ok (.getfield 49, 3) := by decide +kernel
theorem dX5_band_9 : decode cX5_band 9 = .ok (.iload_n 1, 1) := by decide +kernel
theorem dX5_band_10 : decode cX5_band 10 = .ok (.invokevirtual 131, 3) := by decide +kernel
theorem dX5_band_13 : decode cX5_band 13 = .ok (.istore_n 3, 1) := by decide +kernel
theorem dX5_band_14 : decode cX5_band 14 = .ok (.aload_n 0, 1) := by decide +kernel
theorem dX5_band_15 : decode cX5_band 15 = .ok (.getfield 49, 3) := by decide +kernel
theorem dX5_band_18 : decode cX5_band 18 = .ok (.iload_n 3, 1) := by decide +kernel
theorem dX5_band_19 : decode cX5_band 19 = .ok (.invokevirtual 134, 3) := by decide +kernel
theorem dX5_band_22 : decode cX5_band 22 = .ok (.istore 4, 2) := by decide +kernel
theorem dX5_band_24 : decode cX5_band 24 = .ok (.iload_n 2, 1) := by decide +kernel
theorem dX5_band_25 : decode cX5_band 25 = .ok (.tableswitch 45 0 2 #[27, 29, 34], 27) := by decide +kernel
theorem dX5_band_52 : decode cX5_band 52 = .ok (.iload_n 3, 1) := by decide +kernel
theorem dX5_band_53 : decode cX5_band 53 = .ok (.ireturn, 1) := by decide +kernel
theorem dX5_band_54 : decode cX5_band 54 = .ok (.iload 4, 2) := by decide +kernel
theorem dX5_band_56 : decode cX5_band 56 = .ok (.iload_n 3, 1) := by decide +kernel
theorem dX5_band_57 : decode cX5_band 57 = .ok (.isub, 1) := by decide +kernel
theorem dX5_band_58 : decode cX5_band 58 = .ok (.ireturn, 1) := by decide +kernel
theorem dX5_band_59 : decode cX5_band 59 = .ok (.aload_n 0, 1) := by decide +kernel
theorem dX5_band_60 : decode cX5_band 60 = .ok (.getfield 49, 3) := by decide +kernel
theorem dX5_band_63 : decode cX5_band 63 = .ok (.iload_n 3, 1) := by decide +kernel
theorem dX5_band_64 : decode cX5_band 64 = .ok (.iload 4, 2) := by decide +kernel
theorem dX5_band_66 : decode cX5_band 66 = .ok (.invokevirtual 137, 3) := by decide +kernel
theorem dX5_band_69 : decode cX5_band 69 = .ok (.ireturn, 1) := by decide +kernel
theorem dX5_band_70 : decode cX5_band 70 = .ok (.iconst (-1), 1) := by decide +kernel
theorem dX5_band_71 : decode cX5_band 71 = .ok (.ireturn, 1) := by decide +kernel
set_option maxRecDepth 20000 in
theorem ggX5_line_X5_checkBand : GoodIn wsX5_line wsX5_checkBand := goodIn_ca (goodIn_r _ [11, 12, 13, 6, 14, 15, 16, 17, 18, 19, 20, 21, 22, 23, 24, 25, 26, 27, 28, 29, 30, 64, 65, 66, 67, 68, 69, 70, 71, 72, 73, 74, 75, 76] (by decide +kernel) (by decide +kernel)) (goodIn_sub (fun _ h => List.mem_cons_of_mem _ (List.mem_append_right _ h)) (by decide +kernel))
set_option maxRecDepth 20000 in
theorem gX5_line_X5_checkBand : GoodIn wsX5_line (wsV RX5 128 RX5 yX5_checkBand wsX5_checkBand) := goodIn_app (goodIn_of _ (by decide +kernel)) ggX5_line_X5_checkBand
set_option maxRecDepth 20000 in
theorem ggX5_line_X2_firstOfBand : GoodIn wsX5_line wsX2_firstOfBand := goodIn_r _ [34, 19, 20, 21, 22, 23, 17, 24, 25, 26, 27, 28, 29, 30, 70, 71, 72, 73, 74, 75, 76] (by decide +kernel) (by decide +kernel)
set_option maxRecDepth 20000 in
theorem gX5_line_X2_firstOfBand : GoodIn wsX5_line (wsV RX5 131 RX2 yX2_firstOfBand wsX2_firstOfBand) := goodIn_app (goodIn_of _ (by decide +kernel)) ggX5_line_X2_firstOfBand
set_option maxRecDepth 20000 in
theorem ggX5_line_X2_baseLineAt : GoodIn wsX5_line wsX2_baseLineAt := goodIn_r _ [38, 19, 39, 40, 41, 42, 17, 43, 20, 25, 26, 27, 28, 29, 30, 44, 45, 46, 47, 48, 49, 50, 51, 52, 53, 54, 55, 56, 57, 58, 70, 71, 72, 73, 74, 75, 76] (by decide +kernel) (by decide +kernel)
set_option maxRecDepth 20000 in
theorem gX5_line_X2_baseLineAt : GoodIn wsX5_line (wsV RX5 149 RX2 yX2_baseLineAt wsX2_baseLineAt) := goodIn_app (goodIn_of _ (by decide +kernel)) ggX5_line_X2_baseLineAt
set_option maxRecDepth 20000 in
theorem ggX5_line_X1_whole : GoodIn wsX5_line wsX1_whole := goodIn_r _ [62, 63] (by decide +kernel) (by decide +kernel)
set_option maxRecDepth 20000 in
theorem gX5_line_X1_whole : GoodIn wsX5_line (va_wsS RX5 153 yX1_whole wsX1_whole) := goodIn_app (goodIn_of _ (by decide +kernel)) ggX5_line_X1_whole
theorem dX5_line_0 : decode cX5_line 0 = .ok (.aload_n 0, 1) := by decide +kernel
theorem dX5_line_1 : decode cX5_line 1 = .ok (.iload_n 1, 1) := by decide +kernel
theorem dX5_line_2 : decode cX5_line 2 = .ok (.invokevirtual 128, 3) := by decide +kernel
theorem dX5_line_5 : decode cX5_line 5 = .ok (.dload_n 2, 1) := by decide +kernel
theorem dX5_line_6 : decode cX5_line 6 = .ok (.ldc2_w 141, 3) := by decide +kernel
theorem dX5_line_9 : decode cX5_line 9 = .ok (.dcmp .l, 1) := by decide +kernel
theorem dX5_line_10 : decode cX5_line 10 = .ok (.ifCond .lt 11, 3) := by decide +kernel
theorem dX5_line_13 : decode cX5_line 13 = .ok (.dload_n 2, 1) := by decide +kernel
theorem dX5_line_14 : decode cX5_line 14 = .ok (.ldc2_w 143, 3) := by decide +kernel
theorem dX5_line_17 : decode cX5_line 17 = .ok (.dcmp .g, 1) := by decide +kernel
theorem dX5_line_18 : decode cX5_line 18 = .ok (.ifCond .le 13, 3) := by decide +kernel
theorem dX5_line_21 : decode cX5_line 21 = .ok (.new 56, 3) := by decide +kernel
theorem dX5_line_24 : decode cX5_line 24 = .ok (.dup, 1) := by decide +kernel
theorem dX5_line_25 : decode cX5_line 25 = .ok (.ldc 145, 2) := by decide +kernel
theorem dX5_line_27 : decode cX5_line 27 = .ok (.invokespecial 60, 3) := by decide +kernel
theorem dX5_line_30 : decode cX5_line 30 = .ok (.athrow, 1) := by decide +kernel
theorem dX5_line_31 : decode cX5_line 31 = .ok (.ldc2_w 147, 3) := by decide +kernel
theorem dX5_line_34 : decode cX5_line 34 = .ok (.aload_n 0, 1) := by decide +kernel
theorem dX5_line_35 : decode cX5_line 35 = .ok (.getfield 49, 3) := by decide +kernel
theorem dX5_line_38 : decode cX5_line 38 = .ok (.aload_n 0, 1) := by decide +kernel
theorem dX5_line_39 : decode cX5_line 39 = .ok (.getfield 49, 3) := by decide +kernel
theorem dX5_line_42 : decode cX5_line 42 = .ok (.iload_n 1, 1) := by decide +kernel
theorem dX5_line_43 : decode cX5_line 43 = .ok (.invokevirtual 131, 3) := by decide +kernel
theorem dX5_line_46 : decode cX5_line 46 = .ok (.dload_n 2, 1) := by decide +kernel
theorem dX5_line_47 : decode cX5_line 47 = .ok (.invokevirtual 149, 3) := by decide +kernel
theorem dX5_line_50 : decode cX5_line 50 = .ok (.dmul, 1) := by decide +kernel
theorem dX5_line_51 : decode cX5_line 51 = .ok (.invokestatic 153, 3) := by decide +kernel
theorem dX5_line_54 : decode cX5_line 54 = .ok (.ireturn, 1) := by decide +kernel
set_option maxRecDepth 20000 in
theorem ggX5_upside_X2_lowerMinusUpper : GoodIn wsX5_upside wsX2_lowerMinusUpper := goodIn_r _ [6, 7, 8, 9, 10, 11, 5, 12, 13, 14, 15, 16, 17, 18, 19, 20, 21, 22, 23, 24, 25, 26, 27, 28, 29, 30, 31, 32, 33, 40, 41, 42, 43, 44, 45, 46] (by decide +kernel) (by decide +kernel)
set_option maxRecDepth 20000 in
theorem gX5_upside_X2_lowerMinusUpper : GoodIn wsX5_upside (wsV RX5 159 RX2 yX2_lowerMinusUpper wsX2_lowerMinusUpper) := goodIn_app (goodIn_of _ (by decide +kernel)) ggX5_upside_X2_lowerMinusUpper
theorem dX5_upside_0 : decode cX5_upside 0 = .ok (.aload_n 0, 1) := by decide +kernel
theorem dX5_upside_1 : decode cX5_upside 1 = .ok (.getfield 49, 3) := by decide +kernel
theorem dX5_upside_4 : decode cX5_upside 4 = .ok (.invokevirtual 159, 3) := by decide +kernel
theorem dX5_upside_7 : decode cX5_upside 7 = .ok (.ifCond .le 7, 3) := by decide +kernel
theorem dX5_upside_10 : decode cX5_upside 10 = .ok (.iconst 1, 1) := by decide +kernel
theorem dX5_upside_11 : decode cX5_upside 11 = .ok (.goto 4, 3) := by decide +kernel
theorem dX5_upside_14 : decode cX5_upside 14 = .ok (.iconst 0, 1) := by decide +kernel
theorem dX5_upside_15 : decode cX5_upside 15 = .ok (.ireturn, 1) := by decide +kernel
set_option maxRecDepth 20000 in
theorem ggX5_told_X0_samplesOn : GoodIn wsX5_told wsX0_samplesOn := goodIn_r _ [9, 10, 11, 12, 13, 8, 14, 15, 16, 17, 18, 19, 20, 21, 22, 37, 38, 39, 40, 41, 42] (by decide +kernel) (by decide +kernel)
set_option maxRecDepth 20000 in
theorem gX5_told_X0_samplesOn : GoodIn wsX5_told (wsV RX5 109 RX0 yX0_samplesOn wsX0_samplesOn) := goodIn_app (goodIn_of _ (by decide +kernel)) ggX5_told_X0_samplesOn
set_option maxRecDepth 20000 in
theorem ggX5_told_X0_runEnds : GoodIn wsX5_told wsX0_runEnds := goodIn_r _ [26, 10, 27, 28, 29, 8, 30, 11, 12, 13, 14, 15, 16, 17, 18, 19, 20, 21, 22, 37, 38, 39, 40, 41, 42] (by decide +kernel) (by decide +kernel)
set_option maxRecDepth 20000 in
theorem gX5_told_X0_runEnds : GoodIn wsX5_told (wsV RX5 168 RX0 yX0_runEnds wsX0_runEnds) := goodIn_app (goodIn_of _ (by decide +kernel)) ggX5_told_X0_runEnds
theorem dX5_told_0 : decode cX5_told 0 = .ok (.iload_n 1, 1) := by decide +kernel
theorem dX5_told_1 : decode cX5_told 1 = .ok (.tableswitch 72 0 4 #[35, 43, 51, 59, 67], 35) := by decide +kernel
theorem dX5_told_36 : decode cX5_told 36 = .ok (.aload_n 0, 1) := by decide +kernel
theorem dX5_told_37 : decode cX5_told 37 = .ok (.getfield 26, 3) := by decide +kernel
theorem dX5_told_40 : decode cX5_told 40 = .ok (.getfield 162, 3) := by decide +kernel
theorem dX5_told_43 : decode cX5_told 43 = .ok (.ireturn, 1) := by decide +kernel
theorem dX5_told_44 : decode cX5_told 44 = .ok (.aload_n 0, 1) := by decide +kernel
theorem dX5_told_45 : decode cX5_told 45 = .ok (.getfield 26, 3) := by decide +kernel
theorem dX5_told_48 : decode cX5_told 48 = .ok (.getfield 165, 3) := by decide +kernel
theorem dX5_told_51 : decode cX5_told 51 = .ok (.ireturn, 1) := by decide +kernel
theorem dX5_told_52 : decode cX5_told 52 = .ok (.aload_n 0, 1) := by decide +kernel
theorem dX5_told_53 : decode cX5_told 53 = .ok (.getfield 26, 3) := by decide +kernel
theorem dX5_told_56 : decode cX5_told 56 = .ok (.invokevirtual 109, 3) := by decide +kernel
theorem dX5_told_59 : decode cX5_told 59 = .ok (.ireturn, 1) := by decide +kernel
theorem dX5_told_60 : decode cX5_told 60 = .ok (.aload_n 0, 1) := by decide +kernel
theorem dX5_told_61 : decode cX5_told 61 = .ok (.getfield 26, 3) := by decide +kernel
theorem dX5_told_64 : decode cX5_told 64 = .ok (.invokevirtual 168, 3) := by decide +kernel
theorem dX5_told_67 : decode cX5_told 67 = .ok (.ireturn, 1) := by decide +kernel
theorem dX5_told_68 : decode cX5_told 68 = .ok (.aload_n 0, 1) := by decide +kernel
theorem dX5_told_69 : decode cX5_told 69 = .ok (.getfield 13, 3) := by decide +kernel
theorem dX5_told_72 : decode cX5_told 72 = .ok (.ireturn, 1) := by decide +kernel
theorem dX5_told_73 : decode cX5_told 73 = .ok (.iconst (-1), 1) := by decide +kernel
theorem dX5_told_74 : decode cX5_told 74 = .ok (.ireturn, 1) := by decide +kernel
set_option maxRecDepth 20000 in
theorem ggX5_clear_X0_wipe : GoodIn wsX5_clear wsX0_wipe := goodIn_r _ [7, 8, 9, 10, 11, 6, 12, 13, 45, 46, 47, 48, 49, 50] (by decide +kernel) (by decide +kernel)
set_option maxRecDepth 20000 in
theorem gX5_clear_X0_wipe : GoodIn wsX5_clear (wsV RX5 171 RX0 yX0_wipe wsX0_wipe) := goodIn_app (goodIn_of _ (by decide +kernel)) ggX5_clear_X0_wipe
set_option maxRecDepth 20000 in
theorem ggX5_clear_X5_noteChange : GoodIn wsX5_clear wsX5_noteChange := goodIn_r _ [18, 19, 20, 21, 22, 23, 24, 25, 26, 27, 28, 29, 30, 31, 32, 33, 34, 35, 36, 37, 38, 39, 40, 41, 42, 43, 44, 51, 52, 53, 54, 55, 45, 46, 47, 48, 49, 50, 56, 57, 58, 59, 60, 61, 62] (by decide +kernel) (by decide +kernel)
set_option maxRecDepth 20000 in
theorem gX5_clear_X5_noteChange : GoodIn wsX5_clear (wsV RX5 67 RX5 yX5_noteChange wsX5_noteChange) := goodIn_app (goodIn_of _ (by decide +kernel)) ggX5_clear_X5_noteChange
theorem dX5_clear_0 : decode cX5_clear 0 = .ok (.aload_n 0, 1) := by decide +kernel
theorem dX5_clear_1 : decode cX5_clear 1 = .ok (.getfield 26, 3) := by decide +kernel
theorem dX5_clear_4 : decode cX5_clear 4 = .ok (.invokevirtual 171, 3) := by decide +kernel
theorem dX5_clear_7 : decode cX5_clear 7 = .ok (.aload_n 0, 1) := by decide +kernel
theorem dX5_clear_8 : decode cX5_clear 8 = .ok (.iconst 0, 1) := by decide +kernel
theorem dX5_clear_9 : decode cX5_clear 9 = .ok (.putfield 13, 3) := by decide +kernel
theorem dX5_clear_12 : decode cX5_clear 12 = .ok (.aload_n 0, 1) := by decide +kernel
theorem dX5_clear_13 : decode cX5_clear 13 = .ok (.invokevirtual 67, 3) := by decide +kernel
theorem dX5_clear_16 : decode cX5_clear 16 = .ok (.return_, 1) := by decide +kernel
theorem dX5_nearestSide_0 : decode cX5_nearestSide 0 = .ok (.iconst 1, 1) := by decide +kernel
theorem dX5_nearestSide_1 : decode cX5_nearestSide 1 = .ok (.bipush 24, 2) := by decide +kernel
theorem dX5_nearestSide_3 : decode cX5_nearestSide 3 = .ok (.iload_n 0, 1) := by decide +kernel
theorem dX5_nearestSide_4 : decode cX5_nearestSide 4 = .ok (.invokestatic 174, 3) := by decide +kernel
theorem dX5_nearestSide_7 : decode cX5_nearestSide 7 = .ok (.invokestatic 179, 3) := by decide +kernel
theorem dX5_nearestSide_10 : decode cX5_nearestSide 10 = .ok (.ireturn, 1) := by decide +kernel
set_option maxRecDepth 20000 in
theorem ggX5_noteChange_X4_open : GoodIn wsX5_noteChange wsX4_open := goodIn_r _ [7, 8, 9, 10, 11, 12, 13, 14, 27, 28, 29, 30, 31, 32, 33, 34, 35, 36, 37] (by decide +kernel) (by decide +kernel)
set_option maxRecDepth 20000 in
theorem gX5_noteChange_X4_open : GoodIn wsX5_noteChange (wsV RX5 182 RX4 yX4_open wsX4_open) := goodIn_app (goodIn_of _ (by decide +kernel)) ggX5_noteChange_X4_open
set_option maxRecDepth 20000 in
theorem ggX5_noteChange_X3_forget : GoodIn wsX5_noteChange wsX3_forget := goodIn_r _ [19, 20, 38, 39, 40, 41, 42, 43, 44] (by decide +kernel) (by decide +kernel)
set_option maxRecDepth 20000 in
theorem gX5_noteChange_X3_forget : GoodIn wsX5_noteChange (wsV RX5 185 RX3 yX3_forget wsX3_forget) := goodIn_app (goodIn_of _ (by decide +kernel)) ggX5_noteChange_X3_forget
theorem dX5_noteChange_0 : decode cX5_noteChange 0 = .ok (.aload_n 0, 1) := by decide +kernel
theorem dX5_noteChange_1 : decode cX5_noteChange 1 = .ok (.getfield 35, 3) := by decide +kernel
theorem dX5_noteChange_4 : decode cX5_noteChange 4 = .ok (.invokevirtual 182, 3) := by decide +kernel
theorem dX5_noteChange_7 : decode cX5_noteChange 7 = .ok (.aload_n 0, 1) := by decide +kernel
theorem dX5_noteChange_8 : decode cX5_noteChange 8 = .ok (.getfield 42, 3) := by decide +kernel
theorem dX5_noteChange_11 : decode cX5_noteChange 11 = .ok (.invokevirtual 185, 3) := by decide +kernel
theorem dX5_noteChange_14 : decode cX5_noteChange 14 = .ok (.return_, 1) := by decide +kernel
set_option maxRecDepth 20000 in
theorem ggX5_checkSample_X0_has : GoodIn wsX5_checkSample wsX0_has := goodIn_r _ [8, 9, 10, 17, 18, 19, 20, 21, 22] (by decide +kernel) (by decide +kernel)
set_option maxRecDepth 20000 in
theorem gX5_checkSample_X0_has : GoodIn wsX5_checkSample (wsV RX5 188 RX0 yX0_has wsX0_has) := goodIn_app (goodIn_of _ (by decide +kernel)) ggX5_checkSample_X0_has
theorem dX5_checkSample_0 : decode cX5_checkSample 0 = .ok (.aload_n 0, 1) := by decide +kernel
theorem dX5_checkSample_1 : decode cX5_checkSample 1 = .ok (.getfield 26, 3) := by decide +kernel
theorem dX5_checkSample_4 : decode cX5_checkSample 4 = .ok (.iload_n 1, 1) := by decide +kernel
theorem dX5_checkSample_5 : decode cX5_checkSample 5 = .ok (.iload_n 2, 1) := by decide +kernel
theorem dX5_checkSample_6 : decode cX5_checkSample 6 = .ok (.invokevirtual 188, 3) := by decide +kernel
theorem dX5_checkSample_9 : decode cX5_checkSample 9 = .ok (.ifCond .ne 13, 3) := by decide +kernel
theorem dX5_checkSample_12 : decode cX5_checkSample 12 = .ok (.new 191, 3) := by decide +kernel
theorem dX5_checkSample_15 : decode cX5_checkSample 15 = .ok (.dup, 1) := by decide +kernel
theorem dX5_checkSample_16 : decode cX5_checkSample 16 = .ok (.ldc 193, 2) := by decide +kernel
theorem dX5_checkSample_18 : decode cX5_checkSample 18 = .ok (.invokespecial 195, 3) := by decide +kernel
theorem dX5_checkSample_21 : decode cX5_checkSample 21 = .ok (.athrow, 1) := by decide +kernel
theorem dX5_checkSample_22 : decode cX5_checkSample 22 = .ok (.return_, 1) := by decide +kernel
theorem dX5_checkSide_0 : decode cX5_checkSide 0 = .ok (.iload_n 0, 1) := by decide +kernel
theorem dX5_checkSide_1 : decode cX5_checkSide 1 = .ok (.ifCond .lt 8, 3) := by decide +kernel
theorem dX5_checkSide_4 : decode cX5_checkSide 4 = .ok (.iload_n 0, 1) := by decide +kernel
theorem dX5_checkSide_5 : decode cX5_checkSide 5 = .ok (.iconst 3, 1) := by decide +kernel
theorem dX5_checkSide_6 : decode cX5_checkSide 6 = .ok (.if_icmp .le 13, 3) := by decide +kernel
theorem dX5_checkSide_9 : decode cX5_checkSide 9 = .ok (.new 191, 3) := by decide +kernel
theorem dX5_checkSide_12 : decode cX5_checkSide 12 = .ok (.dup, 1) := by decide +kernel
theorem dX5_checkSide_13 : decode cX5_checkSide 13 = .ok (.ldc 196, 2) := by decide +kernel
theorem dX5_checkSide_15 : decode cX5_checkSide 15 = .ok (.invokespecial 195, 3) := by decide +kernel
theorem dX5_checkSide_18 : decode cX5_checkSide 18 = .ok (.athrow, 1) := by decide +kernel
theorem dX5_checkSide_19 : decode cX5_checkSide 19 = .ok (.return_, 1) := by decide +kernel
set_option maxRecDepth 20000 in
theorem ggX5_checkBand_X2_bandCount : GoodIn wsX5_checkBand wsX2_bandCount := goodIn_r _ [8, 9, 10, 11, 12, 13, 7, 14, 15, 16, 17, 18, 19, 20, 27, 28, 29, 30, 31, 32, 33] (by decide +kernel) (by decide +kernel)
set_option maxRecDepth 20000 in
theorem gX5_checkBand_X2_bandCount : GoodIn wsX5_checkBand (wsV RX5 125 RX2 yX2_bandCount wsX2_bandCount) := goodIn_app (goodIn_of _ (by decide +kernel)) ggX5_checkBand_X2_bandCount
theorem dX5_checkBand_0 : decode cX5_checkBand 0 = .ok (.iload_n 1, 1) := by decide +kernel
theorem dX5_checkBand_1 : decode cX5_checkBand 1 = .ok (.ifCond .lt 14, 3) := by decide +kernel
theorem dX5_checkBand_4 : decode cX5_checkBand 4 = .ok (.iload_n 1, 1) := by decide +kernel
theorem dX5_checkBand_5 : decode cX5_checkBand 5 = .ok (.aload_n 0, 1) := by decide +kernel
theorem dX5_checkBand_6 : decode cX5_checkBand 6 = .ok (.getfield 49, 3) := by decide +kernel
theorem dX5_checkBand_9 : decode cX5_checkBand 9 = .ok (.invokevirtual 125, 3) := by decide +kernel
theorem dX5_checkBand_12 : decode cX5_checkBand 12 = .ok (.if_icmp .lt 13, 3) := by decide +kernel
theorem dX5_checkBand_15 : decode cX5_checkBand 15 = .ok (.new 191, 3) := by decide +kernel
theorem dX5_checkBand_18 : decode cX5_checkBand 18 = .ok (.dup, 1) := by decide +kernel
theorem dX5_checkBand_19 : decode cX5_checkBand 19 = .ok (.ldc 198, 2) := by decide +kernel
theorem dX5_checkBand_21 : decode cX5_checkBand 21 = .ok (.invokespecial 195, 3) := by decide +kernel
theorem dX5_checkBand_24 : decode cX5_checkBand 24 = .ok (.athrow, 1) := by decide +kernel
theorem dX5_checkBand_25 : decode cX5_checkBand 25 = .ok (.return_, 1) := by decide +kernel
theorem dX5_checkAngle_0 : decode cX5_checkAngle 0 = .ok (.iload_n 0, 1) := by decide +kernel
theorem dX5_checkAngle_1 : decode cX5_checkAngle 1 = .ok (.sipush (-2000), 3) := by decide +kernel
theorem dX5_checkAngle_4 : decode cX5_checkAngle 4 = .ok (.if_icmp .lt 10, 3) := by decide +kernel
theorem dX5_checkAngle_7 : decode cX5_checkAngle 7 = .ok (.iload_n 0, 1) := by decide +kernel
theorem dX5_checkAngle_8 : decode cX5_checkAngle 8 = .ok (.sipush 2000, 3) := by decide +kernel
theorem dX5_checkAngle_11 : decode cX5_checkAngle 11 = .ok (.if_icmp .le 13, 3) := by decide +kernel
theorem dX5_checkAngle_14 : decode cX5_checkAngle 14 = .ok (.new 56, 3) := by decide +kernel
theorem dX5_checkAngle_17 : decode cX5_checkAngle 17 = .ok (.dup, 1) := by decide +kernel
theorem dX5_checkAngle_18 : decode cX5_checkAngle 18 = .ok (.ldc 200, 2) := by decide +kernel
theorem dX5_checkAngle_20 : decode cX5_checkAngle 20 = .ok (.invokespecial 60, 3) := by decide +kernel
theorem dX5_checkAngle_23 : decode cX5_checkAngle 23 = .ok (.athrow, 1) := by decide +kernel
theorem dX5_checkAngle_24 : decode cX5_checkAngle 24 = .ok (.return_, 1) := by decide +kernel
set_option maxRecDepth 20000 in
theorem ggX5_checkAsked_X3_isAsked : GoodIn wsX5_checkAsked wsX3_isAsked := goodIn_r _ [8, 9, 16, 17, 18, 19, 20, 21, 22] (by decide +kernel) (by decide +kernel)
set_option maxRecDepth 20000 in
theorem gX5_checkAsked_X3_isAsked : GoodIn wsX5_checkAsked (wsV RX5 202 RX3 yX3_isAsked wsX3_isAsked) := goodIn_app (goodIn_of _ (by decide +kernel)) ggX5_checkAsked_X3_isAsked
theorem dX5_checkAsked_0 : decode cX5_checkAsked 0 = .ok (.aload_n 0, 1) := by decide +kernel
theorem dX5_checkAsked_1 : decode cX5_checkAsked 1 = .ok (.getfield 42, 3) := by decide +kernel
theorem dX5_checkAsked_4 : decode cX5_checkAsked 4 = .ok (.invokevirtual 202, 3) := by decide +kernel
theorem dX5_checkAsked_7 : decode cX5_checkAsked 7 = .ok (.ifCond .ne 13, 3) := by decide +kernel
theorem dX5_checkAsked_10 : decode cX5_checkAsked 10 = .ok (.new 205, 3) := by decide +kernel
theorem dX5_checkAsked_13 : decode cX5_checkAsked 13 = .ok (.dup, 1) := by decide +kernel
theorem dX5_checkAsked_14 : decode cX5_checkAsked 14 = .ok (.ldc 207, 2) := by decide +kernel
theorem dX5_checkAsked_16 : decode cX5_checkAsked 16 = .ok (.invokespecial 209, 3) := by decide +kernel
theorem dX5_checkAsked_19 : decode cX5_checkAsked 19 = .ok (.athrow, 1) := by decide +kernel
theorem dX5_checkAsked_20 : decode cX5_checkAsked 20 = .ok (.return_, 1) := by decide +kernel
