theorem dX4_init_0 : decode cX4_init 0 = .ok (.aload_n 0, 1) := by decide +kernel
theorem dX4_init_1 : decode cX4_init 1 = .ok (.invokespecial 1, 3) := by decide +kernel
theorem dX4_init_4 : decode cX4_init 4 = .ok (.aload_n 0, 1) := by decide +kernel
theorem dX4_init_5 : decode cX4_init 5 = .ok (.sipush 192, 3) := by decide +kernel
theorem dX4_init_8 : decode cX4_init 8 = .ok (.newarray .int, 2) := by decide +kernel
theorem dX4_init_10 : decode cX4_init 10 = .ok (.putfield 7, 3) := by decide +kernel
theorem dX4_init_13 : decode cX4_init 13 = .ok (.aload_n 0, 1) := by decide +kernel
theorem dX4_init_14 : decode cX4_init 14 = .ok (.sipush 192, 3) := by decide +kernel
theorem dX4_init_17 : decode cX4_init 17 = .ok (.newarray .int, 2) := by decide +kernel
theorem dX4_init_19 : decode cX4_init 19 = .ok (.putfield 13, 3) := by decide +kernel
theorem dX4_init_22 : decode cX4_init 22 = .ok (.aload_n 0, 1) := by decide +kernel
theorem dX4_init_23 : decode cX4_init 23 = .ok (.iconst 2, 1) := by decide +kernel
theorem dX4_init_24 : decode cX4_init 24 = .ok (.newarray .boolean, 2) := by decide +kernel
theorem dX4_init_26 : decode cX4_init 26 = .ok (.putfield 16, 3) := by decide +kernel
theorem dX4_init_29 : decode cX4_init 29 = .ok (.aload_n 0, 1) := by decide +kernel
theorem dX4_init_30 : decode cX4_init 30 = .ok (.sipush 384, 3) := by decide +kernel
theorem dX4_init_33 : decode cX4_init 33 = .ok (.newarray .int, 2) := by decide +kernel
theorem dX4_init_35 : decode cX4_init 35 = .ok (.putfield 20, 3) := by decide +kernel
theorem dX4_init_38 : decode cX4_init 38 = .ok (.aload_n 0, 1) := by decide +kernel
theorem dX4_init_39 : decode cX4_init 39 = .ok (.sipush 224, 3) := by decide +kernel
theorem dX4_init_42 : decode cX4_init 42 = .ok (.newarray .int, 2) := by decide +kernel
theorem dX4_init_44 : decode cX4_init 44 = .ok (.putfield 23, 3) := by decide +kernel
theorem dX4_init_47 : decode cX4_init 47 = .ok (.aload_n 0, 1) := by decide +kernel
theorem dX4_init_48 : decode cX4_init 48 = .ok (.iconst 2, 1) := by decide +kernel
theorem dX4_init_49 : decode cX4_init 49 = .ok (.newarray .int, 2) := by decide +kernel
theorem dX4_init_51 : decode cX4_init 51 = .ok (.putfield 26, 3) := by decide +kernel
theorem dX4_init_54 : decode cX4_init 54 = .ok (.aload_n 0, 1) := by decide +kernel
theorem dX4_init_55 : decode cX4_init 55 = .ok (.sipush 224, 3) := by decide +kernel
theorem dX4_init_58 : decode cX4_init 58 = .ok (.newarray .int, 2) := by decide +kernel
theorem dX4_init_60 : decode cX4_init 60 = .ok (.putfield 29, 3) := by decide +kernel
theorem dX4_init_63 : decode cX4_init 63 = .ok (.aload_n 0, 1) := by decide +kernel
theorem dX4_init_64 : decode cX4_init 64 = .ok (.iconst 2, 1) := by decide +kernel
theorem dX4_init_65 : decode cX4_init 65 = .ok (.newarray .int, 2) := by decide +kernel
theorem dX4_init_67 : decode cX4_init 67 = .ok (.putfield 32, 3) := by decide +kernel
theorem dX4_init_70 : decode cX4_init 70 = .ok (.aload_n 0, 1) := by decide +kernel
theorem dX4_init_71 : decode cX4_init 71 = .ok (.bipush 24, 2) := by decide +kernel
theorem dX4_init_73 : decode cX4_init 73 = .ok (.newarray .int, 2) := by decide +kernel
theorem dX4_init_75 : decode cX4_init 75 = .ok (.putfield 35, 3) := by decide +kernel
theorem dX4_init_78 : decode cX4_init 78 = .ok (.aload_n 0, 1) := by decide +kernel
theorem dX4_init_79 : decode cX4_init 79 = .ok (.iconst 2, 1) := by decide +kernel
theorem dX4_init_80 : decode cX4_init 80 = .ok (.newarray .int, 2) := by decide +kernel
theorem dX4_init_82 : decode cX4_init 82 = .ok (.putfield 38, 3) := by decide +kernel
theorem dX4_init_85 : decode cX4_init 85 = .ok (.aload_n 0, 1) := by decide +kernel
theorem dX4_init_86 : decode cX4_init 86 = .ok (.bipush 24, 2) := by decide +kernel
theorem dX4_init_88 : decode cX4_init 88 = .ok (.newarray .int, 2) := by decide +kernel
theorem dX4_init_90 : decode cX4_init 90 = .ok (.putfield 41, 3) := by decide +kernel
theorem dX4_init_93 : decode cX4_init 93 = .ok (.aload_n 0, 1) := by decide +kernel
theorem dX4_init_94 : decode cX4_init 94 = .ok (.sipush 384, 3) := by decide +kernel
theorem dX4_init_97 : decode cX4_init 97 = .ok (.newarray .int, 2) := by decide +kernel
theorem dX4_init_99 : decode cX4_init 99 = .ok (.putfield 44, 3) := by decide +kernel
theorem dX4_init_102 : decode cX4_init 102 = .ok (.aload_n 0, 1) := by decide +kernel
theorem dX4_init_103 : decode cX4_init 103 = .ok (.iconst 2, 1) := by decide +kernel
theorem dX4_init_104 : decode cX4_init 104 = .ok (.newarray .int, 2) := by decide +kernel
theorem dX4_init_106 : decode cX4_init 106 = .ok (.putfield 47, 3) := by decide +kernel
theorem dX4_init_109 : decode cX4_init 109 = .ok (.aload_n 0, 1) := by decide +kernel
theorem dX4_init_110 : decode cX4_init 110 = .ok (.iconst 5, 1) := by decide +kernel
theorem dX4_init_111 : decode cX4_init 111 = .ok (.newarray .int, 2) := by decide +kernel
theorem dX4_init_113 : decode cX4_init 113 = .ok (.putfield 50, 3) := by decide +kernel
theorem dX4_init_116 : decode cX4_init 116 = .ok (.aload_n 0, 1) := by decide +kernel
theorem dX4_init_117 : decode cX4_init 117 = .ok (.bipush 16, 2) := by decide +kernel
theorem dX4_init_119 : decode cX4_init 119 = .ok (.newarray .int, 2) := by decide +kernel
theorem dX4_init_121 : decode cX4_init 121 = .ok (.putfield 53, 3) := by decide +kernel
theorem dX4_init_124 : decode cX4_init 124 = .ok (.return_, 1) := by decide +kernel
theorem dX4_thrown_0 : decode cX4_thrown 0 = .ok (.aload_n 0, 1) := by decide +kernel
theorem dX4_thrown_1 : decode cX4_thrown 1 = .ok (.getfield 56, 3) := by decide +kernel
theorem dX4_thrown_4 : decode cX4_thrown 4 = .ok (.ireturn, 1) := by decide +kernel
theorem dX4_goesWell_0 : decode cX4_goesWell 0 = .ok (.aload_n 0, 1) := by decide +kernel
theorem dX4_goesWell_1 : decode cX4_goesWell 1 = .ok (.iload_n 1, 1) := by decide +kernel
theorem dX4_goesWell_2 : decode cX4_goesWell 2 = .ok (.putfield 56, 3) := by decide +kernel
theorem dX4_goesWell_5 : decode cX4_goesWell 5 = .ok (.iload_n 1, 1) := by decide +kernel
theorem dX4_goesWell_6 : decode cX4_goesWell 6 = .ok (.ifCond .ne 7, 3) := by decide +kernel
theorem dX4_goesWell_9 : decode cX4_goesWell 9 = .ok (.iconst 1, 1) := by decide +kernel
theorem dX4_goesWell_10 : decode cX4_goesWell 10 = .ok (.goto 4, 3) := by decide +kernel
theorem dX4_goesWell_13 : decode cX4_goesWell 13 = .ok (.iconst 0, 1) := by decide +kernel
theorem dX4_goesWell_14 : decode cX4_goesWell 14 = .ok (.ireturn, 1) := by decide +kernel
theorem dX4_in_0 : decode cX4_in 0 = .ok (.iload_n 0, 1) := by decide +kernel
theorem dX4_in_1 : decode cX4_in 1 = .ok (.iload_n 1, 1) := by decide +kernel
theorem dX4_in_2 : decode cX4_in 2 = .ok (.if_icmp .lt 12, 3) := by decide +kernel
theorem dX4_in_5 : decode cX4_in 5 = .ok (.iload_n 0, 1) := by decide +kernel
theorem dX4_in_6 : decode cX4_in 6 = .ok (.iload_n 2, 1) := by decide +kernel
theorem dX4_in_7 : decode cX4_in 7 = .ok (.if_icmp .gt 7, 3) := by decide +kernel
theorem dX4_in_10 : decode cX4_in 10 = .ok (.iconst 1, 1) := by decide +kernel
theorem dX4_in_11 : decode cX4_in 11 = .ok (.goto 4, 3) := by decide +kernel
theorem dX4_in_14 : decode cX4_in 14 = .ok (.iconst 0, 1) := by decide +kernel
theorem dX4_in_15 : decode cX4_in 15 = .ok (.ireturn, 1) := by decide +kernel
set_option maxRecDepth 20000 in
theorem ggX4_isClient_X4_in : GoodIn wsX4_isClient wsX4_in := goodIn_r _ [4] (by decide +kernel) (by decide +kernel)
set_option maxRecDepth 20000 in
theorem gX4_isClient_X4_in : GoodIn wsX4_isClient (va_wsS RX4 60 yX4_in wsX4_in) := goodIn_app (goodIn_of _ (by decide +kernel)) ggX4_isClient_X4_in
theorem dX4_isClient_0 : decode cX4_isClient 0 = .ok (.iload_n 0, 1) := by decide +kernel
theorem dX4_isClient_1 : decode cX4_isClient 1 = .ok (.iconst 0, 1) := by decide +kernel
theorem dX4_isClient_2 : decode cX4_isClient 2 = .ok (.iconst 1, 1) := by decide +kernel
theorem dX4_isClient_3 : decode cX4_isClient 3 = .ok (.invokestatic 60, 3) := by decide +kernel
theorem dX4_isClient_6 : decode cX4_isClient 6 = .ok (.ireturn, 1) := by decide +kernel
set_option maxRecDepth 20000 in
theorem ggX4_isTile_X4_in : GoodIn wsX4_isTile wsX4_in := goodIn_r _ [4] (by decide +kernel) (by decide +kernel)
set_option maxRecDepth 20000 in
theorem gX4_isTile_X4_in : GoodIn wsX4_isTile (va_wsS RX4 60 yX4_in wsX4_in) := goodIn_app (goodIn_of _ (by decide +kernel)) ggX4_isTile_X4_in
theorem dX4_isTile_0 : decode cX4_isTile 0 = .ok (.iload_n 0, 1) := by decide +kernel
theorem dX4_isTile_1 : decode cX4_isTile 1 = .ok (.iconst 0, 1) := by decide +kernel
theorem dX4_isTile_2 : decode cX4_isTile 2 = .ok (.bipush 11, 2) := by decide +kernel
theorem dX4_isTile_4 : decode cX4_isTile 4 = .ok (.invokestatic 60, 3) := by decide +kernel
theorem dX4_isTile_7 : decode cX4_isTile 7 = .ok (.ireturn, 1) := by decide +kernel
set_option maxRecDepth 20000 in
theorem ggX4_isCell_X4_in : GoodIn wsX4_isCell wsX4_in := goodIn_r _ [4] (by decide +kernel) (by decide +kernel)
set_option maxRecDepth 20000 in
theorem gX4_isCell_X4_in : GoodIn wsX4_isCell (va_wsS RX4 60 yX4_in wsX4_in) := goodIn_app (goodIn_of _ (by decide +kernel)) ggX4_isCell_X4_in
theorem dX4_isCell_0 : decode cX4_isCell 0 = .ok (.iload_n 0, 1) := by decide +kernel
theorem dX4_isCell_1 : decode cX4_isCell 1 = .ok (.iconst 0, 1) := by decide +kernel
theorem dX4_isCell_2 : decode cX4_isCell 2 = .ok (.bipush 15, 2) := by decide +kernel
theorem dX4_isCell_4 : decode cX4_isCell 4 = .ok (.invokestatic 60, 3) := by decide +kernel
theorem dX4_isCell_7 : decode cX4_isCell 7 = .ok (.ifCond .eq 17, 3) := by decide +kernel
theorem dX4_isCell_10 : decode cX4_isCell 10 = .ok (.iload_n 1, 1) := by decide +kernel
theorem dX4_isCell_11 : decode cX4_isCell 11 = .ok (.iconst 0, 1) := by decide +kernel
theorem dX4_isCell_12 : decode cX4_isCell 12 = .ok (.bipush 11, 2) := by decide +kernel
theorem dX4_isCell_14 : decode cX4_isCell 14 = .ok (.invokestatic 60, 3) := by decide +kernel
theorem dX4_isCell_17 : decode cX4_isCell 17 = .ok (.ifCond .eq 7, 3) := by decide +kernel
theorem dX4_isCell_20 : decode cX4_isCell 20 = .ok (.iconst 1, 1) := by decide +kernel
theorem dX4_isCell_21 : decode cX4_isCell 21 = .ok (.goto 4, 3) := by decide +kernel
theorem dX4_isCell_24 : decode cX4_isCell 24 = .ok (.iconst 0, 1) := by decide +kernel
theorem dX4_isCell_25 : decode cX4_isCell 25 = .ok (.ireturn, 1) := by decide +kernel
theorem dX4_cellOf_0 : decode cX4_cellOf 0 = .ok (.bipush 16, 2) := by decide +kernel
theorem dX4_cellOf_2 : decode cX4_cellOf 2 = .ok (.iconst 4, 1) := by decide +kernel
theorem dX4_cellOf_3 : decode cX4_cellOf 3 = .ok (.iload_n 0, 1) := by decide +kernel
theorem dX4_cellOf_4 : decode cX4_cellOf 4 = .ok (.iconst 4, 1) := by decide +kernel
theorem dX4_cellOf_5 : decode cX4_cellOf 5 = .ok (.idiv, 1) := by decide +kernel
theorem dX4_cellOf_6 : decode cX4_cellOf 6 = .ok (.imul, 1) := by decide +kernel
theorem dX4_cellOf_7 : decode cX4_cellOf 7 = .ok (.iload_n 1, 1) := by decide +kernel
theorem dX4_cellOf_8 : decode cX4_cellOf 8 = .ok (.iconst 4, 1) := by decide +kernel
theorem dX4_cellOf_9 : decode cX4_cellOf 9 = .ok (.idiv, 1) := by decide +kernel
theorem dX4_cellOf_10 : decode cX4_cellOf 10 = .ok (.iadd, 1) := by decide +kernel
theorem dX4_cellOf_11 : decode cX4_cellOf 11 = .ok (.imul, 1) := by decide +kernel
theorem dX4_cellOf_12 : decode cX4_cellOf 12 = .ok (.iconst 4, 1) := by decide +kernel
theorem dX4_cellOf_13 : decode cX4_cellOf 13 = .ok (.iload_n 0, 1) := by decide +kernel
theorem dX4_cellOf_14 : decode cX4_cellOf 14 = .ok (.iconst 4, 1) := by decide +kernel
theorem dX4_cellOf_15 : decode cX4_cellOf 15 = .ok (.irem, 1) := by decide +kernel
theorem dX4_cellOf_16 : decode cX4_cellOf 16 = .ok (.imul, 1) := by decide +kernel
theorem dX4_cellOf_17 : decode cX4_cellOf 17 = .ok (.iadd, 1) := by decide +kernel
theorem dX4_cellOf_18 : decode cX4_cellOf 18 = .ok (.iload_n 1, 1) := by decide +kernel
theorem dX4_cellOf_19 : decode cX4_cellOf 19 = .ok (.iconst 4, 1) := by decide +kernel
theorem dX4_cellOf_20 : decode cX4_cellOf 20 = .ok (.irem, 1) := by decide +kernel
theorem dX4_cellOf_21 : decode cX4_cellOf 21 = .ok (.iadd, 1) := by decide +kernel
theorem dX4_cellOf_22 : decode cX4_cellOf 22 = .ok (.ireturn, 1) := by decide +kernel
set_option maxRecDepth 20000 in
theorem ggX4_isBox_X4_isCell : GoodIn wsX4_isBox wsX4_isCell := goodIn_r _ [4, 5, 6, 3, 7] (by decide +kernel) (by decide +kernel)
set_option maxRecDepth 20000 in
theorem gX4_isBox_X4_isCell : GoodIn wsX4_isBox (va_wsS RX4 64 yX4_isCell wsX4_isCell) := goodIn_app (goodIn_of _ (by decide +kernel)) ggX4_isBox_X4_isCell
set_option maxRecDepth 20000 in
theorem ggX4_isBox_X4_in : GoodIn wsX4_isBox wsX4_in := goodIn_r _ [7] (by decide +kernel) (by decide +kernel)
set_option maxRecDepth 20000 in
theorem gX4_isBox_X4_in : GoodIn wsX4_isBox (va_wsS RX4 60 yX4_in wsX4_in) := goodIn_app (goodIn_of _ (by decide +kernel)) ggX4_isBox_X4_in
theorem dX4_isBox_0 : decode cX4_isBox 0 = .ok (.iload_n 0, 1) := by decide +kernel
theorem dX4_isBox_1 : decode cX4_isBox 1 = .ok (.iload_n 1, 1) := by decide +kernel
theorem dX4_isBox_2 : decode cX4_isBox 2 = .ok (.invokestatic 64, 3) := by decide +kernel
theorem dX4_isBox_5 : decode cX4_isBox 5 = .ok (.ifCond .eq 31, 3) := by decide +kernel
theorem dX4_isBox_8 : decode cX4_isBox 8 = .ok (.iload_n 2, 1) := by decide +kernel
theorem dX4_isBox_9 : decode cX4_isBox 9 = .ok (.iconst 1, 1) := by decide +kernel
theorem dX4_isBox_10 : decode cX4_isBox 10 = .ok (.bipush 16, 2) := by decide +kernel
theorem dX4_isBox_12 : decode cX4_isBox 12 = .ok (.iload_n 0, 1) := by decide +kernel
theorem dX4_isBox_13 : decode cX4_isBox 13 = .ok (.isub, 1) := by decide +kernel
theorem dX4_isBox_14 : decode cX4_isBox 14 = .ok (.invokestatic 60, 3) := by decide +kernel
theorem dX4_isBox_17 : decode cX4_isBox 17 = .ok (.ifCond .eq 19, 3) := by decide +kernel
theorem dX4_isBox_20 : decode cX4_isBox 20 = .ok (.iload_n 3, 1) := by decide +kernel
theorem dX4_isBox_21 : decode cX4_isBox 21 = .ok (.iconst 1, 1) := by decide +kernel
theorem dX4_isBox_22 : decode cX4_isBox 22 = .ok (.bipush 12, 2) := by decide +kernel
theorem dX4_isBox_24 : decode cX4_isBox 24 = .ok (.iload_n 1, 1) := by decide +kernel
theorem dX4_isBox_25 : decode cX4_isBox 25 = .ok (.isub, 1) := by decide +kernel
theorem dX4_isBox_26 : decode cX4_isBox 26 = .ok (.invokestatic 60, 3) := by decide +kernel
theorem dX4_isBox_29 : decode cX4_isBox 29 = .ok (.ifCond .eq 7, 3) := by decide +kernel
theorem dX4_isBox_32 : decode cX4_isBox 32 = .ok (.iconst 1, 1) := by decide +kernel
theorem dX4_isBox_33 : decode cX4_isBox 33 = .ok (.goto 4, 3) := by decide +kernel
theorem dX4_isBox_36 : decode cX4_isBox 36 = .ok (.iconst 0, 1) := by decide +kernel
theorem dX4_isBox_37 : decode cX4_isBox 37 = .ok (.ireturn, 1) := by decide +kernel
theorem dX4_keep_0 : decode cX4_keep 0 = .ok (.iconst 0, 1) := by decide +kernel
theorem dX4_keep_1 : decode cX4_keep 1 = .ok (.istore_n 1, 1) := by decide +kernel
theorem dX4_keep_2 : decode cX4_keep 2 = .ok (.iload_n 1, 1) := by decide +kernel
theorem dX4_keep_3 : decode cX4_keep 3 = .ok (.sipush 192, 3) := by decide +kernel
theorem dX4_keep_6 : decode cX4_keep 6 = .ok (.if_icmp .ge 21, 3) := by decide +kernel
theorem dX4_keep_9 : decode cX4_keep 9 = .ok (.aload_n 0, 1) := by decide +kernel
theorem dX4_keep_10 : decode cX4_keep 10 = .ok (.getfield 13, 3) := by decide +kernel
theorem dX4_keep_13 : decode cX4_keep 13 = .ok (.iload_n 1, 1) := by decide +kernel
theorem dX4_keep_14 : decode cX4_keep 14 = .ok (.aload_n 0, 1) := by decide +kernel
theorem dX4_keep_15 : decode cX4_keep 15 = .ok (.getfield 7, 3) := by decide +kernel
theorem dX4_keep_18 : decode cX4_keep 18 = .ok (.iload_n 1, 1) := by decide +kernel
theorem dX4_keep_19 : decode cX4_keep 19 = .ok (.iaload, 1) := by decide +kernel
theorem dX4_keep_20 : decode cX4_keep 20 = .ok (.iastore, 1) := by decide +kernel
theorem dX4_keep_21 : decode cX4_keep 21 = .ok (.iinc 1 1, 3) := by decide +kernel
theorem dX4_keep_24 : decode cX4_keep 24 = .ok (.goto (-22), 3) := by decide +kernel
theorem dX4_keep_27 : decode cX4_keep 27 = .ok (.return_, 1) := by decide +kernel
theorem dX4_soil_0 : decode cX4_soil 0 = .ok (.iconst 0, 1) := by decide +kernel
theorem dX4_soil_1 : decode cX4_soil 1 = .ok (.istore_n 3, 1) := by decide +kernel
theorem dX4_soil_2 : decode cX4_soil 2 = .ok (.iconst 0, 1) := by decide +kernel
theorem dX4_soil_3 : decode cX4_soil 3 = .ok (.istore 4, 2) := by decide +kernel
theorem dX4_soil_5 : decode cX4_soil 5 = .ok (.iload 4, 2) := by decide +kernel
theorem dX4_soil_7 : decode cX4_soil 7 = .ok (.aload_n 0, 1) := by decide +kernel
theorem dX4_soil_8 : decode cX4_soil 8 = .ok (.getfield 38, 3) := by decide +kernel
theorem dX4_soil_11 : decode cX4_soil 11 = .ok (.iload_n 1, 1) := by decide +kernel
theorem dX4_soil_12 : decode cX4_soil 12 = .ok (.iaload, 1) := by decide +kernel
theorem dX4_soil_13 : decode cX4_soil 13 = .ok (.if_icmp .ge 35, 3) := by decide +kernel
theorem dX4_soil_16 : decode cX4_soil 16 = .ok (.iload_n 3, 1) := by decide +kernel
theorem dX4_soil_17 : decode cX4_soil 17 = .ok (.ifCond .ne 19, 3) := by decide +kernel
theorem dX4_soil_20 : decode cX4_soil 20 = .ok (.aload_n 0, 1) := by decide +kernel
theorem dX4_soil_21 : decode cX4_soil 21 = .ok (.getfield 35, 3) := by decide +kernel
theorem dX4_soil_24 : decode cX4_soil 24 = .ok (.bipush 12, 2) := by decide +kernel
theorem dX4_soil_26 : decode cX4_soil 26 = .ok (.iload_n 1, 1) := by decide +kernel
theorem dX4_soil_27 : decode cX4_soil 27 = .ok (.imul, 1) := by decide +kernel
theorem dX4_soil_28 : decode cX4_soil 28 = .ok (.iload 4, 2) := by decide +kernel
theorem dX4_soil_30 : decode cX4_soil 30 = .ok (.iadd, 1) := by decide +kernel
theorem dX4_soil_31 : decode cX4_soil 31 = .ok (.iaload, 1) := by decide +kernel
theorem dX4_soil_32 : decode cX4_soil 32 = .ok (.iload_n 2, 1) := by decide +kernel
theorem dX4_soil_33 : decode cX4_soil 33 = .ok (.if_icmp .ne 7, 3) := by decide +kernel
theorem dX4_soil_36 : decode cX4_soil 36 = .ok (.iconst 1, 1) := by decide +kernel
theorem dX4_soil_37 : decode cX4_soil 37 = .ok (.goto 4, 3) := by decide +kernel
theorem dX4_soil_40 : decode cX4_soil 40 = .ok (.iconst 0, 1) := by decide +kernel
theorem dX4_soil_41 : decode cX4_soil 41 = .ok (.istore_n 3, 1) := by decide +kernel
theorem dX4_soil_42 : decode cX4_soil 42 = .ok (.iinc 4 1, 3) := by decide +kernel
theorem dX4_soil_45 : decode cX4_soil 45 = .ok (.goto (-40), 3) := by decide +kernel
theorem dX4_soil_48 : decode cX4_soil 48 = .ok (.iload_n 3, 1) := by decide +kernel
theorem dX4_soil_49 : decode cX4_soil 49 = .ok (.ifCond .ne 30, 3) := by decide +kernel
theorem dX4_soil_52 : decode cX4_soil 52 = .ok (.aload_n 0, 1) := by decide +kernel
theorem dX4_soil_53 : decode cX4_soil 53 = .ok (.getfield 35, 3) := by decide +kernel
theorem dX4_soil_56 : decode cX4_soil 56 = .ok (.bipush 12, 2) := by decide +kernel
theorem dX4_soil_58 : decode cX4_soil 58 = .ok (.iload_n 1, 1) := by decide +kernel
theorem dX4_soil_59 : decode cX4_soil 59 = .ok (.imul, 1) := by decide +kernel
theorem dX4_soil_60 : decode cX4_soil 60 = .ok (.aload_n 0, 1) := by decide +kernel
theorem dX4_soil_61 : decode cX4_soil 61 = .ok (.getfield 38, 3) := by decide +kernel
theorem dX4_soil_64 : decode cX4_soil 64 = .ok (.iload_n 1, 1) := by decide +kernel
theorem dX4_soil_65 : decode cX4_soil 65 = .ok (.iaload, 1) := by decide +kernel
theorem dX4_soil_66 : decode cX4_soil 66 = .ok (.iadd, 1) := by decide +kernel
theorem dX4_soil_67 : decode cX4_soil 67 = .ok (.iload_n 2, 1) := by decide +kernel
theorem dX4_soil_68 : decode cX4_soil 68 = .ok (.iastore, 1) := by decide +kernel
theorem dX4_soil_69 : decode cX4_soil 69 = .ok (.aload_n 0, 1) := by decide +kernel
theorem dX4_soil_70 : decode cX4_soil 70 = .ok (.getfield 38, 3) := by decide +kernel
theorem dX4_soil_73 : decode cX4_soil 73 = .ok (.iload_n 1, 1) := by decide +kernel
theorem dX4_soil_74 : decode cX4_soil 74 = .ok (.dup2, 1) := by decide +kernel
theorem dX4_soil_75 : decode cX4_soil 75 = .ok (.iaload, 1) := by decide +kernel
theorem dX4_soil_76 : decode cX4_soil 76 = .ok (.iconst 1, 1) := by decide +kernel
theorem dX4_soil_77 : decode cX4_soil 77 = .ok (.iadd, 1) := by decide +kernel
theorem dX4_soil_78 : decode cX4_soil 78 = .ok (.iastore, 1) := by decide +kernel
theorem dX4_soil_79 : decode cX4_soil 79 = .ok (.return_, 1) := by decide +kernel
set_option maxRecDepth 20000 in
theorem ggX4_settle_X4_cellOf : GoodIn wsX4_settle wsX4_cellOf := goodIn_r _ [7] (by decide +kernel) (by decide +kernel)
set_option maxRecDepth 20000 in
theorem gX4_settle_X4_cellOf : GoodIn wsX4_settle (va_wsS RX4 68 yX4_cellOf wsX4_cellOf) := goodIn_app (goodIn_of _ (by decide +kernel)) ggX4_settle_X4_cellOf
set_option maxRecDepth 20000 in
theorem ggX4_settle_X4_soil : GoodIn wsX4_settle wsX4_soil := goodIn_r _ [11, 12, 13, 14, 15, 16, 17, 18, 19, 20, 21, 22, 23, 24, 25, 26, 27, 28, 29, 30] (by decide +kernel) (by decide +kernel)
set_option maxRecDepth 20000 in
theorem gX4_settle_X4_soil : GoodIn wsX4_settle (wsV RX4 72 RX4 yX4_soil wsX4_soil) := goodIn_app (goodIn_of _ (by decide +kernel)) ggX4_settle_X4_soil
theorem dX4_settle_0 : decode cX4_settle 0 = .ok (.iconst 0, 1) := by decide +kernel
theorem dX4_settle_1 : decode cX4_settle 1 = .ok (.istore_n 1, 1) := by decide +kernel
theorem dX4_settle_2 : decode cX4_settle 2 = .ok (.iconst 0, 1) := by decide +kernel
theorem dX4_settle_3 : decode cX4_settle 3 = .ok (.istore_n 2, 1) := by decide +kernel
theorem dX4_settle_4 : decode cX4_settle 4 = .ok (.iload_n 2, 1) := by decide +kernel
theorem dX4_settle_5 : decode cX4_settle 5 = .ok (.bipush 12, 2) := by decide +kernel
theorem dX4_settle_7 : decode cX4_settle 7 = .ok (.if_icmp .ge 123, 3) := by decide +kernel
theorem dX4_settle_10 : decode cX4_settle 10 = .ok (.iconst 0, 1) := by decide +kernel
theorem dX4_settle_11 : decode cX4_settle 11 = .ok (.istore_n 3, 1) := by decide +kernel
theorem dX4_settle_12 : decode cX4_settle 12 = .ok (.iconst 0, 1) := by decide +kernel
theorem dX4_settle_13 : decode cX4_settle 13 = .ok (.istore 4, 2) := by decide +kernel
theorem dX4_settle_15 : decode cX4_settle 15 = .ok (.iload 4, 2) := by decide +kernel
theorem dX4_settle_17 : decode cX4_settle 17 = .ok (.bipush 16, 2) := by decide +kernel
theorem dX4_settle_19 : decode cX4_settle 19 = .ok (.if_icmp .ge 69, 3) := by decide +kernel
theorem dX4_settle_22 : decode cX4_settle 22 = .ok (.aload_n 0, 1) := by decide +kernel
theorem dX4_settle_23 : decode cX4_settle 23 = .ok (.getfield 7, 3) := by decide +kernel
theorem dX4_settle_26 : decode cX4_settle 26 = .ok (.iload_n 2, 1) := by decide +kernel
theorem dX4_settle_27 : decode cX4_settle 27 = .ok (.iload 4, 2) := by decide +kernel
theorem dX4_settle_29 : decode cX4_settle 29 = .ok (.invokestatic 68, 3) := by decide +kernel
theorem dX4_settle_32 : decode cX4_settle 32 = .ok (.iaload, 1) := by decide +kernel
theorem dX4_settle_33 : decode cX4_settle 33 = .ok (.aload_n 0, 1) := by decide +kernel
theorem dX4_settle_34 : decode cX4_settle 34 = .ok (.getfield 13, 3) := by decide +kernel
theorem dX4_settle_37 : decode cX4_settle 37 = .ok (.iload_n 2, 1) := by decide +kernel
theorem dX4_settle_38 : decode cX4_settle 38 = .ok (.iload 4, 2) := by decide +kernel
theorem dX4_settle_40 : decode cX4_settle 40 = .ok (.invokestatic 68, 3) := by decide +kernel
theorem dX4_settle_43 : decode cX4_settle 43 = .ok (.iaload, 1) := by decide +kernel
theorem dX4_settle_44 : decode cX4_settle 44 = .ok (.if_icmp .eq 7, 3) := by decide +kernel
theorem dX4_settle_47 : decode cX4_settle 47 = .ok (.iconst 1, 1) := by decide +kernel
theorem dX4_settle_48 : decode cX4_settle 48 = .ok (.goto 4, 3) := by decide +kernel
theorem dX4_settle_51 : decode cX4_settle 51 = .ok (.iconst 0, 1) := by decide +kernel
theorem dX4_settle_52 : decode cX4_settle 52 = .ok (.istore 5, 2) := by decide +kernel
theorem dX4_settle_54 : decode cX4_settle 54 = .ok (.iload_n 3, 1) := by decide +kernel
theorem dX4_settle_55 : decode cX4_settle 55 = .ok (.ifCond .ne 8, 3) := by decide +kernel
theorem dX4_settle_58 : decode cX4_settle 58 = .ok (.iload 5, 2) := by decide +kernel
theorem dX4_settle_60 : decode cX4_settle 60 = .ok (.ifCond .eq 7, 3) := by decide +kernel
theorem dX4_settle_63 : decode cX4_settle 63 = .ok (.iconst 1, 1) := by decide +kernel
theorem dX4_settle_64 : decode cX4_settle 64 = .ok (.goto 4, 3) := by decide +kernel
theorem dX4_settle_67 : decode cX4_settle 67 = .ok (.iconst 0, 1) := by decide +kernel
theorem dX4_settle_68 : decode cX4_settle 68 = .ok (.istore_n 3, 1) := by decide +kernel
theorem dX4_settle_69 : decode cX4_settle 69 = .ok (.iload_n 1, 1) := by decide +kernel
theorem dX4_settle_70 : decode cX4_settle 70 = .ok (.iload 5, 2) := by decide +kernel
theorem dX4_settle_72 : decode cX4_settle 72 = .ok (.ifCond .eq 7, 3) := by decide +kernel
theorem dX4_settle_75 : decode cX4_settle 75 = .ok (.iconst 1, 1) := by decide +kernel
theorem dX4_settle_76 : decode cX4_settle 76 = .ok (.goto 4, 3) := by decide +kernel
theorem dX4_settle_79 : decode cX4_settle 79 = .ok (.iconst 0, 1) := by decide +kernel
theorem dX4_settle_80 : decode cX4_settle 80 = .ok (.iadd, 1) := by decide +kernel
theorem dX4_settle_81 : decode cX4_settle 81 = .ok (.istore_n 1, 1) := by decide +kernel
theorem dX4_settle_82 : decode cX4_settle 82 = .ok (.iinc 4 1, 3) := by decide +kernel
theorem dX4_settle_85 : decode cX4_settle 85 = .ok (.goto (-70), 3) := by decide +kernel
theorem dX4_settle_88 : decode cX4_settle 88 = .ok (.iconst 0, 1) := by decide +kernel
theorem dX4_settle_89 : decode cX4_settle 89 = .ok (.istore 4, 2) := by decide +kernel
theorem dX4_settle_91 : decode cX4_settle 91 = .ok (.iload 4, 2) := by decide +kernel
theorem dX4_settle_93 : decode cX4_settle 93 = .ok (.iconst 2, 1) := by decide +kernel
theorem dX4_settle_94 : decode cX4_settle 94 = .ok (.if_icmp .ge 30, 3) := by decide +kernel
theorem dX4_settle_97 : decode cX4_settle 97 = .ok (.iload_n 3, 1) := by decide +kernel
theorem dX4_settle_98 : decode cX4_settle 98 = .ok (.ifCond .eq 20, 3) := by decide +kernel
theorem dX4_settle_101 : decode cX4_settle 101 = .ok (.aload_n 0, 1) := by decide +kernel
theorem dX4_settle_102 : decode cX4_settle 102 = .ok (.getfield 16, 3) := by decide +kernel
theorem dX4_settle_105 : decode cX4_settle 105 = .ok (.iload 4, 2) := by decide +kernel
theorem dX4_settle_107 : decode cX4_settle 107 = .ok (.baload, 1) := by decide +kernel
theorem dX4_settle_108 : decode cX4_settle 108 = .ok (.ifCond .eq 10, 3) := by decide +kernel
theorem dX4_settle_111 : decode cX4_settle 111 = .ok (.aload_n 0, 1) := by decide +kernel
theorem dX4_settle_112 : decode cX4_settle 112 = .ok (.iload 4, 2) := by decide +kernel
theorem dX4_settle_114 : decode cX4_settle 114 = .ok (.iload_n 2, 1) := by decide +kernel
theorem dX4_settle_115 : decode cX4_settle 115 = .ok (.invokevirtual 72, 3) := by decide +kernel
theorem dX4_settle_118 : decode cX4_settle 118 = .ok (.iinc 4 1, 3) := by decide +kernel
theorem dX4_settle_121 : decode cX4_settle 121 = .ok (.goto (-30), 3) := by decide +kernel
theorem dX4_settle_124 : decode cX4_settle 124 = .ok (.iinc 2 1, 3) := by decide +kernel
theorem dX4_settle_127 : decode cX4_settle 127 = .ok (.goto (-123), 3) := by decide +kernel
theorem dX4_settle_130 : decode cX4_settle 130 = .ok (.iload_n 1, 1) := by decide +kernel
theorem dX4_settle_131 : decode cX4_settle 131 = .ok (.ireturn, 1) := by decide +kernel
set_option maxRecDepth 20000 in
theorem ggX4_fill_X4_isBox : GoodIn wsX4_fill wsX4_isBox := goodIn_r _ [5, 6, 7, 4, 8, 9, 10, 11] (by decide +kernel) (by decide +kernel)
set_option maxRecDepth 20000 in
theorem gX4_fill_X4_isBox : GoodIn wsX4_fill (va_wsS RX4 76 yX4_isBox wsX4_isBox) := goodIn_app (goodIn_of _ (by decide +kernel)) ggX4_fill_X4_isBox
set_option maxRecDepth 20000 in
theorem ggX4_fill_X4_in : GoodIn wsX4_fill wsX4_in := goodIn_r _ [11] (by decide +kernel) (by decide +kernel)
set_option maxRecDepth 20000 in
theorem gX4_fill_X4_in : GoodIn wsX4_fill (va_wsS RX4 60 yX4_in wsX4_in) := goodIn_app (goodIn_of _ (by decide +kernel)) ggX4_fill_X4_in
set_option maxRecDepth 20000 in
theorem ggX4_fill_X4_goesWell : GoodIn wsX4_fill wsX4_goesWell := goodIn_r _ [15, 16, 36, 37, 38, 39, 40, 41, 42, 43, 44, 45, 46, 47, 48, 49, 50, 51, 52] (by decide +kernel) (by decide +kernel)
set_option maxRecDepth 20000 in
theorem gX4_fill_X4_goesWell : GoodIn wsX4_fill (wsV RX4 80 RX4 yX4_goesWell wsX4_goesWell) := goodIn_app (goodIn_of _ (by decide +kernel)) ggX4_fill_X4_goesWell
set_option maxRecDepth 20000 in
theorem ggX4_fill_X4_keep : GoodIn wsX4_fill wsX4_keep := goodIn_r _ [20, 21, 1, 36, 37, 38, 39, 40, 41, 42, 43, 44, 45, 46, 47, 48, 49, 50, 51, 52] (by decide +kernel) (by decide +kernel)
set_option maxRecDepth 20000 in
theorem gX4_fill_X4_keep : GoodIn wsX4_fill (wsV RX4 84 RX4 yX4_keep wsX4_keep) := goodIn_app (goodIn_of _ (by decide +kernel)) ggX4_fill_X4_keep
set_option maxRecDepth 20000 in
theorem ggX4_fill_X4_settle : GoodIn wsX4_fill wsX4_settle := goodIn_r _ [25, 1, 21, 26, 27, 28, 4, 29, 30, 31, 32, 33, 34, 35, 36, 37, 38, 39, 40, 41, 42, 43, 44, 45, 46, 47, 48, 49, 50, 51, 52] (by decide +kernel) (by decide +kernel)
set_option maxRecDepth 20000 in
theorem gX4_fill_X4_settle : GoodIn wsX4_fill (wsV RX4 87 RX4 yX4_settle wsX4_settle) := goodIn_app (goodIn_of _ (by decide +kernel)) ggX4_fill_X4_settle
theorem dX4_fill_0 : decode cX4_fill 0 = .ok (.aload_n 0, 1) := by decide +kernel
theorem dX4_fill_1 : decode cX4_fill 1 = .ok (.iload_n 1, 1) := by decide +kernel
theorem dX4_fill_2 : decode cX4_fill 2 = .ok (.iload_n 2, 1) := by decide +kernel
theorem dX4_fill_3 : decode cX4_fill 3 = .ok (.iload_n 3, 1) := by decide +kernel
theorem dX4_fill_4 : decode cX4_fill 4 = .ok (.iload 4, 2) := by decide +kernel
theorem dX4_fill_6 : decode cX4_fill 6 = .ok (.invokestatic 76, 3) := by decide +kernel
theorem dX4_fill_9 : decode cX4_fill 9 = .ok (.ifCond .eq 18, 3) := by decide +kernel
theorem dX4_fill_12 : decode cX4_fill 12 = .ok (.iload 5, 2) := by decide +kernel
theorem dX4_fill_14 : decode cX4_fill 14 = .ok (.iconst 0, 1) := by decide +kernel
theorem dX4_fill_15 : decode cX4_fill 15 = .ok (.bipush 15, 2) := by decide +kernel
theorem dX4_fill_17 : decode cX4_fill 17 = .ok (.invokestatic 60, 3) := by decide +kernel
theorem dX4_fill_20 : decode cX4_fill 20 = .ok (.ifCond .eq 7, 3) := by decide +kernel
theorem dX4_fill_23 : decode cX4_fill 23 = .ok (.iconst 0, 1) := by decide +kernel
theorem dX4_fill_24 : decode cX4_fill 24 = .ok (.goto 4, 3) := by decide +kernel
theorem dX4_fill_27 : decode cX4_fill 27 = .ok (.iconst 1, 1) := by decide +kernel
theorem dX4_fill_28 : decode cX4_fill 28 = .ok (.invokevirtual 80, 3) := by decide +kernel
theorem dX4_fill_31 : decode cX4_fill 31 = .ok (.ifCond .ne 5, 3) := by decide +kernel
theorem dX4_fill_34 : decode cX4_fill 34 = .ok (.iconst 0, 1) := by decide +kernel
theorem dX4_fill_35 : decode cX4_fill 35 = .ok (.ireturn, 1) := by decide +kernel
theorem dX4_fill_36 : decode cX4_fill 36 = .ok (.aload_n 0, 1) := by decide +kernel
theorem dX4_fill_37 : decode cX4_fill 37 = .ok (.invokevirtual 84, 3) := by decide +kernel
theorem dX4_fill_40 : decode cX4_fill 40 = .ok (.iconst 0, 1) := by decide +kernel
theorem dX4_fill_41 : decode cX4_fill 41 = .ok (.istore 6, 2) := by decide +kernel
theorem dX4_fill_43 : decode cX4_fill 43 = .ok (.iload 6, 2) := by decide +kernel
theorem dX4_fill_45 : decode cX4_fill 45 = .ok (.iload_n 3, 1) := by decide +kernel
theorem dX4_fill_46 : decode cX4_fill 46 = .ok (.iload 4, 2) := by decide +kernel
theorem dX4_fill_48 : decode cX4_fill 48 = .ok (.imul, 1) := by decide +kernel
theorem dX4_fill_49 : decode cX4_fill 49 = .ok (.if_icmp .ge 32, 3) := by decide +kernel
theorem dX4_fill_52 : decode cX4_fill 52 = .ok (.aload_n 0, 1) := by decide +kernel
theorem dX4_fill_53 : decode cX4_fill 53 = .ok (.getfield 7, 3) := by decide +kernel
theorem dX4_fill_56 : decode cX4_fill 56 = .ok (.bipush 16, 2) := by decide +kernel
theorem dX4_fill_58 : decode cX4_fill 58 = .ok (.iload_n 2, 1) := by decide +kernel
theorem dX4_fill_59 : decode cX4_fill 59 = .ok (.iload 6, 2) := by decide +kernel
theorem dX4_fill_61 : decode cX4_fill 61 = .ok (.iload_n 3, 1) := by decide +kernel
theorem dX4_fill_62 : decode cX4_fill 62 = .ok (.idiv, 1) := by decide +kernel
theorem dX4_fill_63 : decode cX4_fill 63 = .ok (.iadd, 1) := by decide +kernel
theorem dX4_fill_64 : decode cX4_fill 64 = .ok (.imul, 1) := by decide +kernel
theorem dX4_fill_65 : decode cX4_fill 65 = .ok (.iload_n 1, 1) := by decide +kernel
theorem dX4_fill_66 : decode cX4_fill 66 = .ok (.iadd, 1) := by decide +kernel
theorem dX4_fill_67 : decode cX4_fill 67 = .ok (.iload 6, 2) := by decide +kernel
theorem dX4_fill_69 : decode cX4_fill 69 = .ok (.iload_n 3, 1) := by decide +kernel
theorem dX4_fill_70 : decode cX4_fill 70 = .ok (.irem, 1) := by decide +kernel
theorem dX4_fill_71 : decode cX4_fill 71 = .ok (.iadd, 1) := by decide +kernel
theorem dX4_fill_72 : decode cX4_fill 72 = .ok (.iload 5, 2) := by decide +kernel
theorem dX4_fill_74 : decode cX4_fill 74 = .ok (.iastore, 1) := by decide +kernel
theorem dX4_fill_75 : decode cX4_fill 75 = .ok (.iinc 6 1, 3) := by decide +kernel
theorem dX4_fill_78 : decode cX4_fill 78 = .ok (.goto (-35), 3) := by decide +kernel
theorem dX4_fill_81 : decode cX4_fill 81 = .ok (.aload_n 0, 1) := by decide +kernel
theorem dX4_fill_82 : decode cX4_fill 82 = .ok (.invokevirtual 87, 3) := by decide +kernel
theorem dX4_fill_85 : decode cX4_fill 85 = .ok (.ireturn, 1) := by decide +kernel
set_option maxRecDepth 20000 in
theorem ggX4_copy_X4_isBox : GoodIn wsX4_copy wsX4_isBox := goodIn_r _ [6, 7, 8, 5, 9, 10, 11, 12] (by decide +kernel) (by decide +kernel)
set_option maxRecDepth 20000 in
theorem gX4_copy_X4_isBox : GoodIn wsX4_copy (va_wsS RX4 76 yX4_isBox wsX4_isBox) := goodIn_app (goodIn_of _ (by decide +kernel)) ggX4_copy_X4_isBox
set_option maxRecDepth 20000 in
theorem ggX4_copy_X4_in : GoodIn wsX4_copy wsX4_in := goodIn_r _ [12] (by decide +kernel) (by decide +kernel)
set_option maxRecDepth 20000 in
theorem gX4_copy_X4_in : GoodIn wsX4_copy (va_wsS RX4 60 yX4_in wsX4_in) := goodIn_app (goodIn_of _ (by decide +kernel)) ggX4_copy_X4_in
set_option maxRecDepth 20000 in
theorem ggX4_copy_X4_goesWell : GoodIn wsX4_copy wsX4_goesWell := goodIn_r _ [16, 17, 36, 37, 38, 39, 40, 41, 42, 43, 44, 45, 46, 47, 48, 49, 50, 51, 52] (by decide +kernel) (by decide +kernel)
set_option maxRecDepth 20000 in
theorem gX4_copy_X4_goesWell : GoodIn wsX4_copy (wsV RX4 80 RX4 yX4_goesWell wsX4_goesWell) := goodIn_app (goodIn_of _ (by decide +kernel)) ggX4_copy_X4_goesWell
set_option maxRecDepth 20000 in
theorem ggX4_copy_X4_keep : GoodIn wsX4_copy wsX4_keep := goodIn_r _ [21, 2, 1, 36, 37, 38, 39, 40, 41, 42, 43, 44, 45, 46, 47, 48, 49, 50, 51, 52] (by decide +kernel) (by decide +kernel)
set_option maxRecDepth 20000 in
theorem gX4_copy_X4_keep : GoodIn wsX4_copy (wsV RX4 84 RX4 yX4_keep wsX4_keep) := goodIn_app (goodIn_of _ (by decide +kernel)) ggX4_copy_X4_keep
set_option maxRecDepth 20000 in
theorem ggX4_copy_X4_isCell : GoodIn wsX4_copy wsX4_isCell := goodIn_r _ [9, 10, 11, 5, 12] (by decide +kernel) (by decide +kernel)
set_option maxRecDepth 20000 in
theorem gX4_copy_X4_isCell : GoodIn wsX4_copy (va_wsS RX4 64 yX4_isCell wsX4_isCell) := goodIn_app (goodIn_of _ (by decide +kernel)) ggX4_copy_X4_isCell
set_option maxRecDepth 20000 in
theorem ggX4_copy_X4_settle : GoodIn wsX4_copy wsX4_settle := goodIn_r _ [25, 1, 2, 26, 27, 28, 5, 29, 30, 31, 32, 33, 34, 35, 36, 37, 38, 39, 40, 41, 42, 43, 44, 45, 46, 47, 48, 49, 50, 51, 52] (by decide +kernel) (by decide +kernel)
set_option maxRecDepth 20000 in
theorem gX4_copy_X4_settle : GoodIn wsX4_copy (wsV RX4 87 RX4 yX4_settle wsX4_settle) := goodIn_app (goodIn_of _ (by decide +kernel)) ggX4_copy_X4_settle
theorem dX4_copy_0 : decode cX4_copy 0 = .ok (.aload_n 0, 1) := by decide +kernel
theorem dX4_copy_1 : decode cX4_copy 1 = .ok (.iload_n 1, 1) := by decide +kernel
theorem dX4_copy_2 : decode cX4_copy 2 = .ok (.iload_n 2, 1) := by decide +kernel
theorem dX4_copy_3 : decode cX4_copy 3 = .ok (.iload_n 3, 1) := by decide +kernel
theorem dX4_copy_4 : decode cX4_copy 4 = .ok (.iload 4, 2) := by decide +kernel
theorem dX4_copy_6 : decode cX4_copy 6 = .ok (.invokestatic 76, 3) := by decide +kernel
theorem dX4_copy_9 : decode cX4_copy 9 = .ok (.ifCond .eq 31, 3) := by decide +kernel
theorem dX4_copy_12 : decode cX4_copy 12 = .ok (.iload 5, 2) := by decide +kernel
theorem dX4_copy_14 : decode cX4_copy 14 = .ok (.bipush (-15), 2) := by decide +kernel
theorem dX4_copy_16 : decode cX4_copy 16 = .ok (.bipush 15, 2) := by decide +kernel
theorem dX4_copy_18 : decode cX4_copy 18 = .ok (.invokestatic 60, 3) := by decide +kernel
theorem dX4_copy_21 : decode cX4_copy 21 = .ok (.ifCond .eq 19, 3) := by decide +kernel
theorem dX4_copy_24 : decode cX4_copy 24 = .ok (.iload 6, 2) := by decide +kernel
theorem dX4_copy_26 : decode cX4_copy 26 = .ok (.bipush (-11), 2) := by decide +kernel
theorem dX4_copy_28 : decode cX4_copy 28 = .ok (.bipush 11, 2) := by decide +kernel
theorem dX4_copy_30 : decode cX4_copy 30 = .ok (.invokestatic 60, 3) := by decide +kernel
theorem dX4_copy_33 : decode cX4_copy 33 = .ok (.ifCond .eq 7, 3) := by decide +kernel
theorem dX4_copy_36 : decode cX4_copy 36 = .ok (.iconst 0, 1) := by decide +kernel
theorem dX4_copy_37 : decode cX4_copy 37 = .ok (.goto 4, 3) := by decide +kernel
theorem dX4_copy_40 : decode cX4_copy 40 = .ok (.iconst 1, 1) := by decide +kernel
theorem dX4_copy_41 : decode cX4_copy 41 = .ok (.invokevirtual 80, 3) := by decide +kernel
theorem dX4_copy_44 : decode cX4_copy 44 = .ok (.ifCond .ne 5, 3) := by decide +kernel
theorem dX4_copy_47 : decode cX4_copy 47 = .ok (.iconst 0, 1) := by decide +kernel
theorem dX4_copy_48 : decode cX4_copy 48 = .ok (.ireturn, 1) := by decide +kernel
theorem dX4_copy_49 : decode cX4_copy 49 = .ok (.aload_n 0, 1) := by decide +kernel
theorem dX4_copy_50 : decode cX4_copy 50 = .ok (.invokevirtual 84, 3) := by decide +kernel
theorem dX4_copy_53 : decode cX4_copy 53 = .ok (.iconst 0, 1) := by decide +kernel
theorem dX4_copy_54 : decode cX4_copy 54 = .ok (.istore 7, 2) := by decide +kernel
theorem dX4_copy_56 : decode cX4_copy 56 = .ok (.iload 7, 2) := by decide +kernel
theorem dX4_copy_58 : decode cX4_copy 58 = .ok (.iload_n 3, 1) := by decide +kernel
theorem dX4_copy_59 : decode cX4_copy 59 = .ok (.iload 4, 2) := by decide +kernel
theorem dX4_copy_61 : decode cX4_copy 61 = .ok (.imul, 1) := by decide +kernel
theorem dX4_copy_62 : decode cX4_copy 62 = .ok (.if_icmp .ge 73, 3) := by decide +kernel
theorem dX4_copy_65 : decode cX4_copy 65 = .ok (.iload_n 1, 1) := by decide +kernel
theorem dX4_copy_66 : decode cX4_copy 66 = .ok (.iload 7, 2) := by decide +kernel
theorem dX4_copy_68 : decode cX4_copy 68 = .ok (.iload_n 3, 1) := by decide +kernel
theorem dX4_copy_69 : decode cX4_copy 69 = .ok (.irem, 1) := by decide +kernel
theorem dX4_copy_70 : decode cX4_copy 70 = .ok (.iadd, 1) := by decide +kernel
theorem dX4_copy_71 : decode cX4_copy 71 = .ok (.istore 8, 2) := by decide +kernel
theorem dX4_copy_73 : decode cX4_copy 73 = .ok (.iload_n 2, 1) := by decide +kernel
theorem dX4_copy_74 : decode cX4_copy 74 = .ok (.iload 7, 2) := by decide +kernel
theorem dX4_copy_76 : decode cX4_copy 76 = .ok (.iload_n 3, 1) := by decide +kernel
theorem dX4_copy_77 : decode cX4_copy 77 = .ok (.idiv, 1) := by decide +kernel
theorem dX4_copy_78 : decode cX4_copy 78 = .ok (.iadd, 1) := by decide +kernel
theorem dX4_copy_79 : decode cX4_copy 79 = .ok (.istore 9, 2) := by decide +kernel
theorem dX4_copy_81 : decode cX4_copy 81 = .ok (.iload 8, 2) := by decide +kernel
theorem dX4_copy_83 : decode cX4_copy 83 = .ok (.iload 5, 2) := by decide +kernel
theorem dX4_copy_85 : decode cX4_copy 85 = .ok (.iadd, 1) := by decide +kernel
theorem dX4_copy_86 : decode cX4_copy 86 = .ok (.iload 9, 2) := by decide +kernel
theorem dX4_copy_88 : decode cX4_copy 88 = .ok (.iload 6, 2) := by decide +kernel
theorem dX4_copy_90 : decode cX4_copy 90 = .ok (.iadd, 1) := by decide +kernel
theorem dX4_copy_91 : decode cX4_copy 91 = .ok (.invokestatic 64, 3) := by decide +kernel
theorem dX4_copy_94 : decode cX4_copy 94 = .ok (.ifCond .eq 35, 3) := by decide +kernel
theorem dX4_copy_97 : decode cX4_copy 97 = .ok (.aload_n 0, 1) := by decide +kernel
theorem dX4_copy_98 : decode cX4_copy 98 = .ok (.getfield 7, 3) := by decide +kernel
theorem dX4_copy_101 : decode cX4_copy 101 = .ok (.bipush 16, 2) := by decide +kernel
theorem dX4_copy_103 : decode cX4_copy 103 = .ok (.iload 9, 2) := by decide +kernel
theorem dX4_copy_105 : decode cX4_copy 105 = .ok (.iload 6, 2) := by decide +kernel
theorem dX4_copy_107 : decode cX4_copy 107 = .ok (.iadd, 1) := by decide +kernel
theorem dX4_copy_108 : decode cX4_copy 108 = .ok (.imul, 1) := by decide +kernel
theorem dX4_copy_109 : decode cX4_copy 109 = .ok (.iload 8, 2) := by decide +kernel
theorem dX4_copy_111 : decode cX4_copy 111 = .ok (.iadd, 1) := by decide +kernel
theorem dX4_copy_112 : decode cX4_copy 112 = .ok (.iload 5, 2) := by decide +kernel
theorem dX4_copy_114 : decode cX4_copy 114 = .ok (.iadd, 1) := by decide +kernel
theorem dX4_copy_115 : decode cX4_copy 115 = .ok (.aload_n 0, 1) := by decide +kernel
theorem dX4_copy_116 : decode cX4_copy 116 = .ok (.getfield 13, 3) := by decide +kernel
theorem dX4_copy_119 : decode cX4_copy 119 = .ok (.bipush 16, 2) := by decide +kernel
theorem dX4_copy_121 : decode cX4_copy 121 = .ok (.iload 9, 2) := by decide +kernel
theorem dX4_copy_123 : decode cX4_copy 123 = .ok (.imul, 1) := by decide +kernel
theorem dX4_copy_124 : decode cX4_copy 124 = .ok (.iload 8, 2) := by decide +kernel
theorem dX4_copy_126 : decode cX4_copy 126 = .ok (.iadd, 1) := by decide +kernel
theorem dX4_copy_127 : decode cX4_copy 127 = .ok (.iaload, 1) := by decide +kernel
theorem dX4_copy_128 : decode cX4_copy 128 = .ok (.iastore, 1) := by decide +kernel
theorem dX4_copy_129 : decode cX4_copy 129 = .ok (.iinc 7 1, 3) := by decide +kernel
theorem dX4_copy_132 : decode cX4_copy 132 = .ok (.goto (-76), 3) := by decide +kernel
theorem dX4_copy_135 : decode cX4_copy 135 = .ok (.aload_n 0, 1) := by decide +kernel
theorem dX4_copy_136 : decode cX4_copy 136 = .ok (.invokevirtual 87, 3) := by decide +kernel
theorem dX4_copy_139 : decode cX4_copy 139 = .ok (.ireturn, 1) := by decide +kernel
set_option maxRecDepth 20000 in
theorem ggX4_colour_X4_isCell : GoodIn wsX4_colour wsX4_isCell := goodIn_r _ [5, 6, 7, 4, 8] (by decide +kernel) (by decide +kernel)
set_option maxRecDepth 20000 in
theorem gX4_colour_X4_isCell : GoodIn wsX4_colour (va_wsS RX4 64 yX4_isCell wsX4_isCell) := goodIn_app (goodIn_of _ (by decide +kernel)) ggX4_colour_X4_isCell
set_option maxRecDepth 20000 in
theorem ggX4_colour_X4_goesWell : GoodIn wsX4_colour wsX4_goesWell := goodIn_r _ [12, 13, 14, 15, 16, 17, 18, 19, 20, 21, 22, 23, 24, 25, 26, 27, 28, 29, 30] (by decide +kernel) (by decide +kernel)
set_option maxRecDepth 20000 in
theorem gX4_colour_X4_goesWell : GoodIn wsX4_colour (wsV RX4 80 RX4 yX4_goesWell wsX4_goesWell) := goodIn_app (goodIn_of _ (by decide +kernel)) ggX4_colour_X4_goesWell
theorem dX4_colour_0 : decode cX4_colour 0 = .ok (.aload_n 0, 1) := by decide +kernel
theorem dX4_colour_1 : decode cX4_colour 1 = .ok (.iload_n 1, 1) := by decide +kernel
theorem dX4_colour_2 : decode cX4_colour 2 = .ok (.iload_n 2, 1) := by decide +kernel
theorem dX4_colour_3 : decode cX4_colour 3 = .ok (.invokestatic 64, 3) := by decide +kernel
theorem dX4_colour_6 : decode cX4_colour 6 = .ok (.ifCond .eq 7, 3) := by decide +kernel
theorem dX4_colour_9 : decode cX4_colour 9 = .ok (.iconst 0, 1) := by decide +kernel
theorem dX4_colour_10 : decode cX4_colour 10 = .ok (.goto 4, 3) := by decide +kernel
theorem dX4_colour_13 : decode cX4_colour 13 = .ok (.iconst 1, 1) := by decide +kernel
theorem dX4_colour_14 : decode cX4_colour 14 = .ok (.invokevirtual 80, 3) := by decide +kernel
theorem dX4_colour_17 : decode cX4_colour 17 = .ok (.ifCond .eq 17, 3) := by decide +kernel
theorem dX4_colour_20 : decode cX4_colour 20 = .ok (.aload_n 0, 1) := by decide +kernel
theorem dX4_colour_21 : decode cX4_colour 21 = .ok (.getfield 7, 3) := by decide +kernel
theorem dX4_colour_24 : decode cX4_colour 24 = .ok (.bipush 16, 2) := by decide +kernel
theorem dX4_colour_26 : decode cX4_colour 26 = .ok (.iload_n 2, 1) := by decide +kernel
theorem dX4_colour_27 : decode cX4_colour 27 = .ok (.imul, 1) := by decide +kernel
theorem dX4_colour_28 : decode cX4_colour 28 = .ok (.iload_n 1, 1) := by decide +kernel
theorem dX4_colour_29 : decode cX4_colour 29 = .ok (.iadd, 1) := by decide +kernel
theorem dX4_colour_30 : decode cX4_colour 30 = .ok (.iaload, 1) := by decide +kernel
theorem dX4_colour_31 : decode cX4_colour 31 = .ok (.goto 4, 3) := by decide +kernel
theorem dX4_colour_34 : decode cX4_colour 34 = .ok (.iconst 0, 1) := by decide +kernel
theorem dX4_colour_35 : decode cX4_colour 35 = .ok (.ireturn, 1) := by decide +kernel
set_option maxRecDepth 20000 in
theorem ggX4_look_X4_cellOf : GoodIn wsX4_look wsX4_cellOf := goodIn_r _ [6] (by decide +kernel) (by decide +kernel)
set_option maxRecDepth 20000 in
theorem gX4_look_X4_cellOf : GoodIn wsX4_look (va_wsS RX4 68 yX4_cellOf wsX4_cellOf) := goodIn_app (goodIn_of _ (by decide +kernel)) ggX4_look_X4_cellOf
theorem dX4_look_0 : decode cX4_look 0 = .ok (.iconst 0, 1) := by decide +kernel
theorem dX4_look_1 : decode cX4_look 1 = .ok (.istore_n 2, 1) := by decide +kernel
theorem dX4_look_2 : decode cX4_look 2 = .ok (.iload_n 2, 1) := by decide +kernel
theorem dX4_look_3 : decode cX4_look 3 = .ok (.bipush 16, 2) := by decide +kernel
theorem dX4_look_5 : decode cX4_look 5 = .ok (.if_icmp .ge 25, 3) := by decide +kernel
theorem dX4_look_8 : decode cX4_look 8 = .ok (.aload_n 0, 1) := by decide +kernel
theorem dX4_look_9 : decode cX4_look 9 = .ok (.getfield 53, 3) := by decide +kernel
theorem dX4_look_12 : decode cX4_look 12 = .ok (.iload_n 2, 1) := by decide +kernel
theorem dX4_look_13 : decode cX4_look 13 = .ok (.aload_n 0, 1) := by decide +kernel
theorem dX4_look_14 : decode cX4_look 14 = .ok (.getfield 7, 3) := by decide +kernel
theorem dX4_look_17 : decode cX4_look 17 = .ok (.iload_n 1, 1) := by decide +kernel
theorem dX4_look_18 : decode cX4_look 18 = .ok (.iload_n 2, 1) := by decide +kernel
theorem dX4_look_19 : decode cX4_look 19 = .ok (.invokestatic 68, 3) := by decide +kernel
theorem dX4_look_22 : decode cX4_look 22 = .ok (.iaload, 1) := by decide +kernel
theorem dX4_look_23 : decode cX4_look 23 = .ok (.iastore, 1) := by decide +kernel
theorem dX4_look_24 : decode cX4_look 24 = .ok (.iinc 2 1, 3) := by decide +kernel
theorem dX4_look_27 : decode cX4_look 27 = .ok (.goto (-25), 3) := by decide +kernel
theorem dX4_look_30 : decode cX4_look 30 = .ok (.return_, 1) := by decide +kernel
theorem dX4_countColours_0 : decode cX4_countColours 0 = .ok (.iconst 0, 1) := by decide +kernel
theorem dX4_countColours_1 : decode cX4_countColours 1 = .ok (.istore_n 1, 1) := by decide +kernel
theorem dX4_countColours_2 : decode cX4_countColours 2 = .ok (.iconst 0, 1) := by decide +kernel
theorem dX4_countColours_3 : decode cX4_countColours 3 = .ok (.istore_n 2, 1) := by decide +kernel
theorem dX4_countColours_4 : decode cX4_countColours 4 = .ok (.iconst 0, 1) := by decide +kernel
theorem dX4_countColours_5 : decode cX4_countColours 5 = .ok (.istore_n 3, 1) := by decide +kernel
theorem dX4_countColours_6 : decode cX4_countColours 6 = .ok (.iload_n 3, 1) := by decide +kernel
theorem dX4_countColours_7 : decode cX4_countColours 7 = .ok (.bipush 16, 2) := by decide +kernel
theorem dX4_countColours_9 : decode cX4_countColours 9 = .ok (.if_icmp .ge 41, 3) := by decide +kernel
theorem dX4_countColours_12 : decode cX4_countColours 12 = .ok (.iload_n 2, 1) := by decide +kernel
theorem dX4_countColours_13 : decode cX4_countColours 13 = .ok (.iload_n 1, 1) := by decide +kernel
theorem dX4_countColours_14 : decode cX4_countColours 14 = .ok (.aload_n 0, 1) := by decide +kernel
theorem dX4_countColours_15 : decode cX4_countColours 15 = .ok (.getfield 53, 3) := by decide +kernel
theorem dX4_countColours_18 : decode cX4_countColours 18 = .ok (.iload_n 3, 1) := by decide +kernel
theorem dX4_countColours_19 : decode cX4_countColours 19 = .ok (.iaload, 1) := by decide +kernel
theorem dX4_countColours_20 : decode cX4_countColours 20 = .ok (.ishr, 1) := by decide +kernel
theorem dX4_countColours_21 : decode cX4_countColours 21 = .ok (.iconst 1, 1) := by decide +kernel
theorem dX4_countColours_22 : decode cX4_countColours 22 = .ok (.iand, 1) := by decide +kernel
theorem dX4_countColours_23 : decode cX4_countColours 23 = .ok (.ifCond .ne 7, 3) := by decide +kernel
theorem dX4_countColours_26 : decode cX4_countColours 26 = .ok (.iconst 1, 1) := by decide +kernel
theorem dX4_countColours_27 : decode cX4_countColours 27 = .ok (.goto 4, 3) := by decide +kernel
theorem dX4_countColours_30 : decode cX4_countColours 30 = .ok (.iconst 0, 1) := by decide +kernel
theorem dX4_countColours_31 : decode cX4_countColours 31 = .ok (.iadd, 1) := by decide +kernel
theorem dX4_countColours_32 : decode cX4_countColours 32 = .ok (.istore_n 2, 1) := by decide +kernel
theorem dX4_countColours_33 : decode cX4_countColours 33 = .ok (.iload_n 1, 1) := by decide +kernel
theorem dX4_countColours_34 : decode cX4_countColours 34 = .ok (.iconst 1, 1) := by decide +kernel
theorem dX4_countColours_35 : decode cX4_countColours 35 = .ok (.aload_n 0, 1) := by decide +kernel
theorem dX4_countColours_36 : decode cX4_countColours 36 = .ok (.getfield 53, 3) := by decide +kernel
theorem dX4_countColours_39 : decode cX4_countColours 39 = .ok (.iload_n 3, 1) := by decide +kernel
theorem dX4_countColours_40 : decode cX4_countColours 40 = .ok (.iaload, 1) := by decide +kernel
theorem dX4_countColours_41 : decode cX4_countColours 41 = .ok (.ishl, 1) := by decide +kernel
theorem dX4_countColours_42 : decode cX4_countColours 42 = .ok (.ior, 1) := by decide +kernel
theorem dX4_countColours_43 : decode cX4_countColours 43 = .ok (.istore_n 1, 1) := by decide +kernel
theorem dX4_countColours_44 : decode cX4_countColours 44 = .ok (.iinc 3 1, 3) := by decide +kernel
theorem dX4_countColours_47 : decode cX4_countColours 47 = .ok (.goto (-41), 3) := by decide +kernel
theorem dX4_countColours_50 : decode cX4_countColours 50 = .ok (.iload_n 2, 1) := by decide +kernel
theorem dX4_countColours_51 : decode cX4_countColours 51 = .ok (.ireturn, 1) := by decide +kernel
theorem dX4_countRuns_0 : decode cX4_countRuns 0 = .ok (.iconst 1, 1) := by decide +kernel
theorem dX4_countRuns_1 : decode cX4_countRuns 1 = .ok (.istore_n 1, 1) := by decide +kernel
theorem dX4_countRuns_2 : decode cX4_countRuns 2 = .ok (.iconst 1, 1) := by decide +kernel
theorem dX4_countRuns_3 : decode cX4_countRuns 3 = .ok (.istore_n 2, 1) := by decide +kernel
theorem dX4_countRuns_4 : decode cX4_countRuns 4 = .ok (.iload_n 2, 1) := by decide +kernel
theorem dX4_countRuns_5 : decode cX4_countRuns 5 = .ok (.bipush 16, 2) := by decide +kernel
theorem dX4_countRuns_7 : decode cX4_countRuns 7 = .ok (.if_icmp .ge 34, 3) := by decide +kernel
theorem dX4_countRuns_10 : decode cX4_countRuns 10 = .ok (.iload_n 1, 1) := by decide +kernel
theorem dX4_countRuns_11 : decode cX4_countRuns 11 = .ok (.aload_n 0, 1) := by decide +kernel
theorem dX4_countRuns_12 : decode cX4_countRuns 12 = .ok (.getfield 53, 3) := by decide +kernel
theorem dX4_countRuns_15 : decode cX4_countRuns 15 = .ok (.iload_n 2, 1) := by decide +kernel
theorem dX4_countRuns_16 : decode cX4_countRuns 16 = .ok (.iaload, 1) := by decide +kernel
theorem dX4_countRuns_17 : decode cX4_countRuns 17 = .ok (.aload_n 0, 1) := by decide +kernel
theorem dX4_countRuns_18 : decode cX4_countRuns 18 = .ok (.getfield 53, 3) := by decide +kernel
theorem dX4_countRuns_21 : decode cX4_countRuns 21 = .ok (.iload_n 2, 1) := by decide +kernel
theorem dX4_countRuns_22 : decode cX4_countRuns 22 = .ok (.iconst 1, 1) := by decide +kernel
theorem dX4_countRuns_23 : decode cX4_countRuns 23 = .ok (.isub, 1) := by decide +kernel
theorem dX4_countRuns_24 : decode cX4_countRuns 24 = .ok (.iaload, 1) := by decide +kernel
theorem dX4_countRuns_25 : decode cX4_countRuns 25 = .ok (.if_icmp .ne 7, 3) := by decide +kernel
theorem dX4_countRuns_28 : decode cX4_countRuns 28 = .ok (.iconst 0, 1) := by decide +kernel
theorem dX4_countRuns_29 : decode cX4_countRuns 29 = .ok (.goto 4, 3) := by decide +kernel
theorem dX4_countRuns_32 : decode cX4_countRuns 32 = .ok (.iconst 1, 1) := by decide +kernel
theorem dX4_countRuns_33 : decode cX4_countRuns 33 = .ok (.iadd, 1) := by decide +kernel
theorem dX4_countRuns_34 : decode cX4_countRuns 34 = .ok (.istore_n 1, 1) := by decide +kernel
theorem dX4_countRuns_35 : decode cX4_countRuns 35 = .ok (.iinc 2 1, 3) := by decide +kernel
theorem dX4_countRuns_38 : decode cX4_countRuns 38 = .ok (.goto (-34), 3) := by decide +kernel
theorem dX4_countRuns_41 : decode cX4_countRuns 41 = .ok (.iload_n 1, 1) := by decide +kernel
theorem dX4_countRuns_42 : decode cX4_countRuns 42 = .ok (.ireturn, 1) := by decide +kernel
set_option maxRecDepth 20000 in
theorem ggX4_colours_X4_isTile : GoodIn wsX4_colours wsX4_isTile := goodIn_r _ [4, 5, 6, 3, 7] (by decide +kernel) (by decide +kernel)
set_option maxRecDepth 20000 in
theorem gX4_colours_X4_isTile : GoodIn wsX4_colours (va_wsS RX4 91 yX4_isTile wsX4_isTile) := goodIn_app (goodIn_of _ (by decide +kernel)) ggX4_colours_X4_isTile
set_option maxRecDepth 20000 in
theorem ggX4_colours_X4_goesWell : GoodIn wsX4_colours wsX4_goesWell := goodIn_r _ [11, 12, 26, 27, 28, 29, 30, 31, 32, 33, 34, 35, 36, 37, 38, 39, 40, 41, 42] (by decide +kernel) (by decide +kernel)
set_option maxRecDepth 20000 in
theorem gX4_colours_X4_goesWell : GoodIn wsX4_colours (wsV RX4 80 RX4 yX4_goesWell wsX4_goesWell) := goodIn_app (goodIn_of _ (by decide +kernel)) ggX4_colours_X4_goesWell
set_option maxRecDepth 20000 in
theorem ggX4_colours_X4_look : GoodIn wsX4_colours wsX4_look := goodIn_r _ [16, 17, 18, 19, 20, 3, 21, 26, 27, 28, 29, 30, 31, 32, 33, 34, 35, 36, 37, 38, 39, 40, 41, 42] (by decide +kernel) (by decide +kernel)
set_option maxRecDepth 20000 in
theorem gX4_colours_X4_look : GoodIn wsX4_colours (wsV RX4 94 RX4 yX4_look wsX4_look) := goodIn_app (goodIn_of _ (by decide +kernel)) ggX4_colours_X4_look
set_option maxRecDepth 20000 in
theorem ggX4_colours_X4_countColours : GoodIn wsX4_colours wsX4_countColours := goodIn_r _ [25, 17, 26, 27, 28, 29, 30, 31, 32, 33, 34, 35, 36, 37, 38, 39, 40, 41, 42] (by decide +kernel) (by decide +kernel)
set_option maxRecDepth 20000 in
theorem gX4_colours_X4_countColours : GoodIn wsX4_colours (wsV RX4 98 RX4 yX4_countColours wsX4_countColours) := goodIn_app (goodIn_of _ (by decide +kernel)) ggX4_colours_X4_countColours
theorem dX4_colours_0 : decode cX4_colours 0 = .ok (.aload_n 0, 1) := by decide +kernel
theorem dX4_colours_1 : decode cX4_colours 1 = .ok (.iload_n 1, 1) := by decide +kernel
theorem dX4_colours_2 : decode cX4_colours 2 = .ok (.invokestatic 91, 3) := by decide +kernel
theorem dX4_colours_5 : decode cX4_colours 5 = .ok (.ifCond .eq 7, 3) := by decide +kernel
theorem dX4_colours_8 : decode cX4_colours 8 = .ok (.iconst 0, 1) := by decide +kernel
theorem dX4_colours_9 : decode cX4_colours 9 = .ok (.goto 4, 3) := by decide +kernel
theorem dX4_colours_12 : decode cX4_colours 12 = .ok (.iconst 1, 1) := by decide +kernel
theorem dX4_colours_13 : decode cX4_colours 13 = .ok (.invokevirtual 80, 3) := by decide +kernel
theorem dX4_colours_16 : decode cX4_colours 16 = .ok (.ifCond .ne 5, 3) := by decide +kernel
theorem dX4_colours_19 : decode cX4_colours 19 = .ok (.iconst 0, 1) := by decide +kernel
theorem dX4_colours_20 : decode cX4_colours 20 = .ok (.ireturn, 1) := by decide +kernel
theorem dX4_colours_21 : decode cX4_colours 21 = .ok (.aload_n 0, 1) := by decide +kernel
theorem dX4_colours_22 : decode cX4_colours 22 = .ok (.iload_n 1, 1) := by decide +kernel
theorem dX4_colours_23 : decode cX4_colours 23 = .ok (.invokevirtual 94, 3) := by decide +kernel
theorem dX4_colours_26 : decode cX4_colours 26 = .ok (.aload_n 0, 1) := by decide +kernel
theorem dX4_colours_27 : decode cX4_colours 27 = .ok (.invokevirtual 98, 3) := by decide +kernel
theorem dX4_colours_30 : decode cX4_colours 30 = .ok (.ireturn, 1) := by decide +kernel
set_option maxRecDepth 20000 in
theorem ggX4_runs_X4_isTile : GoodIn wsX4_runs wsX4_isTile := goodIn_r _ [4, 5, 6, 3, 7] (by decide +kernel) (by decide +kernel)
set_option maxRecDepth 20000 in
theorem gX4_runs_X4_isTile : GoodIn wsX4_runs (va_wsS RX4 91 yX4_isTile wsX4_isTile) := goodIn_app (goodIn_of _ (by decide +kernel)) ggX4_runs_X4_isTile
set_option maxRecDepth 20000 in
theorem ggX4_runs_X4_goesWell : GoodIn wsX4_runs wsX4_goesWell := goodIn_r _ [11, 12, 26, 27, 28, 29, 30, 31, 32, 33, 34, 35, 36, 37, 38, 39, 40, 41, 42] (by decide +kernel) (by decide +kernel)
set_option maxRecDepth 20000 in
theorem gX4_runs_X4_goesWell : GoodIn wsX4_runs (wsV RX4 80 RX4 yX4_goesWell wsX4_goesWell) := goodIn_app (goodIn_of _ (by decide +kernel)) ggX4_runs_X4_goesWell
set_option maxRecDepth 20000 in
theorem ggX4_runs_X4_look : GoodIn wsX4_runs wsX4_look := goodIn_r _ [16, 17, 18, 19, 20, 3, 21, 26, 27, 28, 29, 30, 31, 32, 33, 34, 35, 36, 37, 38, 39, 40, 41, 42] (by decide +kernel) (by decide +kernel)
set_option maxRecDepth 20000 in
theorem gX4_runs_X4_look : GoodIn wsX4_runs (wsV RX4 94 RX4 yX4_look wsX4_look) := goodIn_app (goodIn_of _ (by decide +kernel)) ggX4_runs_X4_look
set_option maxRecDepth 20000 in
theorem ggX4_runs_X4_countRuns : GoodIn wsX4_runs wsX4_countRuns := goodIn_r _ [25, 17, 26, 27, 28, 29, 30, 31, 32, 33, 34, 35, 36, 37, 38, 39, 40, 41, 42] (by decide +kernel) (by decide +kernel)
set_option maxRecDepth 20000 in
theorem gX4_runs_X4_countRuns : GoodIn wsX4_runs (wsV RX4 101 RX4 yX4_countRuns wsX4_countRuns) := goodIn_app (goodIn_of _ (by decide +kernel)) ggX4_runs_X4_countRuns
theorem dX4_runs_0 : decode cX4_runs 0 = .ok (.aload_n 0, 1) := by decide +kernel
theorem dX4_runs_1 : decode cX4_runs 1 = .ok (.iload_n 1, 1) := by decide +kernel
theorem dX4_runs_2 : decode cX4_runs 2 = .ok (.invokestatic 91, 3) := by decide +kernel
theorem dX4_runs_5 : decode cX4_runs 5 = .ok (.ifCond .eq 7, 3) := by decide +kernel
theorem dX4_runs_8 : decode cX4_runs 8 = .ok (.iconst 0, 1) := by decide +kernel
theorem dX4_runs_9 : decode cX4_runs 9 = .ok (.goto 4, 3) := by decide +kernel
theorem dX4_runs_12 : decode cX4_runs 12 = .ok (.iconst 1, 1) := by decide +kernel
theorem dX4_runs_13 : decode cX4_runs 13 = .ok (.invokevirtual 80, 3) := by decide +kernel
theorem dX4_runs_16 : decode cX4_runs 16 = .ok (.ifCond .ne 5, 3) := by decide +kernel
theorem dX4_runs_19 : decode cX4_runs 19 = .ok (.iconst 0, 1) := by decide +kernel
theorem dX4_runs_20 : decode cX4_runs 20 = .ok (.ireturn, 1) := by decide +kernel
theorem dX4_runs_21 : decode cX4_runs 21 = .ok (.aload_n 0, 1) := by decide +kernel
theorem dX4_runs_22 : decode cX4_runs 22 = .ok (.iload_n 1, 1) := by decide +kernel
theorem dX4_runs_23 : decode cX4_runs 23 = .ok (.invokevirtual 94, 3) := by decide +kernel
theorem dX4_runs_26 : decode cX4_runs 26 = .ok (.aload_n 0, 1) := by decide +kernel
theorem dX4_runs_27 : decode cX4_runs 27 = .ok (.invokevirtual 101, 3) := by decide +kernel
theorem dX4_runs_30 : decode cX4_runs 30 = .ok (.ireturn, 1) := by decide +kernel
theorem dX4_find_0 : decode cX4_find 0 = .ok (.iconst 0, 1) := by decide +kernel
theorem dX4_find_1 : decode cX4_find 1 = .ok (.istore_n 2, 1) := by decide +kernel
theorem dX4_find_2 : decode cX4_find 2 = .ok (.iload_n 2, 1) := by decide +kernel
theorem dX4_find_3 : decode cX4_find 3 = .ok (.aload_n 0, 1) := by decide +kernel
theorem dX4_find_4 : decode cX4_find 4 = .ok (.getfield 26, 3) := by decide +kernel
theorem dX4_find_7 : decode cX4_find 7 = .ok (.iload_n 1, 1) := by decide +kernel
theorem dX4_find_8 : decode cX4_find 8 = .ok (.iaload, 1) := by decide +kernel
theorem dX4_find_9 : decode cX4_find 9 = .ok (.if_icmp .ge 70, 3) := by decide +kernel
theorem dX4_find_12 : decode cX4_find 12 = .ok (.iconst 1, 1) := by decide +kernel
theorem dX4_find_13 : decode cX4_find 13 = .ok (.istore_n 3, 1) := by decide +kernel
theorem dX4_find_14 : decode cX4_find 14 = .ok (.iconst 0, 1) := by decide +kernel
theorem dX4_find_15 : decode cX4_find 15 = .ok (.istore 4, 2) := by decide +kernel
theorem dX4_find_17 : decode cX4_find 17 = .ok (.iload 4, 2) := by decide +kernel
theorem dX4_find_19 : decode cX4_find 19 = .ok (.bipush 16, 2) := by decide +kernel
theorem dX4_find_21 : decode cX4_find 21 = .ok (.if_icmp .ge 46, 3) := by decide +kernel
theorem dX4_find_24 : decode cX4_find 24 = .ok (.iload_n 3, 1) := by decide +kernel
theorem dX4_find_25 : decode cX4_find 25 = .ok (.ifCond .eq 34, 3) := by decide +kernel
theorem dX4_find_28 : decode cX4_find 28 = .ok (.aload_n 0, 1) := by decide +kernel
theorem dX4_find_29 : decode cX4_find 29 = .ok (.getfield 23, 3) := by decide +kernel
theorem dX4_find_32 : decode cX4_find 32 = .ok (.bipush 112, 2) := by decide +kernel
theorem dX4_find_34 : decode cX4_find 34 = .ok (.iload_n 1, 1) := by decide +kernel
theorem dX4_find_35 : decode cX4_find 35 = .ok (.imul, 1) := by decide +kernel
theorem dX4_find_36 : decode cX4_find 36 = .ok (.bipush 16, 2) := by decide +kernel
theorem dX4_find_38 : decode cX4_find 38 = .ok (.iload_n 2, 1) := by decide +kernel
theorem dX4_find_39 : decode cX4_find 39 = .ok (.imul, 1) := by decide +kernel
theorem dX4_find_40 : decode cX4_find 40 = .ok (.iadd, 1) := by decide +kernel
theorem dX4_find_41 : decode cX4_find 41 = .ok (.iload 4, 2) := by decide +kernel
theorem dX4_find_43 : decode cX4_find 43 = .ok (.iadd, 1) := by decide +kernel
theorem dX4_find_44 : decode cX4_find 44 = .ok (.iaload, 1) := by decide +kernel
theorem dX4_find_45 : decode cX4_find 45 = .ok (.aload_n 0, 1) := by decide +kernel
theorem dX4_find_46 : decode cX4_find 46 = .ok (.getfield 53, 3) := by decide +kernel
theorem dX4_find_49 : decode cX4_find 49 = .ok (.iload 4, 2) := by decide +kernel
theorem dX4_find_51 : decode cX4_find 51 = .ok (.iaload, 1) := by decide +kernel
theorem dX4_find_52 : decode cX4_find 52 = .ok (.if_icmp .ne 7, 3) := by decide +kernel
theorem dX4_find_55 : decode cX4_find 55 = .ok (.iconst 1, 1) := by decide +kernel
theorem dX4_find_56 : decode cX4_find 56 = .ok (.goto 4, 3) := by decide +kernel
theorem dX4_find_59 : decode cX4_find 59 = .ok (.iconst 0, 1) := by decide +kernel
theorem dX4_find_60 : decode cX4_find 60 = .ok (.istore_n 3, 1) := by decide +kernel
theorem dX4_find_61 : decode cX4_find 61 = .ok (.iinc 4 1, 3) := by decide +kernel
theorem dX4_find_64 : decode cX4_find 64 = .ok (.goto (-47), 3) := by decide +kernel
theorem dX4_find_67 : decode cX4_find 67 = .ok (.iload_n 3, 1) := by decide +kernel
theorem dX4_find_68 : decode cX4_find 68 = .ok (.ifCond .eq 5, 3) := by decide +kernel
theorem dX4_find_71 : decode cX4_find 71 = .ok (.iload_n 2, 1) := by decide +kernel
theorem dX4_find_72 : decode cX4_find 72 = .ok (.ireturn, 1) := by decide +kernel
theorem dX4_find_73 : decode cX4_find 73 = .ok (.iinc 2 1, 3) := by decide +kernel
theorem dX4_find_76 : decode cX4_find 76 = .ok (.goto (-74), 3) := by decide +kernel
theorem dX4_find_79 : decode cX4_find 79 = .ok (.iconst (-1), 1) := by decide +kernel
theorem dX4_find_80 : decode cX4_find 80 = .ok (.ireturn, 1) := by decide +kernel
theorem dX4_better_0 : decode cX4_better 0 = .ok (.iload_n 2, 1) := by decide +kernel
theorem dX4_better_1 : decode cX4_better 1 = .ok (.iload_n 0, 1) := by decide +kernel
theorem dX4_better_2 : decode cX4_better 2 = .ok (.bipush 100, 2) := by decide +kernel
theorem dX4_better_4 : decode cX4_better 4 = .ok (.irem, 1) := by decide +kernel
theorem dX4_better_5 : decode cX4_better 5 = .ok (.if_icmp .ge 12, 3) := by decide +kernel
theorem dX4_better_8 : decode cX4_better 8 = .ok (.bipush 100, 2) := by decide +kernel
theorem dX4_better_10 : decode cX4_better 10 = .ok (.iload_n 1, 1) := by decide +kernel
theorem dX4_better_11 : decode cX4_better 11 = .ok (.imul, 1) := by decide +kernel
theorem dX4_better_12 : decode cX4_better 12 = .ok (.iload_n 2, 1) := by decide +kernel
theorem dX4_better_13 : decode cX4_better 13 = .ok (.iadd, 1) := by decide +kernel
theorem dX4_better_14 : decode cX4_better 14 = .ok (.goto 4, 3) := by decide +kernel
theorem dX4_better_17 : decode cX4_better 17 = .ok (.iload_n 0, 1) := by decide +kernel
theorem dX4_better_18 : decode cX4_better 18 = .ok (.ireturn, 1) := by decide +kernel
set_option maxRecDepth 20000 in
theorem ggX4_wayOf_X4_countColours : GoodIn wsX4_wayOf wsX4_countColours := goodIn_r _ [5, 6, 23, 24, 25, 26, 27, 28, 29, 30, 31, 32, 33, 34, 35, 36, 37, 38, 39] (by decide +kernel) (by decide +kernel)
set_option maxRecDepth 20000 in
theorem gX4_wayOf_X4_countColours : GoodIn wsX4_wayOf (wsV RX4 98 RX4 yX4_countColours wsX4_countColours) := goodIn_app (goodIn_of _ (by decide +kernel)) ggX4_wayOf_X4_countColours
set_option maxRecDepth 20000 in
theorem ggX4_wayOf_X4_find : GoodIn wsX4_wayOf wsX4_find := goodIn_r _ [10, 11, 12, 6, 23, 24, 25, 26, 27, 28, 29, 30, 31, 32, 33, 34, 35, 36, 37, 38, 39] (by decide +kernel) (by decide +kernel)
set_option maxRecDepth 20000 in
theorem gX4_wayOf_X4_find : GoodIn wsX4_wayOf (wsV RX4 104 RX4 yX4_find wsX4_find) := goodIn_app (goodIn_of _ (by decide +kernel)) ggX4_wayOf_X4_find
set_option maxRecDepth 20000 in
theorem ggX4_wayOf_X4_better : GoodIn wsX4_wayOf wsX4_better := goodIn_r _ [15] (by decide +kernel) (by decide +kernel)
set_option maxRecDepth 20000 in
theorem gX4_wayOf_X4_better : GoodIn wsX4_wayOf (va_wsS RX4 108 yX4_better wsX4_better) := goodIn_app (goodIn_of _ (by decide +kernel)) ggX4_wayOf_X4_better
set_option maxRecDepth 20000 in
theorem ggX4_wayOf_X4_in : GoodIn wsX4_wayOf wsX4_in := goodIn_r _ [18] (by decide +kernel) (by decide +kernel)
set_option maxRecDepth 20000 in
theorem gX4_wayOf_X4_in : GoodIn wsX4_wayOf (va_wsS RX4 60 yX4_in wsX4_in) := goodIn_app (goodIn_of _ (by decide +kernel)) ggX4_wayOf_X4_in
set_option maxRecDepth 20000 in
theorem ggX4_wayOf_X4_countRuns : GoodIn wsX4_wayOf wsX4_countRuns := goodIn_r _ [22, 6, 23, 24, 25, 26, 27, 28, 29, 30, 31, 32, 33, 34, 35, 36, 37, 38, 39] (by decide +kernel) (by decide +kernel)
set_option maxRecDepth 20000 in
theorem gX4_wayOf_X4_countRuns : GoodIn wsX4_wayOf (wsV RX4 101 RX4 yX4_countRuns wsX4_countRuns) := goodIn_app (goodIn_of _ (by decide +kernel)) ggX4_wayOf_X4_countRuns
theorem dX4_wayOf_0 : decode cX4_wayOf 0 = .ok (.aload_n 0, 1) := by decide +kernel
theorem dX4_wayOf_1 : decode cX4_wayOf 1 = .ok (.invokevirtual 98, 3) := by decide +kernel
theorem dX4_wayOf_4 : decode cX4_wayOf 4 = .ok (.istore_n 2, 1) := by decide +kernel
theorem dX4_wayOf_5 : decode cX4_wayOf 5 = .ok (.sipush 499, 3) := by decide +kernel
theorem dX4_wayOf_8 : decode cX4_wayOf 8 = .ok (.istore_n 3, 1) := by decide +kernel
theorem dX4_wayOf_9 : decode cX4_wayOf 9 = .ok (.aload_n 0, 1) := by decide +kernel
theorem dX4_wayOf_10 : decode cX4_wayOf 10 = .ok (.iload_n 1, 1) := by decide +kernel
theorem dX4_wayOf_11 : decode cX4_wayOf 11 = .ok (.invokevirtual 104, 3) := by decide +kernel
theorem dX4_wayOf_14 : decode cX4_wayOf 14 = .ok (.iconst (-1), 1) := by decide +kernel
theorem dX4_wayOf_15 : decode cX4_wayOf 15 = .ok (.if_icmp .eq 12, 3) := by decide +kernel
theorem dX4_wayOf_18 : decode cX4_wayOf 18 = .ok (.iload_n 3, 1) := by decide +kernel
theorem dX4_wayOf_19 : decode cX4_wayOf 19 = .ok (.iconst 0, 1) := by decide +kernel
theorem dX4_wayOf_20 : decode cX4_wayOf 20 = .ok (.iconst 2, 1) := by decide +kernel
theorem dX4_wayOf_21 : decode cX4_wayOf 21 = .ok (.invokestatic 108, 3) := by decide +kernel
theorem dX4_wayOf_24 : decode cX4_wayOf 24 = .ok (.goto 4, 3) := by decide +kernel
theorem dX4_wayOf_27 : decode cX4_wayOf 27 = .ok (.iload_n 3, 1) := by decide +kernel
theorem dX4_wayOf_28 : decode cX4_wayOf 28 = .ok (.istore_n 3, 1) := by decide +kernel
theorem dX4_wayOf_29 : decode cX4_wayOf 29 = .ok (.iload_n 2, 1) := by decide +kernel
theorem dX4_wayOf_30 : decode cX4_wayOf 30 = .ok (.iconst 1, 1) := by decide +kernel
theorem dX4_wayOf_31 : decode cX4_wayOf 31 = .ok (.if_icmp .ne 12, 3) := by decide +kernel
theorem dX4_wayOf_34 : decode cX4_wayOf 34 = .ok (.iload_n 3, 1) := by decide +kernel
theorem dX4_wayOf_35 : decode cX4_wayOf 35 = .ok (.iconst 1, 1) := by decide +kernel
theorem dX4_wayOf_36 : decode cX4_wayOf 36 = .ok (.iconst 3, 1) := by decide +kernel
theorem dX4_wayOf_37 : decode cX4_wayOf 37 = .ok (.invokestatic 108, 3) := by decide +kernel
theorem dX4_wayOf_40 : decode cX4_wayOf 40 = .ok (.goto 4, 3) := by decide +kernel
theorem dX4_wayOf_43 : decode cX4_wayOf 43 = .ok (.iload_n 3, 1) := by decide +kernel
theorem dX4_wayOf_44 : decode cX4_wayOf 44 = .ok (.istore_n 3, 1) := by decide +kernel
theorem dX4_wayOf_45 : decode cX4_wayOf 45 = .ok (.iload_n 2, 1) := by decide +kernel
theorem dX4_wayOf_46 : decode cX4_wayOf 46 = .ok (.iconst 2, 1) := by decide +kernel
theorem dX4_wayOf_47 : decode cX4_wayOf 47 = .ok (.iconst 4, 1) := by decide +kernel
theorem dX4_wayOf_48 : decode cX4_wayOf 48 = .ok (.invokestatic 60, 3) := by decide +kernel
theorem dX4_wayOf_51 : decode cX4_wayOf 51 = .ok (.ifCond .eq 33, 3) := by decide +kernel
theorem dX4_wayOf_54 : decode cX4_wayOf 54 = .ok (.iload_n 3, 1) := by decide +kernel
theorem dX4_wayOf_55 : decode cX4_wayOf 55 = .ok (.iconst 2, 1) := by decide +kernel
theorem dX4_wayOf_56 : decode cX4_wayOf 56 = .ok (.iload_n 2, 1) := by decide +kernel
theorem dX4_wayOf_57 : decode cX4_wayOf 57 = .ok (.iconst 2, 1) := by decide +kernel
theorem dX4_wayOf_58 : decode cX4_wayOf 58 = .ok (.if_icmp .ne 8, 3) := by decide +kernel
theorem dX4_wayOf_61 : decode cX4_wayOf 61 = .ok (.bipush 10, 2) := by decide +kernel
theorem dX4_wayOf_63 : decode cX4_wayOf 63 = .ok (.goto 15, 3) := by decide +kernel
theorem dX4_wayOf_66 : decode cX4_wayOf 66 = .ok (.iload_n 2, 1) := by decide +kernel
theorem dX4_wayOf_67 : decode cX4_wayOf 67 = .ok (.iconst 3, 1) := by decide +kernel
theorem dX4_wayOf_68 : decode cX4_wayOf 68 = .ok (.if_icmp .ne 8, 3) := by decide +kernel
theorem dX4_wayOf_71 : decode cX4_wayOf 71 = .ok (.bipush 15, 2) := by decide +kernel
theorem dX4_wayOf_73 : decode cX4_wayOf 73 = .ok (.goto 5, 3) := by decide +kernel
theorem dX4_wayOf_76 : decode cX4_wayOf 76 = .ok (.bipush 16, 2) := by decide +kernel
theorem dX4_wayOf_78 : decode cX4_wayOf 78 = .ok (.invokestatic 108, 3) := by decide +kernel
theorem dX4_wayOf_81 : decode cX4_wayOf 81 = .ok (.goto 4, 3) := by decide +kernel
theorem dX4_wayOf_84 : decode cX4_wayOf 84 = .ok (.iload_n 3, 1) := by decide +kernel
theorem dX4_wayOf_85 : decode cX4_wayOf 85 = .ok (.istore_n 3, 1) := by decide +kernel
theorem dX4_wayOf_86 : decode cX4_wayOf 86 = .ok (.iload_n 3, 1) := by decide +kernel
theorem dX4_wayOf_87 : decode cX4_wayOf 87 = .ok (.iconst 3, 1) := by decide +kernel
theorem dX4_wayOf_88 : decode cX4_wayOf 88 = .ok (.iconst 1, 1) := by decide +kernel
theorem dX4_wayOf_89 : decode cX4_wayOf 89 = .ok (.iconst 2, 1) := by decide +kernel
theorem dX4_wayOf_90 : decode cX4_wayOf 90 = .ok (.aload_n 0, 1) := by decide +kernel
theorem dX4_wayOf_91 : decode cX4_wayOf 91 = .ok (.invokevirtual 101, 3) := by decide +kernel
theorem dX4_wayOf_94 : decode cX4_wayOf 94 = .ok (.imul, 1) := by decide +kernel
theorem dX4_wayOf_95 : decode cX4_wayOf 95 = .ok (.iadd, 1) := by decide +kernel
theorem dX4_wayOf_96 : decode cX4_wayOf 96 = .ok (.invokestatic 108, 3) := by decide +kernel
theorem dX4_wayOf_99 : decode cX4_wayOf 99 = .ok (.istore_n 3, 1) := by decide +kernel
theorem dX4_wayOf_100 : decode cX4_wayOf 100 = .ok (.iload_n 3, 1) := by decide +kernel
theorem dX4_wayOf_101 : decode cX4_wayOf 101 = .ok (.iconst 4, 1) := by decide +kernel
theorem dX4_wayOf_102 : decode cX4_wayOf 102 = .ok (.bipush 17, 2) := by decide +kernel
theorem dX4_wayOf_104 : decode cX4_wayOf 104 = .ok (.invokestatic 108, 3) := by decide +kernel
theorem dX4_wayOf_107 : decode cX4_wayOf 107 = .ok (.ireturn, 1) := by decide +kernel
set_option maxRecDepth 20000 in
theorem ggX4_way_X4_isClient : GoodIn wsX4_way wsX4_isClient := goodIn_r _ [5, 6, 7, 4, 8] (by decide +kernel) (by decide +kernel)
set_option maxRecDepth 20000 in
theorem gX4_way_X4_isClient : GoodIn wsX4_way (va_wsS RX4 112 yX4_isClient wsX4_isClient) := goodIn_app (goodIn_of _ (by decide +kernel)) ggX4_way_X4_isClient
set_option maxRecDepth 20000 in
theorem ggX4_way_X4_isTile : GoodIn wsX4_way wsX4_isTile := goodIn_r _ [11, 6, 7, 4, 8] (by decide +kernel) (by decide +kernel)
set_option maxRecDepth 20000 in
theorem gX4_way_X4_isTile : GoodIn wsX4_way (va_wsS RX4 91 yX4_isTile wsX4_isTile) := goodIn_app (goodIn_of _ (by decide +kernel)) ggX4_way_X4_isTile
set_option maxRecDepth 20000 in
theorem ggX4_way_X4_goesWell : GoodIn wsX4_way wsX4_goesWell := goodIn_r _ [15, 16, 47, 48, 49, 50, 51, 52, 53, 54, 55, 56, 57, 58, 59, 60, 61, 62, 63] (by decide +kernel) (by decide +kernel)
set_option maxRecDepth 20000 in
theorem gX4_way_X4_goesWell : GoodIn wsX4_way (wsV RX4 80 RX4 yX4_goesWell wsX4_goesWell) := goodIn_app (goodIn_of _ (by decide +kernel)) ggX4_way_X4_goesWell
set_option maxRecDepth 20000 in
theorem ggX4_way_X4_look : GoodIn wsX4_way wsX4_look := goodIn_r _ [20, 21, 22, 23, 24, 4, 25, 47, 48, 49, 50, 51, 52, 53, 54, 55, 56, 57, 58, 59, 60, 61, 62, 63] (by decide +kernel) (by decide +kernel)
set_option maxRecDepth 20000 in
theorem gX4_way_X4_look : GoodIn wsX4_way (wsV RX4 94 RX4 yX4_look wsX4_look) := goodIn_app (goodIn_of _ (by decide +kernel)) ggX4_way_X4_look
set_option maxRecDepth 20000 in
theorem ggX4_way_X4_wayOf : GoodIn wsX4_way wsX4_wayOf := goodIn_r _ [29, 30, 31, 32, 4, 33, 21, 34, 35, 36, 37, 38, 39, 40, 41, 42, 6, 7, 8, 43, 44, 45, 46, 47, 48, 49, 50, 51, 52, 53, 54, 55, 56, 57, 58, 59, 60, 61, 62, 63] (by decide +kernel) (by decide +kernel)
set_option maxRecDepth 20000 in
theorem gX4_way_X4_wayOf : GoodIn wsX4_way (wsV RX4 115 RX4 yX4_wayOf wsX4_wayOf) := goodIn_app (goodIn_of _ (by decide +kernel)) ggX4_way_X4_wayOf
theorem dX4_way_0 : decode cX4_way 0 = .ok (.iload_n 1, 1) := by decide +kernel
theorem dX4_way_1 : decode cX4_way 1 = .ok (.invokestatic 112, 3) := by decide +kernel
theorem dX4_way_4 : decode cX4_way 4 = .ok (.ifCond .eq 14, 3) := by decide +kernel
theorem dX4_way_7 : decode cX4_way 7 = .ok (.iload_n 2, 1) := by decide +kernel
theorem dX4_way_8 : decode cX4_way 8 = .ok (.invokestatic 91, 3) := by decide +kernel
theorem dX4_way_11 : decode cX4_way 11 = .ok (.ifCond .eq 7, 3) := by decide +kernel
theorem dX4_way_14 : decode cX4_way 14 = .ok (.iconst 1, 1) := by decide +kernel
theorem dX4_way_15 : decode cX4_way 15 = .ok (.goto 4, 3) := by decide +kernel
theorem dX4_way_18 : decode cX4_way 18 = .ok (.iconst 0, 1) := by decide +kernel
theorem dX4_way_19 : decode cX4_way 19 = .ok (.istore_n 3, 1) := by decide +kernel
theorem dX4_way_20 : decode cX4_way 20 = .ok (.aload_n 0, 1) := by decide +kernel
theorem dX4_way_21 : decode cX4_way 21 = .ok (.iload_n 3, 1) := by decide +kernel
theorem dX4_way_22 : decode cX4_way 22 = .ok (.ifCond .ne 7, 3) := by decide +kernel
theorem dX4_way_25 : decode cX4_way 25 = .ok (.iconst 1, 1) := by decide +kernel
theorem dX4_way_26 : decode cX4_way 26 = .ok (.goto 17, 3) := by decide +kernel
theorem dX4_way_29 : decode cX4_way 29 = .ok (.aload_n 0, 1) := by decide +kernel
theorem dX4_way_30 : decode cX4_way 30 = .ok (.getfield 16, 3) := by decide +kernel
theorem dX4_way_33 : decode cX4_way 33 = .ok (.iload_n 1, 1) := by decide +kernel
theorem dX4_way_34 : decode cX4_way 34 = .ok (.baload, 1) := by decide +kernel
theorem dX4_way_35 : decode cX4_way 35 = .ok (.ifCond .eq 7, 3) := by decide +kernel
theorem dX4_way_38 : decode cX4_way 38 = .ok (.iconst 0, 1) := by decide +kernel
theorem dX4_way_39 : decode cX4_way 39 = .ok (.goto 4, 3) := by decide +kernel
theorem dX4_way_42 : decode cX4_way 42 = .ok (.iconst 2, 1) := by decide +kernel
theorem dX4_way_43 : decode cX4_way 43 = .ok (.invokevirtual 80, 3) := by decide +kernel
theorem dX4_way_46 : decode cX4_way 46 = .ok (.ifCond .ne 5, 3) := by decide +kernel
theorem dX4_way_49 : decode cX4_way 49 = .ok (.iconst 0, 1) := by decide +kernel
theorem dX4_way_50 : decode cX4_way 50 = .ok (.ireturn, 1) := by decide +kernel
theorem dX4_way_51 : decode cX4_way 51 = .ok (.aload_n 0, 1) := by decide +kernel
theorem dX4_way_52 : decode cX4_way 52 = .ok (.iload_n 2, 1) := by decide +kernel
theorem dX4_way_53 : decode cX4_way 53 = .ok (.invokevirtual 94, 3) := by decide +kernel
theorem dX4_way_56 : decode cX4_way 56 = .ok (.aload_n 0, 1) := by decide +kernel
theorem dX4_way_57 : decode cX4_way 57 = .ok (.iload_n 1, 1) := by decide +kernel
theorem dX4_way_58 : decode cX4_way 58 = .ok (.invokevirtual 115, 3) := by decide +kernel
theorem dX4_way_61 : decode cX4_way 61 = .ok (.ireturn, 1) := by decide +kernel
set_option maxRecDepth 20000 in
theorem ggX4_join_X4_isClient : GoodIn wsX4_join wsX4_isClient := goodIn_r _ [11, 12, 13, 10, 14] (by decide +kernel) (by decide +kernel)
set_option maxRecDepth 20000 in
theorem gX4_join_X4_isClient : GoodIn wsX4_join (va_wsS RX4 112 yX4_isClient wsX4_isClient) := goodIn_app (goodIn_of _ (by decide +kernel)) ggX4_join_X4_isClient
set_option maxRecDepth 20000 in
theorem ggX4_join_X4_goesWell : GoodIn wsX4_join wsX4_goesWell := goodIn_r _ [18, 19, 20, 21, 22, 23, 24, 25, 26, 27, 28, 29, 30, 31, 32, 33, 34, 35, 36] (by decide +kernel) (by decide +kernel)
set_option maxRecDepth 20000 in
theorem gX4_join_X4_goesWell : GoodIn wsX4_join (wsV RX4 80 RX4 yX4_goesWell wsX4_goesWell) := goodIn_app (goodIn_of _ (by decide +kernel)) ggX4_join_X4_goesWell
theorem dX4_join_0 : decode cX4_join 0 = .ok (.aload_n 0, 1) := by decide +kernel
theorem dX4_join_1 : decode cX4_join 1 = .ok (.iload_n 1, 1) := by decide +kernel
theorem dX4_join_2 : decode cX4_join 2 = .ok (.invokestatic 112, 3) := by decide +kernel
theorem dX4_join_5 : decode cX4_join 5 = .ok (.ifCond .eq 7, 3) := by decide +kernel
theorem dX4_join_8 : decode cX4_join 8 = .ok (.iconst 0, 1) := by decide +kernel
theorem dX4_join_9 : decode cX4_join 9 = .ok (.goto 4, 3) := by decide +kernel
theorem dX4_join_12 : decode cX4_join 12 = .ok (.iconst 1, 1) := by decide +kernel
theorem dX4_join_13 : decode cX4_join 13 = .ok (.invokevirtual 80, 3) := by decide +kernel
theorem dX4_join_16 : decode cX4_join 16 = .ok (.ifCond .ne 5, 3) := by decide +kernel
theorem dX4_join_19 : decode cX4_join 19 = .ok (.iconst 0, 1) := by decide +kernel
theorem dX4_join_20 : decode cX4_join 20 = .ok (.ireturn, 1) := by decide +kernel
theorem dX4_join_21 : decode cX4_join 21 = .ok (.aload_n 0, 1) := by decide +kernel
theorem dX4_join_22 : decode cX4_join 22 = .ok (.getfield 16, 3) := by decide +kernel
theorem dX4_join_25 : decode cX4_join 25 = .ok (.iload_n 1, 1) := by decide +kernel
theorem dX4_join_26 : decode cX4_join 26 = .ok (.iconst 1, 1) := by decide +kernel
theorem dX4_join_27 : decode cX4_join 27 = .ok (.bastore, 1) := by decide +kernel
theorem dX4_join_28 : decode cX4_join 28 = .ok (.aload_n 0, 1) := by decide +kernel
theorem dX4_join_29 : decode cX4_join 29 = .ok (.getfield 26, 3) := by decide +kernel
theorem dX4_join_32 : decode cX4_join 32 = .ok (.iload_n 1, 1) := by decide +kernel
theorem dX4_join_33 : decode cX4_join 33 = .ok (.iconst 0, 1) := by decide +kernel
theorem dX4_join_34 : decode cX4_join 34 = .ok (.iastore, 1) := by decide +kernel
theorem dX4_join_35 : decode cX4_join 35 = .ok (.aload_n 0, 1) := by decide +kernel
theorem dX4_join_36 : decode cX4_join 36 = .ok (.getfield 32, 3) := by decide +kernel
theorem dX4_join_39 : decode cX4_join 39 = .ok (.iload_n 1, 1) := by decide +kernel
theorem dX4_join_40 : decode cX4_join 40 = .ok (.iconst 0, 1) := by decide +kernel
theorem dX4_join_41 : decode cX4_join 41 = .ok (.iastore, 1) := by decide +kernel
theorem dX4_join_42 : decode cX4_join 42 = .ok (.aload_n 0, 1) := by decide +kernel
theorem dX4_join_43 : decode cX4_join 43 = .ok (.getfield 47, 3) := by decide +kernel
theorem dX4_join_46 : decode cX4_join 46 = .ok (.iload_n 1, 1) := by decide +kernel
theorem dX4_join_47 : decode cX4_join 47 = .ok (.iconst 0, 1) := by decide +kernel
theorem dX4_join_48 : decode cX4_join 48 = .ok (.iastore, 1) := by decide +kernel
theorem dX4_join_49 : decode cX4_join 49 = .ok (.aload_n 0, 1) := by decide +kernel
theorem dX4_join_50 : decode cX4_join 50 = .ok (.getfield 38, 3) := by decide +kernel
theorem dX4_join_53 : decode cX4_join 53 = .ok (.iload_n 1, 1) := by decide +kernel
theorem dX4_join_54 : decode cX4_join 54 = .ok (.bipush 12, 2) := by decide +kernel
theorem dX4_join_56 : decode cX4_join 56 = .ok (.iastore, 1) := by decide +kernel
theorem dX4_join_57 : decode cX4_join 57 = .ok (.iconst 0, 1) := by decide +kernel
theorem dX4_join_58 : decode cX4_join 58 = .ok (.istore_n 2, 1) := by decide +kernel
theorem dX4_join_59 : decode cX4_join 59 = .ok (.iload_n 2, 1) := by decide +kernel
theorem dX4_join_60 : decode cX4_join 60 = .ok (.bipush 12, 2) := by decide +kernel
theorem dX4_join_62 : decode cX4_join 62 = .ok (.if_icmp .ge 21, 3) := by decide +kernel
theorem dX4_join_65 : decode cX4_join 65 = .ok (.aload_n 0, 1) := by decide +kernel
theorem dX4_join_66 : decode cX4_join 66 = .ok (.getfield 35, 3) := by decide +kernel
theorem dX4_join_69 : decode cX4_join 69 = .ok (.bipush 12, 2) := by decide +kernel
theorem dX4_join_71 : decode cX4_join 71 = .ok (.iload_n 1, 1) := by decide +kernel
theorem dX4_join_72 : decode cX4_join 72 = .ok (.imul, 1) := by decide +kernel
theorem dX4_join_73 : decode cX4_join 73 = .ok (.iload_n 2, 1) := by decide +kernel
theorem dX4_join_74 : decode cX4_join 74 = .ok (.iadd, 1) := by decide +kernel
theorem dX4_join_75 : decode cX4_join 75 = .ok (.iload_n 2, 1) := by decide +kernel
theorem dX4_join_76 : decode cX4_join 76 = .ok (.iastore, 1) := by decide +kernel
theorem dX4_join_77 : decode cX4_join 77 = .ok (.iinc 2 1, 3) := by decide +kernel
theorem dX4_join_80 : decode cX4_join 80 = .ok (.goto (-21), 3) := by decide +kernel
theorem dX4_join_83 : decode cX4_join 83 = .ok (.iconst 0, 1) := by decide +kernel
theorem dX4_join_84 : decode cX4_join 84 = .ok (.istore_n 2, 1) := by decide +kernel
theorem dX4_join_85 : decode cX4_join 85 = .ok (.iload_n 2, 1) := by decide +kernel
theorem dX4_join_86 : decode cX4_join 86 = .ok (.sipush 192, 3) := by decide +kernel
theorem dX4_join_89 : decode cX4_join 89 = .ok (.if_icmp .ge 22, 3) := by decide +kernel
theorem dX4_join_92 : decode cX4_join 92 = .ok (.aload_n 0, 1) := by decide +kernel
theorem dX4_join_93 : decode cX4_join 93 = .ok (.getfield 20, 3) := by decide +kernel
theorem dX4_join_96 : decode cX4_join 96 = .ok (.sipush 192, 3) := by decide +kernel
theorem dX4_join_99 : decode cX4_join 99 = .ok (.iload_n 1, 1) := by decide +kernel
theorem dX4_join_100 : decode cX4_join 100 = .ok (.imul, 1) := by decide +kernel
theorem dX4_join_101 : decode cX4_join 101 = .ok (.iload_n 2, 1) := by decide +kernel
theorem dX4_join_102 : decode cX4_join 102 = .ok (.iadd, 1) := by decide +kernel
theorem dX4_join_103 : decode cX4_join 103 = .ok (.iconst 0, 1) := by decide +kernel
theorem dX4_join_104 : decode cX4_join 104 = .ok (.iastore, 1) := by decide +kernel
theorem dX4_join_105 : decode cX4_join 105 = .ok (.iinc 2 1, 3) := by decide +kernel
theorem dX4_join_108 : decode cX4_join 108 = .ok (.goto (-23), 3) := by decide +kernel
theorem dX4_join_111 : decode cX4_join 111 = .ok (.bipush 12, 2) := by decide +kernel
theorem dX4_join_113 : decode cX4_join 113 = .ok (.ireturn, 1) := by decide +kernel
theorem dX4_shift_0 : decode cX4_shift 0 = .ok (.bipush 16, 2) := by decide +kernel
theorem dX4_shift_2 : decode cX4_shift 2 = .ok (.iload_n 3, 1) := by decide +kernel
theorem dX4_shift_3 : decode cX4_shift 3 = .ok (.imul, 1) := by decide +kernel
theorem dX4_shift_4 : decode cX4_shift 4 = .ok (.bipush 15, 2) := by decide +kernel
theorem dX4_shift_6 : decode cX4_shift 6 = .ok (.iadd, 1) := by decide +kernel
theorem dX4_shift_7 : decode cX4_shift 7 = .ok (.istore 4, 2) := by decide +kernel
theorem dX4_shift_9 : decode cX4_shift 9 = .ok (.iload 4, 2) := by decide +kernel
theorem dX4_shift_11 : decode cX4_shift 11 = .ok (.bipush 16, 2) := by decide +kernel
theorem dX4_shift_13 : decode cX4_shift 13 = .ok (.if_icmp .lt 24, 3) := by decide +kernel
theorem dX4_shift_16 : decode cX4_shift 16 = .ok (.aload_n 1, 1) := by decide +kernel
theorem dX4_shift_17 : decode cX4_shift 17 = .ok (.iload_n 2, 1) := by decide +kernel
theorem dX4_shift_18 : decode cX4_shift 18 = .ok (.iload 4, 2) := by decide +kernel
theorem dX4_shift_20 : decode cX4_shift 20 = .ok (.iadd, 1) := by decide +kernel
theorem dX4_shift_21 : decode cX4_shift 21 = .ok (.aload_n 1, 1) := by decide +kernel
theorem dX4_shift_22 : decode cX4_shift 22 = .ok (.iload_n 2, 1) := by decide +kernel
theorem dX4_shift_23 : decode cX4_shift 23 = .ok (.iload 4, 2) := by decide +kernel
theorem dX4_shift_25 : decode cX4_shift 25 = .ok (.iadd, 1) := by decide +kernel
theorem dX4_shift_26 : decode cX4_shift 26 = .ok (.bipush 16, 2) := by decide +kernel
theorem dX4_shift_28 : decode cX4_shift 28 = .ok (.isub, 1) := by decide +kernel
theorem dX4_shift_29 : decode cX4_shift 29 = .ok (.iaload, 1) := by decide +kernel
theorem dX4_shift_30 : decode cX4_shift 30 = .ok (.iastore, 1) := by decide +kernel
theorem dX4_shift_31 : decode cX4_shift 31 = .ok (.iinc 4 (-1), 3) := by decide +kernel
theorem dX4_shift_34 : decode cX4_shift 34 = .ok (.goto (-25), 3) := by decide +kernel
theorem dX4_shift_37 : decode cX4_shift 37 = .ok (.iconst 0, 1) := by decide +kernel
theorem dX4_shift_38 : decode cX4_shift 38 = .ok (.istore 4, 2) := by decide +kernel
theorem dX4_shift_40 : decode cX4_shift 40 = .ok (.iload 4, 2) := by decide +kernel
theorem dX4_shift_42 : decode cX4_shift 42 = .ok (.bipush 16, 2) := by decide +kernel
theorem dX4_shift_44 : decode cX4_shift 44 = .ok (.if_icmp .ge 22, 3) := by decide +kernel
theorem dX4_shift_47 : decode cX4_shift 47 = .ok (.aload_n 1, 1) := by decide +kernel
theorem dX4_shift_48 : decode cX4_shift 48 = .ok (.iload_n 2, 1) := by decide +kernel
theorem dX4_shift_49 : decode cX4_shift 49 = .ok (.iload 4, 2) := by decide +kernel
theorem dX4_shift_51 : decode cX4_shift 51 = .ok (.iadd, 1) := by decide +kernel
theorem dX4_shift_52 : decode cX4_shift 52 = .ok (.aload_n 0, 1) := by decide +kernel
theorem dX4_shift_53 : decode cX4_shift 53 = .ok (.getfield 53, 3) := by decide +kernel
theorem dX4_shift_56 : decode cX4_shift 56 = .ok (.iload 4, 2) := by decide +kernel
theorem dX4_shift_58 : decode cX4_shift 58 = .ok (.iaload, 1) := by decide +kernel
theorem dX4_shift_59 : decode cX4_shift 59 = .ok (.iastore, 1) := by decide +kernel
theorem dX4_shift_60 : decode cX4_shift 60 = .ok (.iinc 4 1, 3) := by decide +kernel
theorem dX4_shift_63 : decode cX4_shift 63 = .ok (.goto (-23), 3) := by decide +kernel
theorem dX4_shift_66 : decode cX4_shift 66 = .ok (.return_, 1) := by decide +kernel
theorem dX4_findOwn_0 : decode cX4_findOwn 0 = .ok (.iconst 0, 1) := by decide +kernel
theorem dX4_findOwn_1 : decode cX4_findOwn 1 = .ok (.istore_n 2, 1) := by decide +kernel
theorem dX4_findOwn_2 : decode cX4_findOwn 2 = .ok (.iload_n 2, 1) := by decide +kernel
theorem dX4_findOwn_3 : decode cX4_findOwn 3 = .ok (.aload_n 0, 1) := by decide +kernel
theorem dX4_findOwn_4 : decode cX4_findOwn 4 = .ok (.getfield 32, 3) := by decide +kernel
theorem dX4_findOwn_7 : decode cX4_findOwn 7 = .ok (.iload_n 1, 1) := by decide +kernel
theorem dX4_findOwn_8 : decode cX4_findOwn 8 = .ok (.iaload, 1) := by decide +kernel
theorem dX4_findOwn_9 : decode cX4_findOwn 9 = .ok (.if_icmp .ge 70, 3) := by decide +kernel
theorem dX4_findOwn_12 : decode cX4_findOwn 12 = .ok (.iconst 1, 1) := by decide +kernel
theorem dX4_findOwn_13 : decode cX4_findOwn 13 = .ok (.istore_n 3, 1) := by decide +kernel
theorem dX4_findOwn_14 : decode cX4_findOwn 14 = .ok (.iconst 0, 1) := by decide +kernel
theorem dX4_findOwn_15 : decode cX4_findOwn 15 = .ok (.istore 4, 2) := by decide +kernel
theorem dX4_findOwn_17 : decode cX4_findOwn 17 = .ok (.iload 4, 2) := by decide +kernel
theorem dX4_findOwn_19 : decode cX4_findOwn 19 = .ok (.bipush 16, 2) := by decide +kernel
theorem dX4_findOwn_21 : decode cX4_findOwn 21 = .ok (.if_icmp .ge 46, 3) := by decide +kernel
theorem dX4_findOwn_24 : decode cX4_findOwn 24 = .ok (.iload_n 3, 1) := by decide +kernel
theorem dX4_findOwn_25 : decode cX4_findOwn 25 = .ok (.ifCond .eq 34, 3) := by decide +kernel
theorem dX4_findOwn_28 : decode cX4_findOwn 28 = .ok (.aload_n 0, 1) := by decide +kernel
theorem dX4_findOwn_29 : decode cX4_findOwn 29 = .ok (.getfield 29, 3) := by decide +kernel
theorem dX4_findOwn_32 : decode cX4_findOwn 32 = .ok (.bipush 112, 2) := by decide +kernel
theorem dX4_findOwn_34 : decode cX4_findOwn 34 = .ok (.iload_n 1, 1) := by decide +kernel
theorem dX4_findOwn_35 : decode cX4_findOwn 35 = .ok (.imul, 1) := by decide +kernel
theorem dX4_findOwn_36 : decode cX4_findOwn 36 = .ok (.bipush 16, 2) := by decide +kernel
theorem dX4_findOwn_38 : decode cX4_findOwn 38 = .ok (.iload_n 2, 1) := by decide +kernel
theorem dX4_findOwn_39 : decode cX4_findOwn 39 = .ok (.imul, 1) := by decide +kernel
theorem dX4_findOwn_40 : decode cX4_findOwn 40 = .ok (.iadd, 1) := by decide +kernel
theorem dX4_findOwn_41 : decode cX4_findOwn 41 = .ok (.iload 4, 2) := by decide +kernel
theorem dX4_findOwn_43 : decode cX4_findOwn 43 = .ok (.iadd, 1) := by decide +kernel
theorem dX4_findOwn_44 : decode cX4_findOwn 44 = .ok (.iaload, 1) := by decide +kernel
theorem dX4_findOwn_45 : decode cX4_findOwn 45 = .ok (.aload_n 0, 1) := by decide +kernel
theorem dX4_findOwn_46 : decode cX4_findOwn 46 = .ok (.getfield 53, 3) := by decide +kernel
theorem dX4_findOwn_49 : decode cX4_findOwn 49 = .ok (.iload 4, 2) := by decide +kernel
theorem dX4_findOwn_51 : decode cX4_findOwn 51 = .ok (.iaload, 1) := by decide +kernel
theorem dX4_findOwn_52 : decode cX4_findOwn 52 = .ok (.if_icmp .ne 7, 3) := by decide +kernel
theorem dX4_findOwn_55 : decode cX4_findOwn 55 = .ok (.iconst 1, 1) := by decide +kernel
theorem dX4_findOwn_56 : decode cX4_findOwn 56 = .ok (.goto 4, 3) := by decide +kernel
theorem dX4_findOwn_59 : decode cX4_findOwn 59 = .ok (.iconst 0, 1) := by decide +kernel
theorem dX4_findOwn_60 : decode cX4_findOwn 60 = .ok (.istore_n 3, 1) := by decide +kernel
theorem dX4_findOwn_61 : decode cX4_findOwn 61 = .ok (.iinc 4 1, 3) := by decide +kernel
theorem dX4_findOwn_64 : decode cX4_findOwn 64 = .ok (.goto (-47), 3) := by decide +kernel
theorem dX4_findOwn_67 : decode cX4_findOwn 67 = .ok (.iload_n 3, 1) := by decide +kernel
theorem dX4_findOwn_68 : decode cX4_findOwn 68 = .ok (.ifCond .eq 5, 3) := by decide +kernel
theorem dX4_findOwn_71 : decode cX4_findOwn 71 = .ok (.iload_n 2, 1) := by decide +kernel
theorem dX4_findOwn_72 : decode cX4_findOwn 72 = .ok (.ireturn, 1) := by decide +kernel
theorem dX4_findOwn_73 : decode cX4_findOwn 73 = .ok (.iinc 2 1, 3) := by decide +kernel
theorem dX4_findOwn_76 : decode cX4_findOwn 76 = .ok (.goto (-74), 3) := by decide +kernel
theorem dX4_findOwn_79 : decode cX4_findOwn 79 = .ok (.iconst (-1), 1) := by decide +kernel
theorem dX4_findOwn_80 : decode cX4_findOwn 80 = .ok (.ireturn, 1) := by decide +kernel
set_option maxRecDepth 20000 in
theorem ggX4_cache_X4_find : GoodIn wsX4_cache wsX4_find := goodIn_r _ [7, 2, 1, 8, 13, 14, 15, 16, 17, 18, 19, 20, 21, 22, 23, 24, 25, 26, 27, 28, 29] (by decide +kernel) (by decide +kernel)
set_option maxRecDepth 20000 in
theorem gX4_cache_X4_find : GoodIn wsX4_cache (wsV RX4 104 RX4 yX4_find wsX4_find) := goodIn_app (goodIn_of _ (by decide +kernel)) ggX4_cache_X4_find
set_option maxRecDepth 20000 in
theorem ggX4_cache_X4_shift : GoodIn wsX4_cache wsX4_shift := goodIn_r _ [12, 8, 13, 14, 15, 16, 17, 18, 19, 20, 21, 22, 23, 24, 25, 26, 27, 28, 29] (by decide +kernel) (by decide +kernel)
set_option maxRecDepth 20000 in
theorem gX4_cache_X4_shift : GoodIn wsX4_cache (wsV RX4 118 RX4 yX4_shift wsX4_shift) := goodIn_app (goodIn_of _ (by decide +kernel)) ggX4_cache_X4_shift
theorem dX4_cache_0 : decode cX4_cache 0 = .ok (.aload_n 0, 1) := by decide +kernel
theorem dX4_cache_1 : decode cX4_cache 1 = .ok (.iload_n 1, 1) := by decide +kernel
theorem dX4_cache_2 : decode cX4_cache 2 = .ok (.invokevirtual 104, 3) := by decide +kernel
theorem dX4_cache_5 : decode cX4_cache 5 = .ok (.istore_n 2, 1) := by decide +kernel
theorem dX4_cache_6 : decode cX4_cache 6 = .ok (.aload_n 0, 1) := by decide +kernel
theorem dX4_cache_7 : decode cX4_cache 7 = .ok (.aload_n 0, 1) := by decide +kernel
theorem dX4_cache_8 : decode cX4_cache 8 = .ok (.getfield 23, 3) := by decide +kernel
theorem dX4_cache_11 : decode cX4_cache 11 = .ok (.bipush 112, 2) := by decide +kernel
theorem dX4_cache_13 : decode cX4_cache 13 = .ok (.iload_n 1, 1) := by decide +kernel
theorem dX4_cache_14 : decode cX4_cache 14 = .ok (.imul, 1) := by decide +kernel
theorem dX4_cache_15 : decode cX4_cache 15 = .ok (.iload_n 2, 1) := by decide +kernel
theorem dX4_cache_16 : decode cX4_cache 16 = .ok (.iconst (-1), 1) := by decide +kernel
theorem dX4_cache_17 : decode cX4_cache 17 = .ok (.if_icmp .ne 12, 3) := by decide +kernel
theorem dX4_cache_20 : decode cX4_cache 20 = .ok (.aload_n 0, 1) := by decide +kernel
theorem dX4_cache_21 : decode cX4_cache 21 = .ok (.getfield 26, 3) := by decide +kernel
theorem dX4_cache_24 : decode cX4_cache 24 = .ok (.iload_n 1, 1) := by decide +kernel
theorem dX4_cache_25 : decode cX4_cache 25 = .ok (.iaload, 1) := by decide +kernel
theorem dX4_cache_26 : decode cX4_cache 26 = .ok (.goto 4, 3) := by decide +kernel
theorem dX4_cache_29 : decode cX4_cache 29 = .ok (.iload_n 2, 1) := by decide +kernel
theorem dX4_cache_30 : decode cX4_cache 30 = .ok (.invokevirtual 118, 3) := by decide +kernel
theorem dX4_cache_33 : decode cX4_cache 33 = .ok (.aload_n 0, 1) := by decide +kernel
theorem dX4_cache_34 : decode cX4_cache 34 = .ok (.getfield 26, 3) := by decide +kernel
theorem dX4_cache_37 : decode cX4_cache 37 = .ok (.iload_n 1, 1) := by decide +kernel
theorem dX4_cache_38 : decode cX4_cache 38 = .ok (.dup2, 1) := by decide +kernel
theorem dX4_cache_39 : decode cX4_cache 39 = .ok (.iaload, 1) := by decide +kernel
theorem dX4_cache_40 : decode cX4_cache 40 = .ok (.iload_n 2, 1) := by decide +kernel
theorem dX4_cache_41 : decode cX4_cache 41 = .ok (.iconst (-1), 1) := by decide +kernel
theorem dX4_cache_42 : decode cX4_cache 42 = .ok (.if_icmp .ne 18, 3) := by decide +kernel
theorem dX4_cache_45 : decode cX4_cache 45 = .ok (.aload_n 0, 1) := by decide +kernel
theorem dX4_cache_46 : decode cX4_cache 46 = .ok (.getfield 26, 3) := by decide +kernel
theorem dX4_cache_49 : decode cX4_cache 49 = .ok (.iload_n 1, 1) := by decide +kernel
theorem dX4_cache_50 : decode cX4_cache 50 = .ok (.iaload, 1) := by decide +kernel
theorem dX4_cache_51 : decode cX4_cache 51 = .ok (.bipush 6, 2) := by decide +kernel
theorem dX4_cache_53 : decode cX4_cache 53 = .ok (.if_icmp .ge 7, 3) := by decide +kernel
theorem dX4_cache_56 : decode cX4_cache 56 = .ok (.iconst 1, 1) := by decide +kernel
theorem dX4_cache_57 : decode cX4_cache 57 = .ok (.goto 4, 3) := by decide +kernel
theorem dX4_cache_60 : decode cX4_cache 60 = .ok (.iconst 0, 1) := by decide +kernel
theorem dX4_cache_61 : decode cX4_cache 61 = .ok (.iadd, 1) := by decide +kernel
theorem dX4_cache_62 : decode cX4_cache 62 = .ok (.iastore, 1) := by decide +kernel
theorem dX4_cache_63 : decode cX4_cache 63 = .ok (.return_, 1) := by decide +kernel
set_option maxRecDepth 20000 in
theorem ggX4_cacheOwn_X4_findOwn : GoodIn wsX4_cacheOwn wsX4_findOwn := goodIn_r _ [7, 2, 1, 8, 13, 14, 15, 16, 17, 18, 19, 20, 21, 22, 23, 24, 25, 26, 27, 28, 29] (by decide +kernel) (by decide +kernel)
set_option maxRecDepth 20000 in
theorem gX4_cacheOwn_X4_findOwn : GoodIn wsX4_cacheOwn (wsV RX4 122 RX4 yX4_findOwn wsX4_findOwn) := goodIn_app (goodIn_of _ (by decide +kernel)) ggX4_cacheOwn_X4_findOwn
set_option maxRecDepth 20000 in
theorem ggX4_cacheOwn_X4_shift : GoodIn wsX4_cacheOwn wsX4_shift := goodIn_r _ [12, 8, 13, 14, 15, 16, 17, 18, 19, 20, 21, 22, 23, 24, 25, 26, 27, 28, 29] (by decide +kernel) (by decide +kernel)
set_option maxRecDepth 20000 in
theorem gX4_cacheOwn_X4_shift : GoodIn wsX4_cacheOwn (wsV RX4 118 RX4 yX4_shift wsX4_shift) := goodIn_app (goodIn_of _ (by decide +kernel)) ggX4_cacheOwn_X4_shift
theorem dX4_cacheOwn_0 : decode cX4_cacheOwn 0 = .ok (.aload_n 0, 1) := by decide +kernel
theorem dX4_cacheOwn_1 : decode cX4_cacheOwn 1 = .ok (.iload_n 1, 1) := by decide +kernel
theorem dX4_cacheOwn_2 : decode cX4_cacheOwn 2 = .ok (.invokevirtual 122, 3) := by decide +kernel
theorem dX4_cacheOwn_5 : decode cX4_cacheOwn 5 = .ok (.istore_n 2, 1) := by decide +kernel
theorem dX4_cacheOwn_6 : decode cX4_cacheOwn 6 = .ok (.aload_n 0, 1) := by decide +kernel
theorem dX4_cacheOwn_7 : decode cX4_cacheOwn 7 = .ok (.aload_n 0, 1) := by decide +kernel
theorem dX4_cacheOwn_8 : decode cX4_cacheOwn 8 = .ok (.getfield 29, 3) := by decide +kernel
theorem dX4_cacheOwn_11 : decode cX4_cacheOwn 11 = .ok (.bipush 112, 2) := by decide +kernel
theorem dX4_cacheOwn_13 : decode cX4_cacheOwn 13 = .ok (.iload_n 1, 1) := by decide +kernel
theorem dX4_cacheOwn_14 : decode cX4_cacheOwn 14 = .ok (.imul, 1) := by decide +kernel
theorem dX4_cacheOwn_15 : decode cX4_cacheOwn 15 = .ok (.iload_n 2, 1) := by decide +kernel
theorem dX4_cacheOwn_16 : decode cX4_cacheOwn 16 = .ok (.iconst (-1), 1) := by decide +kernel
theorem dX4_cacheOwn_17 : decode cX4_cacheOwn 17 = .ok (.if_icmp .ne 12, 3) := by decide +kernel
theorem dX4_cacheOwn_20 : decode cX4_cacheOwn 20 = .ok (.aload_n 0, 1) := by decide +kernel
theorem dX4_cacheOwn_21 : decode cX4_cacheOwn 21 = .ok (.getfield 32, 3) := by decide +kernel
theorem dX4_cacheOwn_24 : decode cX4_cacheOwn 24 = .ok (.iload_n 1, 1) := by decide +kernel
theorem dX4_cacheOwn_25 : decode cX4_cacheOwn 25 = .ok (.iaload, 1) := by decide +kernel
theorem dX4_cacheOwn_26 : decode cX4_cacheOwn 26 = .ok (.goto 4, 3) := by decide +kernel
theorem dX4_cacheOwn_29 : decode cX4_cacheOwn 29 = .ok (.iload_n 2, 1) := by decide +kernel
theorem dX4_cacheOwn_30 : decode cX4_cacheOwn 30 = .ok (.invokevirtual 118, 3) := by decide +kernel
theorem dX4_cacheOwn_33 : decode cX4_cacheOwn 33 = .ok (.aload_n 0, 1) := by decide +kernel
theorem dX4_cacheOwn_34 : decode cX4_cacheOwn 34 = .ok (.getfield 32, 3) := by decide +kernel
theorem dX4_cacheOwn_37 : decode cX4_cacheOwn 37 = .ok (.iload_n 1, 1) := by decide +kernel
theorem dX4_cacheOwn_38 : decode cX4_cacheOwn 38 = .ok (.dup2, 1) := by decide +kernel
theorem dX4_cacheOwn_39 : decode cX4_cacheOwn 39 = .ok (.iaload, 1) := by decide +kernel
theorem dX4_cacheOwn_40 : decode cX4_cacheOwn 40 = .ok (.iload_n 2, 1) := by decide +kernel
theorem dX4_cacheOwn_41 : decode cX4_cacheOwn 41 = .ok (.iconst (-1), 1) := by decide +kernel
theorem dX4_cacheOwn_42 : decode cX4_cacheOwn 42 = .ok (.if_icmp .ne 18, 3) := by decide +kernel
theorem dX4_cacheOwn_45 : decode cX4_cacheOwn 45 = .ok (.aload_n 0, 1) := by decide +kernel
theorem dX4_cacheOwn_46 : decode cX4_cacheOwn 46 = .ok (.getfield 32, 3) := by decide +kernel
theorem dX4_cacheOwn_49 : decode cX4_cacheOwn 49 = .ok (.iload_n 1, 1) := by decide +kernel
theorem dX4_cacheOwn_50 : decode cX4_cacheOwn 50 = .ok (.iaload, 1) := by decide +kernel
theorem dX4_cacheOwn_51 : decode cX4_cacheOwn 51 = .ok (.bipush 6, 2) := by decide +kernel
theorem dX4_cacheOwn_53 : decode cX4_cacheOwn 53 = .ok (.if_icmp .ge 7, 3) := by decide +kernel
theorem dX4_cacheOwn_56 : decode cX4_cacheOwn 56 = .ok (.iconst 1, 1) := by decide +kernel
theorem dX4_cacheOwn_57 : decode cX4_cacheOwn 57 = .ok (.goto 4, 3) := by decide +kernel
theorem dX4_cacheOwn_60 : decode cX4_cacheOwn 60 = .ok (.iconst 0, 1) := by decide +kernel
theorem dX4_cacheOwn_61 : decode cX4_cacheOwn 61 = .ok (.iadd, 1) := by decide +kernel
theorem dX4_cacheOwn_62 : decode cX4_cacheOwn 62 = .ok (.iastore, 1) := by decide +kernel
theorem dX4_cacheOwn_63 : decode cX4_cacheOwn 63 = .ok (.return_, 1) := by decide +kernel
set_option maxRecDepth 20000 in
theorem ggX4_write_X4_look : GoodIn wsX4_write wsX4_look := goodIn_r _ [13, 7, 14, 15, 16, 12, 17, 50, 51, 52, 53, 54, 55, 56, 57, 58, 59, 60, 61, 62, 63, 64, 65, 66] (by decide +kernel) (by decide +kernel)
set_option maxRecDepth 20000 in
theorem gX4_write_X4_look : GoodIn wsX4_write (wsV RX4 94 RX4 yX4_look wsX4_look) := goodIn_app (goodIn_of _ (by decide +kernel)) ggX4_write_X4_look
set_option maxRecDepth 20000 in
theorem ggX4_write_X4_wayOf : GoodIn wsX4_write wsX4_wayOf := goodIn_r _ [21, 22, 23, 24, 12, 25, 7, 26, 27, 28, 29, 30, 31, 32, 33, 34, 35, 36, 37, 38, 39, 40, 41, 50, 51, 52, 53, 54, 55, 56, 57, 58, 59, 60, 61, 62, 63, 64, 65, 66] (by decide +kernel) (by decide +kernel)
set_option maxRecDepth 20000 in
theorem gX4_write_X4_wayOf : GoodIn wsX4_write (wsV RX4 115 RX4 yX4_wayOf wsX4_wayOf) := goodIn_app (goodIn_of _ (by decide +kernel)) ggX4_write_X4_wayOf
set_option maxRecDepth 20000 in
theorem ggX4_write_X4_cache : GoodIn wsX4_write wsX4_cache := goodIn_r _ [45, 31, 30, 26, 27, 28, 12, 29, 7, 46, 47, 48, 49, 50, 51, 52, 53, 54, 55, 56, 57, 58, 59, 60, 61, 62, 63, 64, 65, 66] (by decide +kernel) (by decide +kernel)
set_option maxRecDepth 20000 in
theorem gX4_write_X4_cache : GoodIn wsX4_write (wsV RX4 125 RX4 yX4_cache wsX4_cache) := goodIn_app (goodIn_of _ (by decide +kernel)) ggX4_write_X4_cache
theorem dX4_write_0 : decode cX4_write 0 = .ok (.aload_n 0, 1) := by decide +kernel
theorem dX4_write_1 : decode cX4_write 1 = .ok (.getfield 35, 3) := by decide +kernel
theorem dX4_write_4 : decode cX4_write 4 = .ok (.bipush 12, 2) := by decide +kernel
theorem dX4_write_6 : decode cX4_write 6 = .ok (.iload_n 1, 1) := by decide +kernel
theorem dX4_write_7 : decode cX4_write 7 = .ok (.imul, 1) := by decide +kernel
theorem dX4_write_8 : decode cX4_write 8 = .ok (.iaload, 1) := by decide +kernel
theorem dX4_write_9 : decode cX4_write 9 = .ok (.istore_n 3, 1) := by decide +kernel
theorem dX4_write_10 : decode cX4_write 10 = .ok (.aload_n 0, 1) := by decide +kernel
theorem dX4_write_11 : decode cX4_write 11 = .ok (.iload_n 3, 1) := by decide +kernel
theorem dX4_write_12 : decode cX4_write 12 = .ok (.invokevirtual 94, 3) := by decide +kernel
theorem dX4_write_15 : decode cX4_write 15 = .ok (.aload_n 0, 1) := by decide +kernel
theorem dX4_write_16 : decode cX4_write 16 = .ok (.iload_n 1, 1) := by decide +kernel
theorem dX4_write_17 : decode cX4_write 17 = .ok (.invokevirtual 115, 3) := by decide +kernel
theorem dX4_write_20 : decode cX4_write 20 = .ok (.istore 4, 2) := by decide +kernel
theorem dX4_write_22 : decode cX4_write 22 = .ok (.iload 4, 2) := by decide +kernel
theorem dX4_write_24 : decode cX4_write 24 = .ok (.bipush 100, 2) := by decide +kernel
theorem dX4_write_26 : decode cX4_write 26 = .ok (.irem, 1) := by decide +kernel
theorem dX4_write_27 : decode cX4_write 27 = .ok (.iload_n 2, 1) := by decide +kernel
theorem dX4_write_28 : decode cX4_write 28 = .ok (.if_icmp .le 5, 3) := by decide +kernel
theorem dX4_write_31 : decode cX4_write 31 = .ok (.iconst (-1), 1) := by decide +kernel
theorem dX4_write_32 : decode cX4_write 32 = .ok (.ireturn, 1) := by decide +kernel
theorem dX4_write_33 : decode cX4_write 33 = .ok (.aload_n 0, 1) := by decide +kernel
theorem dX4_write_34 : decode cX4_write 34 = .ok (.iload_n 1, 1) := by decide +kernel
theorem dX4_write_35 : decode cX4_write 35 = .ok (.invokevirtual 125, 3) := by decide +kernel
theorem dX4_write_38 : decode cX4_write 38 = .ok (.aload_n 0, 1) := by decide +kernel
theorem dX4_write_39 : decode cX4_write 39 = .ok (.getfield 50, 3) := by decide +kernel
theorem dX4_write_42 : decode cX4_write 42 = .ok (.iload 4, 2) := by decide +kernel
theorem dX4_write_44 : decode cX4_write 44 = .ok (.bipush 100, 2) := by decide +kernel
theorem dX4_write_46 : decode cX4_write 46 = .ok (.idiv, 1) := by decide +kernel
theorem dX4_write_47 : decode cX4_write 47 = .ok (.dup2, 1) := by decide +kernel
theorem dX4_write_48 : decode cX4_write 48 = .ok (.iaload, 1) := by decide +kernel
theorem dX4_write_49 : decode cX4_write 49 = .ok (.iconst 1, 1) := by decide +kernel
theorem dX4_write_50 : decode cX4_write 50 = .ok (.iadd, 1) := by decide +kernel
theorem dX4_write_51 : decode cX4_write 51 = .ok (.iastore, 1) := by decide +kernel
theorem dX4_write_52 : decode cX4_write 52 = .ok (.aload_n 0, 1) := by decide +kernel
theorem dX4_write_53 : decode cX4_write 53 = .ok (.dup, 1) := by decide +kernel
theorem dX4_write_54 : decode cX4_write 54 = .ok (.getfield 128, 3) := by decide +kernel
theorem dX4_write_57 : decode cX4_write 57 = .ok (.iload 4, 2) := by decide +kernel
theorem dX4_write_59 : decode cX4_write 59 = .ok (.bipush 100, 2) := by decide +kernel
theorem dX4_write_61 : decode cX4_write 61 = .ok (.irem, 1) := by decide +kernel
theorem dX4_write_62 : decode cX4_write 62 = .ok (.iadd, 1) := by decide +kernel
theorem dX4_write_63 : decode cX4_write 63 = .ok (.putfield 128, 3) := by decide +kernel
theorem dX4_write_66 : decode cX4_write 66 = .ok (.bipush 12, 2) := by decide +kernel
theorem dX4_write_68 : decode cX4_write 68 = .ok (.iload_n 1, 1) := by decide +kernel
theorem dX4_write_69 : decode cX4_write 69 = .ok (.imul, 1) := by decide +kernel
theorem dX4_write_70 : decode cX4_write 70 = .ok (.aload_n 0, 1) := by decide +kernel
theorem dX4_write_71 : decode cX4_write 71 = .ok (.getfield 47, 3) := by decide +kernel
theorem dX4_write_74 : decode cX4_write 74 = .ok (.iload_n 1, 1) := by decide +kernel
theorem dX4_write_75 : decode cX4_write 75 = .ok (.iaload, 1) := by decide +kernel
theorem dX4_write_76 : decode cX4_write 76 = .ok (.iadd, 1) := by decide +kernel
theorem dX4_write_77 : decode cX4_write 77 = .ok (.istore 5, 2) := by decide +kernel
theorem dX4_write_79 : decode cX4_write 79 = .ok (.aload_n 0, 1) := by decide +kernel
theorem dX4_write_80 : decode cX4_write 80 = .ok (.getfield 41, 3) := by decide +kernel
theorem dX4_write_83 : decode cX4_write 83 = .ok (.iload 5, 2) := by decide +kernel
theorem dX4_write_85 : decode cX4_write 85 = .ok (.iload_n 3, 1) := by decide +kernel
theorem dX4_write_86 : decode cX4_write 86 = .ok (.iastore, 1) := by decide +kernel
theorem dX4_write_87 : decode cX4_write 87 = .ok (.iconst 0, 1) := by decide +kernel
theorem dX4_write_88 : decode cX4_write 88 = .ok (.istore 6, 2) := by decide +kernel
theorem dX4_write_90 : decode cX4_write 90 = .ok (.iload 6, 2) := by decide +kernel
theorem dX4_write_92 : decode cX4_write 92 = .ok (.bipush 16, 2) := by decide +kernel
theorem dX4_write_94 : decode cX4_write 94 = .ok (.if_icmp .ge 29, 3) := by decide +kernel
theorem dX4_write_97 : decode cX4_write 97 = .ok (.aload_n 0, 1) := by decide +kernel
theorem dX4_write_98 : decode cX4_write 98 = .ok (.getfield 44, 3) := by decide +kernel
theorem dX4_write_101 : decode cX4_write 101 = .ok (.bipush 16, 2) := by decide +kernel
theorem dX4_write_103 : decode cX4_write 103 = .ok (.iload 5, 2) := by decide +kernel
theorem dX4_write_105 : decode cX4_write 105 = .ok (.imul, 1) := by decide +kernel
theorem dX4_write_106 : decode cX4_write 106 = .ok (.iload 6, 2) := by decide +kernel
theorem dX4_write_108 : decode cX4_write 108 = .ok (.iadd, 1) := by decide +kernel
theorem dX4_write_109 : decode cX4_write 109 = .ok (.aload_n 0, 1) := by decide +kernel
theorem dX4_write_110 : decode cX4_write 110 = .ok (.getfield 53, 3) := by decide +kernel
theorem dX4_write_113 : decode cX4_write 113 = .ok (.iload 6, 2) := by decide +kernel
theorem dX4_write_115 : decode cX4_write 115 = .ok (.iaload, 1) := by decide +kernel
theorem dX4_write_116 : decode cX4_write 116 = .ok (.iastore, 1) := by decide +kernel
theorem dX4_write_117 : decode cX4_write 117 = .ok (.iinc 6 1, 3) := by decide +kernel
theorem dX4_write_120 : decode cX4_write 120 = .ok (.goto (-30), 3) := by decide +kernel
theorem dX4_write_123 : decode cX4_write 123 = .ok (.aload_n 0, 1) := by decide +kernel
theorem dX4_write_124 : decode cX4_write 124 = .ok (.getfield 47, 3) := by decide +kernel
theorem dX4_write_127 : decode cX4_write 127 = .ok (.iload_n 1, 1) := by decide +kernel
theorem dX4_write_128 : decode cX4_write 128 = .ok (.dup2, 1) := by decide +kernel
theorem dX4_write_129 : decode cX4_write 129 = .ok (.iaload, 1) := by decide +kernel
theorem dX4_write_130 : decode cX4_write 130 = .ok (.iconst 1, 1) := by decide +kernel
theorem dX4_write_131 : decode cX4_write 131 = .ok (.iadd, 1) := by decide +kernel
theorem dX4_write_132 : decode cX4_write 132 = .ok (.iastore, 1) := by decide +kernel
theorem dX4_write_133 : decode cX4_write 133 = .ok (.aload_n 0, 1) := by decide +kernel
theorem dX4_write_134 : decode cX4_write 134 = .ok (.getfield 38, 3) := by decide +kernel
theorem dX4_write_137 : decode cX4_write 137 = .ok (.iload_n 1, 1) := by decide +kernel
theorem dX4_write_138 : decode cX4_write 138 = .ok (.dup2, 1) := by decide +kernel
theorem dX4_write_139 : decode cX4_write 139 = .ok (.iaload, 1) := by decide +kernel
theorem dX4_write_140 : decode cX4_write 140 = .ok (.iconst 1, 1) := by decide +kernel
theorem dX4_write_141 : decode cX4_write 141 = .ok (.isub, 1) := by decide +kernel
theorem dX4_write_142 : decode cX4_write 142 = .ok (.iastore, 1) := by decide +kernel
theorem dX4_write_143 : decode cX4_write 143 = .ok (.iconst 0, 1) := by decide +kernel
theorem dX4_write_144 : decode cX4_write 144 = .ok (.istore 6, 2) := by decide +kernel
theorem dX4_write_146 : decode cX4_write 146 = .ok (.iload 6, 2) := by decide +kernel
theorem dX4_write_148 : decode cX4_write 148 = .ok (.aload_n 0, 1) := by decide +kernel
theorem dX4_write_149 : decode cX4_write 149 = .ok (.getfield 38, 3) := by decide +kernel
theorem dX4_write_152 : decode cX4_write 152 = .ok (.iload_n 1, 1) := by decide +kernel
theorem dX4_write_153 : decode cX4_write 153 = .ok (.iaload, 1) := by decide +kernel
theorem dX4_write_154 : decode cX4_write 154 = .ok (.if_icmp .ge 35, 3) := by decide +kernel
theorem dX4_write_157 : decode cX4_write 157 = .ok (.aload_n 0, 1) := by decide +kernel
theorem dX4_write_158 : decode cX4_write 158 = .ok (.getfield 35, 3) := by decide +kernel
theorem dX4_write_161 : decode cX4_write 161 = .ok (.bipush 12, 2) := by decide +kernel
theorem dX4_write_163 : decode cX4_write 163 = .ok (.iload_n 1, 1) := by decide +kernel
theorem dX4_write_164 : decode cX4_write 164 = .ok (.imul, 1) := by decide +kernel
theorem dX4_write_165 : decode cX4_write 165 = .ok (.iload 6, 2) := by decide +kernel
theorem dX4_write_167 : decode cX4_write 167 = .ok (.iadd, 1) := by decide +kernel
theorem dX4_write_168 : decode cX4_write 168 = .ok (.aload_n 0, 1) := by decide +kernel
theorem dX4_write_169 : decode cX4_write 169 = .ok (.getfield 35, 3) := by decide +kernel
theorem dX4_write_172 : decode cX4_write 172 = .ok (.bipush 12, 2) := by decide +kernel
theorem dX4_write_174 : decode cX4_write 174 = .ok (.iload_n 1, 1) := by decide +kernel
theorem dX4_write_175 : decode cX4_write 175 = .ok (.imul, 1) := by decide +kernel
theorem dX4_write_176 : decode cX4_write 176 = .ok (.iload 6, 2) := by decide +kernel
theorem dX4_write_178 : decode cX4_write 178 = .ok (.iadd, 1) := by decide +kernel
theorem dX4_write_179 : decode cX4_write 179 = .ok (.iconst 1, 1) := by decide +kernel
theorem dX4_write_180 : decode cX4_write 180 = .ok (.iadd, 1) := by decide +kernel
theorem dX4_write_181 : decode cX4_write 181 = .ok (.iaload, 1) := by decide +kernel
theorem dX4_write_182 : decode cX4_write 182 = .ok (.iastore, 1) := by decide +kernel
theorem dX4_write_183 : decode cX4_write 183 = .ok (.iinc 6 1, 3) := by decide +kernel
theorem dX4_write_186 : decode cX4_write 186 = .ok (.goto (-40), 3) := by decide +kernel
theorem dX4_write_189 : decode cX4_write 189 = .ok (.iload_n 2, 1) := by decide +kernel
theorem dX4_write_190 : decode cX4_write 190 = .ok (.iload 4, 2) := by decide +kernel
theorem dX4_write_192 : decode cX4_write 192 = .ok (.bipush 100, 2) := by decide +kernel
theorem dX4_write_194 : decode cX4_write 194 = .ok (.irem, 1) := by decide +kernel
theorem dX4_write_195 : decode cX4_write 195 = .ok (.isub, 1) := by decide +kernel
theorem dX4_write_196 : decode cX4_write 196 = .ok (.ireturn, 1) := by decide +kernel
set_option maxRecDepth 20000 in
theorem ggX4_ask_X4_isClient : GoodIn wsX4_ask wsX4_isClient := goodIn_r _ [7, 8, 9, 6, 10] (by decide +kernel) (by decide +kernel)
set_option maxRecDepth 20000 in
theorem gX4_ask_X4_isClient : GoodIn wsX4_ask (va_wsS RX4 112 yX4_isClient wsX4_isClient) := goodIn_app (goodIn_of _ (by decide +kernel)) ggX4_ask_X4_isClient
set_option maxRecDepth 20000 in
theorem ggX4_ask_X4_in : GoodIn wsX4_ask wsX4_in := goodIn_r _ [10] (by decide +kernel) (by decide +kernel)
set_option maxRecDepth 20000 in
theorem gX4_ask_X4_in : GoodIn wsX4_ask (va_wsS RX4 60 yX4_in wsX4_in) := goodIn_app (goodIn_of _ (by decide +kernel)) ggX4_ask_X4_in
set_option maxRecDepth 20000 in
theorem ggX4_ask_X4_goesWell : GoodIn wsX4_ask wsX4_goesWell := goodIn_r _ [14, 15, 63, 64, 65, 66, 67, 68, 69, 70, 71, 72, 73, 74, 75, 76, 77, 78, 79] (by decide +kernel) (by decide +kernel)
set_option maxRecDepth 20000 in
theorem gX4_ask_X4_goesWell : GoodIn wsX4_ask (wsV RX4 80 RX4 yX4_goesWell wsX4_goesWell) := goodIn_app (goodIn_of _ (by decide +kernel)) ggX4_ask_X4_goesWell
set_option maxRecDepth 20000 in
theorem ggX4_ask_X4_write : GoodIn wsX4_ask wsX4_write := goodIn_r _ [19, 20, 21, 22, 2, 23, 24, 25, 3, 26, 27, 28, 6, 29, 30, 31, 32, 33, 34, 35, 36, 37, 38, 39, 40, 41, 42, 43, 44, 45, 46, 47, 48, 49, 50, 8, 9, 10, 51, 52, 53, 54, 55, 56, 57, 58, 59, 60, 61, 62, 63, 64, 65, 66, 67, 68, 69, 70, 71, 72, 73, 74, 75, 76, 77, 78, 79] (by decide +kernel) (by decide +kernel)
set_option maxRecDepth 20000 in
theorem gX4_ask_X4_write : GoodIn wsX4_ask (wsV RX4 131 RX4 yX4_write wsX4_write) := goodIn_app (goodIn_of _ (by decide +kernel)) ggX4_ask_X4_write
theorem dX4_ask_0 : decode cX4_ask 0 = .ok (.iload_n 1, 1) := by decide +kernel
theorem dX4_ask_1 : decode cX4_ask 1 = .ok (.invokestatic 112, 3) := by decide +kernel
theorem dX4_ask_4 : decode cX4_ask 4 = .ok (.ifCond .eq 18, 3) := by decide +kernel
theorem dX4_ask_7 : decode cX4_ask 7 = .ok (.iload_n 2, 1) := by decide +kernel
theorem dX4_ask_8 : decode cX4_ask 8 = .ok (.iconst 0, 1) := by decide +kernel
theorem dX4_ask_9 : decode cX4_ask 9 = .ok (.sipush 300, 3) := by decide +kernel
theorem dX4_ask_12 : decode cX4_ask 12 = .ok (.invokestatic 60, 3) := by decide +kernel
theorem dX4_ask_15 : decode cX4_ask 15 = .ok (.ifCond .eq 7, 3) := by decide +kernel
theorem dX4_ask_18 : decode cX4_ask 18 = .ok (.iconst 1, 1) := by decide +kernel
theorem dX4_ask_19 : decode cX4_ask 19 = .ok (.goto 4, 3) := by decide +kernel
theorem dX4_ask_22 : decode cX4_ask 22 = .ok (.iconst 0, 1) := by decide +kernel
theorem dX4_ask_23 : decode cX4_ask 23 = .ok (.istore_n 3, 1) := by decide +kernel
theorem dX4_ask_24 : decode cX4_ask 24 = .ok (.aload_n 0, 1) := by decide +kernel
theorem dX4_ask_25 : decode cX4_ask 25 = .ok (.iload_n 3, 1) := by decide +kernel
theorem dX4_ask_26 : decode cX4_ask 26 = .ok (.ifCond .ne 7, 3) := by decide +kernel
theorem dX4_ask_29 : decode cX4_ask 29 = .ok (.iconst 1, 1) := by decide +kernel
theorem dX4_ask_30 : decode cX4_ask 30 = .ok (.goto 26, 3) := by decide +kernel
theorem dX4_ask_33 : decode cX4_ask 33 = .ok (.aload_n 0, 1) := by decide +kernel
theorem dX4_ask_34 : decode cX4_ask 34 = .ok (.getfield 16, 3) := by decide +kernel
theorem dX4_ask_37 : decode cX4_ask 37 = .ok (.iload_n 1, 1) := by decide +kernel
theorem dX4_ask_38 : decode cX4_ask 38 = .ok (.baload, 1) := by decide +kernel
theorem dX4_ask_39 : decode cX4_ask 39 = .ok (.ifCond .eq 12, 3) := by decide +kernel
theorem dX4_ask_42 : decode cX4_ask 42 = .ok (.aload_n 0, 1) := by decide +kernel
theorem dX4_ask_43 : decode cX4_ask 43 = .ok (.getfield 47, 3) := by decide +kernel
theorem dX4_ask_46 : decode cX4_ask 46 = .ok (.iload_n 1, 1) := by decide +kernel
theorem dX4_ask_47 : decode cX4_ask 47 = .ok (.iaload, 1) := by decide +kernel
theorem dX4_ask_48 : decode cX4_ask 48 = .ok (.ifCond .le 7, 3) := by decide +kernel
theorem dX4_ask_51 : decode cX4_ask 51 = .ok (.iconst 2, 1) := by decide +kernel
theorem dX4_ask_52 : decode cX4_ask 52 = .ok (.goto 4, 3) := by decide +kernel
theorem dX4_ask_55 : decode cX4_ask 55 = .ok (.iconst 0, 1) := by decide +kernel
theorem dX4_ask_56 : decode cX4_ask 56 = .ok (.invokevirtual 80, 3) := by decide +kernel
theorem dX4_ask_59 : decode cX4_ask 59 = .ok (.ifCond .ne 5, 3) := by decide +kernel
theorem dX4_ask_62 : decode cX4_ask 62 = .ok (.iconst 0, 1) := by decide +kernel
theorem dX4_ask_63 : decode cX4_ask 63 = .ok (.ireturn, 1) := by decide +kernel
theorem dX4_ask_64 : decode cX4_ask 64 = .ok (.iload_n 2, 1) := by decide +kernel
theorem dX4_ask_65 : decode cX4_ask 65 = .ok (.istore 4, 2) := by decide +kernel
theorem dX4_ask_67 : decode cX4_ask 67 = .ok (.iload 4, 2) := by decide +kernel
theorem dX4_ask_69 : decode cX4_ask 69 = .ok (.iconst (-1), 1) := by decide +kernel
theorem dX4_ask_70 : decode cX4_ask 70 = .ok (.if_icmp .eq 24, 3) := by decide +kernel
theorem dX4_ask_73 : decode cX4_ask 73 = .ok (.aload_n 0, 1) := by decide +kernel
theorem dX4_ask_74 : decode cX4_ask 74 = .ok (.getfield 38, 3) := by decide +kernel
theorem dX4_ask_77 : decode cX4_ask 77 = .ok (.iload_n 1, 1) := by decide +kernel
theorem dX4_ask_78 : decode cX4_ask 78 = .ok (.iaload, 1) := by decide +kernel
theorem dX4_ask_79 : decode cX4_ask 79 = .ok (.ifCond .le 15, 3) := by decide +kernel
theorem dX4_ask_82 : decode cX4_ask 82 = .ok (.aload_n 0, 1) := by decide +kernel
theorem dX4_ask_83 : decode cX4_ask 83 = .ok (.iload_n 1, 1) := by decide +kernel
theorem dX4_ask_84 : decode cX4_ask 84 = .ok (.iload 4, 2) := by decide +kernel
theorem dX4_ask_86 : decode cX4_ask 86 = .ok (.invokevirtual 131, 3) := by decide +kernel
theorem dX4_ask_89 : decode cX4_ask 89 = .ok (.istore 4, 2) := by decide +kernel
theorem dX4_ask_91 : decode cX4_ask 91 = .ok (.goto (-24), 3) := by decide +kernel
theorem dX4_ask_94 : decode cX4_ask 94 = .ok (.aload_n 0, 1) := by decide +kernel
theorem dX4_ask_95 : decode cX4_ask 95 = .ok (.getfield 47, 3) := by decide +kernel
theorem dX4_ask_98 : decode cX4_ask 98 = .ok (.iload_n 1, 1) := by decide +kernel
theorem dX4_ask_99 : decode cX4_ask 99 = .ok (.iaload, 1) := by decide +kernel
theorem dX4_ask_100 : decode cX4_ask 100 = .ok (.ireturn, 1) := by decide +kernel
set_option maxRecDepth 20000 in
theorem ggX4_answer_X4_isClient : GoodIn wsX4_answer wsX4_isClient := goodIn_r _ [10, 11, 12, 9, 13] (by decide +kernel) (by decide +kernel)
set_option maxRecDepth 20000 in
theorem gX4_answer_X4_isClient : GoodIn wsX4_answer (va_wsS RX4 112 yX4_isClient wsX4_isClient) := goodIn_app (goodIn_of _ (by decide +kernel)) ggX4_answer_X4_isClient
set_option maxRecDepth 20000 in
theorem ggX4_answer_X4_goesWell : GoodIn wsX4_answer wsX4_goesWell := goodIn_r _ [17, 18, 36, 37, 38, 39, 40, 41, 42, 43, 44, 45, 46, 47, 48, 49, 50, 51, 52] (by decide +kernel) (by decide +kernel)
set_option maxRecDepth 20000 in
theorem gX4_answer_X4_goesWell : GoodIn wsX4_answer (wsV RX4 80 RX4 yX4_goesWell wsX4_goesWell) := goodIn_app (goodIn_of _ (by decide +kernel)) ggX4_answer_X4_goesWell
set_option maxRecDepth 20000 in
theorem ggX4_answer_X4_cellOf : GoodIn wsX4_answer wsX4_cellOf := goodIn_r _ [21] (by decide +kernel) (by decide +kernel)
set_option maxRecDepth 20000 in
theorem gX4_answer_X4_cellOf : GoodIn wsX4_answer (va_wsS RX4 68 yX4_cellOf wsX4_cellOf) := goodIn_app (goodIn_of _ (by decide +kernel)) ggX4_answer_X4_cellOf
set_option maxRecDepth 20000 in
theorem ggX4_answer_X4_cacheOwn : GoodIn wsX4_answer wsX4_cacheOwn := goodIn_r _ [25, 26, 27, 28, 29, 30, 9, 31, 3, 32, 33, 34, 35, 36, 37, 38, 39, 40, 41, 42, 43, 44, 45, 46, 47, 48, 49, 50, 51, 52] (by decide +kernel) (by decide +kernel)
set_option maxRecDepth 20000 in
theorem gX4_answer_X4_cacheOwn : GoodIn wsX4_answer (wsV RX4 134 RX4 yX4_cacheOwn wsX4_cacheOwn) := goodIn_app (goodIn_of _ (by decide +kernel)) ggX4_answer_X4_cacheOwn
theorem dX4_answer_0 : decode cX4_answer 0 = .ok (.aload_n 0, 1) := by decide +kernel
theorem dX4_answer_1 : decode cX4_answer 1 = .ok (.iload_n 1, 1) := by decide +kernel
theorem dX4_answer_2 : decode cX4_answer 2 = .ok (.invokestatic 112, 3) := by decide +kernel
theorem dX4_answer_5 : decode cX4_answer 5 = .ok (.ifCond .ne 7, 3) := by decide +kernel
theorem dX4_answer_8 : decode cX4_answer 8 = .ok (.iconst 1, 1) := by decide +kernel
theorem dX4_answer_9 : decode cX4_answer 9 = .ok (.goto 26, 3) := by decide +kernel
theorem dX4_answer_12 : decode cX4_answer 12 = .ok (.aload_n 0, 1) := by decide +kernel
theorem dX4_answer_13 : decode cX4_answer 13 = .ok (.getfield 16, 3) := by decide +kernel
theorem dX4_answer_16 : decode cX4_answer 16 = .ok (.iload_n 1, 1) := by decide +kernel
theorem dX4_answer_17 : decode cX4_answer 17 = .ok (.baload, 1) := by decide +kernel
theorem dX4_answer_18 : decode cX4_answer 18 = .ok (.ifCond .eq 12, 3) := by decide +kernel
theorem dX4_answer_21 : decode cX4_answer 21 = .ok (.aload_n 0, 1) := by decide +kernel
theorem dX4_answer_22 : decode cX4_answer 22 = .ok (.getfield 47, 3) := by decide +kernel
theorem dX4_answer_25 : decode cX4_answer 25 = .ok (.iload_n 1, 1) := by decide +kernel
theorem dX4_answer_26 : decode cX4_answer 26 = .ok (.iaload, 1) := by decide +kernel
theorem dX4_answer_27 : decode cX4_answer 27 = .ok (.ifCond .ne 7, 3) := by decide +kernel
theorem dX4_answer_30 : decode cX4_answer 30 = .ok (.iconst 2, 1) := by decide +kernel
theorem dX4_answer_31 : decode cX4_answer 31 = .ok (.goto 4, 3) := by decide +kernel
theorem dX4_answer_34 : decode cX4_answer 34 = .ok (.iconst 0, 1) := by decide +kernel
theorem dX4_answer_35 : decode cX4_answer 35 = .ok (.invokevirtual 80, 3) := by decide +kernel
theorem dX4_answer_38 : decode cX4_answer 38 = .ok (.ifCond .ne 5, 3) := by decide +kernel
theorem dX4_answer_41 : decode cX4_answer 41 = .ok (.iconst 0, 1) := by decide +kernel
theorem dX4_answer_42 : decode cX4_answer 42 = .ok (.ireturn, 1) := by decide +kernel
theorem dX4_answer_43 : decode cX4_answer 43 = .ok (.aload_n 0, 1) := by decide +kernel
theorem dX4_answer_44 : decode cX4_answer 44 = .ok (.getfield 47, 3) := by decide +kernel
theorem dX4_answer_47 : decode cX4_answer 47 = .ok (.iload_n 1, 1) := by decide +kernel
theorem dX4_answer_48 : decode cX4_answer 48 = .ok (.iaload, 1) := by decide +kernel
theorem dX4_answer_49 : decode cX4_answer 49 = .ok (.istore_n 2, 1) := by decide +kernel
theorem dX4_answer_50 : decode cX4_answer 50 = .ok (.iconst 0, 1) := by decide +kernel
theorem dX4_answer_51 : decode cX4_answer 51 = .ok (.istore_n 3, 1) := by decide +kernel
theorem dX4_answer_52 : decode cX4_answer 52 = .ok (.iload_n 3, 1) := by decide +kernel
theorem dX4_answer_53 : decode cX4_answer 53 = .ok (.iload_n 2, 1) := by decide +kernel
theorem dX4_answer_54 : decode cX4_answer 54 = .ok (.if_icmp .ge 88, 3) := by decide +kernel
theorem dX4_answer_57 : decode cX4_answer 57 = .ok (.bipush 12, 2) := by decide +kernel
theorem dX4_answer_59 : decode cX4_answer 59 = .ok (.iload_n 1, 1) := by decide +kernel
theorem dX4_answer_60 : decode cX4_answer 60 = .ok (.imul, 1) := by decide +kernel
theorem dX4_answer_61 : decode cX4_answer 61 = .ok (.iload_n 3, 1) := by decide +kernel
theorem dX4_answer_62 : decode cX4_answer 62 = .ok (.iadd, 1) := by decide +kernel
theorem dX4_answer_63 : decode cX4_answer 63 = .ok (.istore 4, 2) := by decide +kernel
theorem dX4_answer_65 : decode cX4_answer 65 = .ok (.iconst 0, 1) := by decide +kernel
theorem dX4_answer_66 : decode cX4_answer 66 = .ok (.istore 5, 2) := by decide +kernel
theorem dX4_answer_68 : decode cX4_answer 68 = .ok (.iload 5, 2) := by decide +kernel
theorem dX4_answer_70 : decode cX4_answer 70 = .ok (.bipush 16, 2) := by decide +kernel
theorem dX4_answer_72 : decode cX4_answer 72 = .ok (.if_icmp .ge 59, 3) := by decide +kernel
theorem dX4_answer_75 : decode cX4_answer 75 = .ok (.aload_n 0, 1) := by decide +kernel
theorem dX4_answer_76 : decode cX4_answer 76 = .ok (.getfield 53, 3) := by decide +kernel
theorem dX4_answer_79 : decode cX4_answer 79 = .ok (.iload 5, 2) := by decide +kernel
theorem dX4_answer_81 : decode cX4_answer 81 = .ok (.aload_n 0, 1) := by decide +kernel
theorem dX4_answer_82 : decode cX4_answer 82 = .ok (.getfield 44, 3) := by decide +kernel
theorem dX4_answer_85 : decode cX4_answer 85 = .ok (.bipush 16, 2) := by decide +kernel
theorem dX4_answer_87 : decode cX4_answer 87 = .ok (.iload 4, 2) := by decide +kernel
theorem dX4_answer_89 : decode cX4_answer 89 = .ok (.imul, 1) := by decide +kernel
theorem dX4_answer_90 : decode cX4_answer 90 = .ok (.iload 5, 2) := by decide +kernel
theorem dX4_answer_92 : decode cX4_answer 92 = .ok (.iadd, 1) := by decide +kernel
theorem dX4_answer_93 : decode cX4_answer 93 = .ok (.iaload, 1) := by decide +kernel
theorem dX4_answer_94 : decode cX4_answer 94 = .ok (.iastore, 1) := by decide +kernel
theorem dX4_answer_95 : decode cX4_answer 95 = .ok (.aload_n 0, 1) := by decide +kernel
theorem dX4_answer_96 : decode cX4_answer 96 = .ok (.getfield 20, 3) := by decide +kernel
theorem dX4_answer_99 : decode cX4_answer 99 = .ok (.sipush 192, 3) := by decide +kernel
theorem dX4_answer_102 : decode cX4_answer 102 = .ok (.iload_n 1, 1) := by decide +kernel
theorem dX4_answer_103 : decode cX4_answer 103 = .ok (.imul, 1) := by decide +kernel
theorem dX4_answer_104 : decode cX4_answer 104 = .ok (.aload_n 0, 1) := by decide +kernel
theorem dX4_answer_105 : decode cX4_answer 105 = .ok (.getfield 41, 3) := by decide +kernel
theorem dX4_answer_108 : decode cX4_answer 108 = .ok (.iload 4, 2) := by decide +kernel
theorem dX4_answer_110 : decode cX4_answer 110 = .ok (.iaload, 1) := by decide +kernel
theorem dX4_answer_111 : decode cX4_answer 111 = .ok (.iload 5, 2) := by decide +kernel
theorem dX4_answer_113 : decode cX4_answer 113 = .ok (.invokestatic 68, 3) := by decide +kernel
theorem dX4_answer_116 : decode cX4_answer 116 = .ok (.iadd, 1) := by decide +kernel
theorem dX4_answer_117 : decode cX4_answer 117 = .ok (.aload_n 0, 1) := by decide +kernel
theorem dX4_answer_118 : decode cX4_answer 118 = .ok (.getfield 53, 3) := by decide +kernel
theorem dX4_answer_121 : decode cX4_answer 121 = .ok (.iload 5, 2) := by decide +kernel
theorem dX4_answer_123 : decode cX4_answer 123 = .ok (.iaload, 1) := by decide +kernel
theorem dX4_answer_124 : decode cX4_answer 124 = .ok (.iastore, 1) := by decide +kernel
theorem dX4_answer_125 : decode cX4_answer 125 = .ok (.iinc 5 1, 3) := by decide +kernel
theorem dX4_answer_128 : decode cX4_answer 128 = .ok (.goto (-60), 3) := by decide +kernel
theorem dX4_answer_131 : decode cX4_answer 131 = .ok (.aload_n 0, 1) := by decide +kernel
theorem dX4_answer_132 : decode cX4_answer 132 = .ok (.iload_n 1, 1) := by decide +kernel
theorem dX4_answer_133 : decode cX4_answer 133 = .ok (.invokevirtual 134, 3) := by decide +kernel
theorem dX4_answer_136 : decode cX4_answer 136 = .ok (.iinc 3 1, 3) := by decide +kernel
theorem dX4_answer_139 : decode cX4_answer 139 = .ok (.goto (-87), 3) := by decide +kernel
theorem dX4_answer_142 : decode cX4_answer 142 = .ok (.aload_n 0, 1) := by decide +kernel
theorem dX4_answer_143 : decode cX4_answer 143 = .ok (.getfield 47, 3) := by decide +kernel
theorem dX4_answer_146 : decode cX4_answer 146 = .ok (.iload_n 1, 1) := by decide +kernel
theorem dX4_answer_147 : decode cX4_answer 147 = .ok (.iconst 0, 1) := by decide +kernel
theorem dX4_answer_148 : decode cX4_answer 148 = .ok (.iastore, 1) := by decide +kernel
theorem dX4_answer_149 : decode cX4_answer 149 = .ok (.iload_n 2, 1) := by decide +kernel
theorem dX4_answer_150 : decode cX4_answer 150 = .ok (.ireturn, 1) := by decide +kernel
set_option maxRecDepth 20000 in
theorem ggX4_shown_X4_isClient : GoodIn wsX4_shown wsX4_isClient := goodIn_r _ [6, 7, 8, 5, 9] (by decide +kernel) (by decide +kernel)
set_option maxRecDepth 20000 in
theorem gX4_shown_X4_isClient : GoodIn wsX4_shown (va_wsS RX4 112 yX4_isClient wsX4_isClient) := goodIn_app (goodIn_of _ (by decide +kernel)) ggX4_shown_X4_isClient
set_option maxRecDepth 20000 in
theorem ggX4_shown_X4_isCell : GoodIn wsX4_shown wsX4_isCell := goodIn_r _ [12, 7, 8, 5, 9] (by decide +kernel) (by decide +kernel)
set_option maxRecDepth 20000 in
theorem gX4_shown_X4_isCell : GoodIn wsX4_shown (va_wsS RX4 64 yX4_isCell wsX4_isCell) := goodIn_app (goodIn_of _ (by decide +kernel)) ggX4_shown_X4_isCell
set_option maxRecDepth 20000 in
theorem ggX4_shown_X4_goesWell : GoodIn wsX4_shown wsX4_goesWell := goodIn_r _ [16, 17, 18, 19, 20, 21, 22, 23, 24, 25, 26, 27, 28, 29, 30, 31, 32, 33, 34] (by decide +kernel) (by decide +kernel)
set_option maxRecDepth 20000 in
theorem gX4_shown_X4_goesWell : GoodIn wsX4_shown (wsV RX4 80 RX4 yX4_goesWell wsX4_goesWell) := goodIn_app (goodIn_of _ (by decide +kernel)) ggX4_shown_X4_goesWell
theorem dX4_shown_0 : decode cX4_shown 0 = .ok (.iload_n 1, 1) := by decide +kernel
theorem dX4_shown_1 : decode cX4_shown 1 = .ok (.invokestatic 112, 3) := by decide +kernel
theorem dX4_shown_4 : decode cX4_shown 4 = .ok (.ifCond .eq 15, 3) := by decide +kernel
theorem dX4_shown_7 : decode cX4_shown 7 = .ok (.iload_n 2, 1) := by decide +kernel
theorem dX4_shown_8 : decode cX4_shown 8 = .ok (.iload_n 3, 1) := by decide +kernel
theorem dX4_shown_9 : decode cX4_shown 9 = .ok (.invokestatic 64, 3) := by decide +kernel
theorem dX4_shown_12 : decode cX4_shown 12 = .ok (.ifCond .eq 7, 3) := by decide +kernel
theorem dX4_shown_15 : decode cX4_shown 15 = .ok (.iconst 1, 1) := by decide +kernel
theorem dX4_shown_16 : decode cX4_shown 16 = .ok (.goto 4, 3) := by decide +kernel
theorem dX4_shown_19 : decode cX4_shown 19 = .ok (.iconst 0, 1) := by decide +kernel
theorem dX4_shown_20 : decode cX4_shown 20 = .ok (.istore 4, 2) := by decide +kernel
theorem dX4_shown_22 : decode cX4_shown 22 = .ok (.aload_n 0, 1) := by decide +kernel
theorem dX4_shown_23 : decode cX4_shown 23 = .ok (.iload 4, 2) := by decide +kernel
theorem dX4_shown_25 : decode cX4_shown 25 = .ok (.ifCond .ne 7, 3) := by decide +kernel
theorem dX4_shown_28 : decode cX4_shown 28 = .ok (.iconst 1, 1) := by decide +kernel
theorem dX4_shown_29 : decode cX4_shown 29 = .ok (.goto 17, 3) := by decide +kernel
theorem dX4_shown_32 : decode cX4_shown 32 = .ok (.aload_n 0, 1) := by decide +kernel
theorem dX4_shown_33 : decode cX4_shown 33 = .ok (.getfield 16, 3) := by decide +kernel
theorem dX4_shown_36 : decode cX4_shown 36 = .ok (.iload_n 1, 1) := by decide +kernel
theorem dX4_shown_37 : decode cX4_shown 37 = .ok (.baload, 1) := by decide +kernel
theorem dX4_shown_38 : decode cX4_shown 38 = .ok (.ifCond .eq 7, 3) := by decide +kernel
theorem dX4_shown_41 : decode cX4_shown 41 = .ok (.iconst 0, 1) := by decide +kernel
theorem dX4_shown_42 : decode cX4_shown 42 = .ok (.goto 4, 3) := by decide +kernel
theorem dX4_shown_45 : decode cX4_shown 45 = .ok (.iconst 2, 1) := by decide +kernel
theorem dX4_shown_46 : decode cX4_shown 46 = .ok (.invokevirtual 80, 3) := by decide +kernel
theorem dX4_shown_49 : decode cX4_shown 49 = .ok (.ifCond .eq 23, 3) := by decide +kernel
theorem dX4_shown_52 : decode cX4_shown 52 = .ok (.aload_n 0, 1) := by decide +kernel
theorem dX4_shown_53 : decode cX4_shown 53 = .ok (.getfield 20, 3) := by decide +kernel
theorem dX4_shown_56 : decode cX4_shown 56 = .ok (.sipush 192, 3) := by decide +kernel
theorem dX4_shown_59 : decode cX4_shown 59 = .ok (.iload_n 1, 1) := by decide +kernel
theorem dX4_shown_60 : decode cX4_shown 60 = .ok (.imul, 1) := by decide +kernel
theorem dX4_shown_61 : decode cX4_shown 61 = .ok (.bipush 16, 2) := by decide +kernel
theorem dX4_shown_63 : decode cX4_shown 63 = .ok (.iload_n 3, 1) := by decide +kernel
theorem dX4_shown_64 : decode cX4_shown 64 = .ok (.imul, 1) := by decide +kernel
theorem dX4_shown_65 : decode cX4_shown 65 = .ok (.iadd, 1) := by decide +kernel
theorem dX4_shown_66 : decode cX4_shown 66 = .ok (.iload_n 2, 1) := by decide +kernel
theorem dX4_shown_67 : decode cX4_shown 67 = .ok (.iadd, 1) := by decide +kernel
theorem dX4_shown_68 : decode cX4_shown 68 = .ok (.iaload, 1) := by decide +kernel
theorem dX4_shown_69 : decode cX4_shown 69 = .ok (.goto 4, 3) := by decide +kernel
theorem dX4_shown_72 : decode cX4_shown 72 = .ok (.iconst 0, 1) := by decide +kernel
theorem dX4_shown_73 : decode cX4_shown 73 = .ok (.ireturn, 1) := by decide +kernel
set_option maxRecDepth 20000 in
theorem ggX4_isJoined_X4_isClient : GoodIn wsX4_isJoined wsX4_isClient := goodIn_r _ [5, 6, 7, 4, 8] (by decide +kernel) (by decide +kernel)
set_option maxRecDepth 20000 in
theorem gX4_isJoined_X4_isClient : GoodIn wsX4_isJoined (va_wsS RX4 112 yX4_isClient wsX4_isClient) := goodIn_app (goodIn_of _ (by decide +kernel)) ggX4_isJoined_X4_isClient
set_option maxRecDepth 20000 in
theorem ggX4_isJoined_X4_goesWell : GoodIn wsX4_isJoined wsX4_goesWell := goodIn_r _ [12, 13, 14, 15, 16, 17, 18, 19, 20, 21, 22, 23, 24, 25, 26, 27, 28, 29, 30] (by decide +kernel) (by decide +kernel)
set_option maxRecDepth 20000 in
theorem gX4_isJoined_X4_goesWell : GoodIn wsX4_isJoined (wsV RX4 80 RX4 yX4_goesWell wsX4_goesWell) := goodIn_app (goodIn_of _ (by decide +kernel)) ggX4_isJoined_X4_goesWell
theorem dX4_isJoined_0 : decode cX4_isJoined 0 = .ok (.aload_n 0, 1) := by decide +kernel
theorem dX4_isJoined_1 : decode cX4_isJoined 1 = .ok (.iload_n 1, 1) := by decide +kernel
theorem dX4_isJoined_2 : decode cX4_isJoined 2 = .ok (.invokestatic 112, 3) := by decide +kernel
theorem dX4_isJoined_5 : decode cX4_isJoined 5 = .ok (.ifCond .ne 7, 3) := by decide +kernel
theorem dX4_isJoined_8 : decode cX4_isJoined 8 = .ok (.iconst 1, 1) := by decide +kernel
theorem dX4_isJoined_9 : decode cX4_isJoined 9 = .ok (.goto 17, 3) := by decide +kernel
theorem dX4_isJoined_12 : decode cX4_isJoined 12 = .ok (.aload_n 0, 1) := by decide +kernel
theorem dX4_isJoined_13 : decode cX4_isJoined 13 = .ok (.getfield 16, 3) := by decide +kernel
theorem dX4_isJoined_16 : decode cX4_isJoined 16 = .ok (.iload_n 1, 1) := by decide +kernel
theorem dX4_isJoined_17 : decode cX4_isJoined 17 = .ok (.baload, 1) := by decide +kernel
theorem dX4_isJoined_18 : decode cX4_isJoined 18 = .ok (.ifCond .eq 7, 3) := by decide +kernel
theorem dX4_isJoined_21 : decode cX4_isJoined 21 = .ok (.iconst 0, 1) := by decide +kernel
theorem dX4_isJoined_22 : decode cX4_isJoined 22 = .ok (.goto 4, 3) := by decide +kernel
theorem dX4_isJoined_25 : decode cX4_isJoined 25 = .ok (.iconst 2, 1) := by decide +kernel
theorem dX4_isJoined_26 : decode cX4_isJoined 26 = .ok (.invokevirtual 80, 3) := by decide +kernel
theorem dX4_isJoined_29 : decode cX4_isJoined 29 = .ok (.ireturn, 1) := by decide +kernel
set_option maxRecDepth 20000 in
theorem ggX4_unlike_X4_isJoined : GoodIn wsX4_unlike wsX4_isJoined := goodIn_r _ [7, 8, 9, 10, 6, 11, 12, 13, 14, 15, 16, 17, 18, 19, 20, 21, 22, 23, 24, 25, 26, 27, 28, 29, 30, 31, 32, 33, 34, 35, 36] (by decide +kernel) (by decide +kernel)
set_option maxRecDepth 20000 in
theorem gX4_unlike_X4_isJoined : GoodIn wsX4_unlike (wsV RX4 137 RX4 yX4_isJoined wsX4_isJoined) := goodIn_app (goodIn_of _ (by decide +kernel)) ggX4_unlike_X4_isJoined
theorem dX4_unlike_0 : decode cX4_unlike 0 = .ok (.aload_n 0, 1) := by decide +kernel
theorem dX4_unlike_1 : decode cX4_unlike 1 = .ok (.iload_n 1, 1) := by decide +kernel
theorem dX4_unlike_2 : decode cX4_unlike 2 = .ok (.invokevirtual 137, 3) := by decide +kernel
theorem dX4_unlike_5 : decode cX4_unlike 5 = .ok (.ifCond .ne 5, 3) := by decide +kernel
theorem dX4_unlike_8 : decode cX4_unlike 8 = .ok (.iconst 0, 1) := by decide +kernel
theorem dX4_unlike_9 : decode cX4_unlike 9 = .ok (.ireturn, 1) := by decide +kernel
theorem dX4_unlike_10 : decode cX4_unlike 10 = .ok (.iconst 0, 1) := by decide +kernel
theorem dX4_unlike_11 : decode cX4_unlike 11 = .ok (.istore_n 2, 1) := by decide +kernel
theorem dX4_unlike_12 : decode cX4_unlike 12 = .ok (.iconst 0, 1) := by decide +kernel
theorem dX4_unlike_13 : decode cX4_unlike 13 = .ok (.istore_n 3, 1) := by decide +kernel
theorem dX4_unlike_14 : decode cX4_unlike 14 = .ok (.iload_n 3, 1) := by decide +kernel
theorem dX4_unlike_15 : decode cX4_unlike 15 = .ok (.sipush 192, 3) := by decide +kernel
theorem dX4_unlike_18 : decode cX4_unlike 18 = .ok (.if_icmp .ge 38, 3) := by decide +kernel
theorem dX4_unlike_21 : decode cX4_unlike 21 = .ok (.iload_n 2, 1) := by decide +kernel
theorem dX4_unlike_22 : decode cX4_unlike 22 = .ok (.aload_n 0, 1) := by decide +kernel
theorem dX4_unlike_23 : decode cX4_unlike 23 = .ok (.getfield 20, 3) := by decide +kernel
theorem dX4_unlike_26 : decode cX4_unlike 26 = .ok (.sipush 192, 3) := by decide +kernel
theorem dX4_unlike_29 : decode cX4_unlike 29 = .ok (.iload_n 1, 1) := by decide +kernel
theorem dX4_unlike_30 : decode cX4_unlike 30 = .ok (.imul, 1) := by decide +kernel
theorem dX4_unlike_31 : decode cX4_unlike 31 = .ok (.iload_n 3, 1) := by decide +kernel
theorem dX4_unlike_32 : decode cX4_unlike 32 = .ok (.iadd, 1) := by decide +kernel
theorem dX4_unlike_33 : decode cX4_unlike 33 = .ok (.iaload, 1) := by decide +kernel
theorem dX4_unlike_34 : decode cX4_unlike 34 = .ok (.aload_n 0, 1) := by decide +kernel
theorem dX4_unlike_35 : decode cX4_unlike 35 = .ok (.getfield 7, 3) := by decide +kernel
theorem dX4_unlike_38 : decode cX4_unlike 38 = .ok (.iload_n 3, 1) := by decide +kernel
theorem dX4_unlike_39 : decode cX4_unlike 39 = .ok (.iaload, 1) := by decide +kernel
theorem dX4_unlike_40 : decode cX4_unlike 40 = .ok (.if_icmp .ne 7, 3) := by decide +kernel
theorem dX4_unlike_43 : decode cX4_unlike 43 = .ok (.iconst 0, 1) := by decide +kernel
theorem dX4_unlike_44 : decode cX4_unlike 44 = .ok (.goto 4, 3) := by decide +kernel
theorem dX4_unlike_47 : decode cX4_unlike 47 = .ok (.iconst 1, 1) := by decide +kernel
theorem dX4_unlike_48 : decode cX4_unlike 48 = .ok (.iadd, 1) := by decide +kernel
theorem dX4_unlike_49 : decode cX4_unlike 49 = .ok (.istore_n 2, 1) := by decide +kernel
theorem dX4_unlike_50 : decode cX4_unlike 50 = .ok (.iinc 3 1, 3) := by decide +kernel
theorem dX4_unlike_53 : decode cX4_unlike 53 = .ok (.goto (-39), 3) := by decide +kernel
theorem dX4_unlike_56 : decode cX4_unlike 56 = .ok (.iload_n 2, 1) := by decide +kernel
theorem dX4_unlike_57 : decode cX4_unlike 57 = .ok (.ireturn, 1) := by decide +kernel
set_option maxRecDepth 20000 in
theorem ggX4_dirty_X4_isJoined : GoodIn wsX4_dirty wsX4_isJoined := goodIn_r _ [6, 7, 8, 9, 5, 10, 11, 12, 13, 14, 15, 16, 17, 18, 19, 20, 21, 22, 23, 24, 25, 26, 27, 28, 29, 30, 31, 32, 33, 34, 35] (by decide +kernel) (by decide +kernel)
set_option maxRecDepth 20000 in
theorem gX4_dirty_X4_isJoined : GoodIn wsX4_dirty (wsV RX4 137 RX4 yX4_isJoined wsX4_isJoined) := goodIn_app (goodIn_of _ (by decide +kernel)) ggX4_dirty_X4_isJoined
theorem dX4_dirty_0 : decode cX4_dirty 0 = .ok (.aload_n 0, 1) := by decide +kernel
theorem dX4_dirty_1 : decode cX4_dirty 1 = .ok (.iload_n 1, 1) := by decide +kernel
theorem dX4_dirty_2 : decode cX4_dirty 2 = .ok (.invokevirtual 137, 3) := by decide +kernel
theorem dX4_dirty_5 : decode cX4_dirty 5 = .ok (.ifCond .eq 12, 3) := by decide +kernel
theorem dX4_dirty_8 : decode cX4_dirty 8 = .ok (.aload_n 0, 1) := by decide +kernel
theorem dX4_dirty_9 : decode cX4_dirty 9 = .ok (.getfield 38, 3) := by decide +kernel
theorem dX4_dirty_12 : decode cX4_dirty 12 = .ok (.iload_n 1, 1) := by decide +kernel
theorem dX4_dirty_13 : decode cX4_dirty 13 = .ok (.iaload, 1) := by decide +kernel
theorem dX4_dirty_14 : decode cX4_dirty 14 = .ok (.goto 4, 3) := by decide +kernel
theorem dX4_dirty_17 : decode cX4_dirty 17 = .ok (.iconst 0, 1) := by decide +kernel
theorem dX4_dirty_18 : decode cX4_dirty 18 = .ok (.ireturn, 1) := by decide +kernel
set_option maxRecDepth 20000 in
theorem ggX4_dirtyAt_X4_isClient : GoodIn wsX4_dirtyAt wsX4_isClient := goodIn_r _ [7, 8, 9, 6, 10] (by decide +kernel) (by decide +kernel)
set_option maxRecDepth 20000 in
theorem gX4_dirtyAt_X4_isClient : GoodIn wsX4_dirtyAt (va_wsS RX4 112 yX4_isClient wsX4_isClient) := goodIn_app (goodIn_of _ (by decide +kernel)) ggX4_dirtyAt_X4_isClient
set_option maxRecDepth 20000 in
theorem ggX4_dirtyAt_X4_in : GoodIn wsX4_dirtyAt wsX4_in := goodIn_r _ [10] (by decide +kernel) (by decide +kernel)
set_option maxRecDepth 20000 in
theorem gX4_dirtyAt_X4_in : GoodIn wsX4_dirtyAt (va_wsS RX4 60 yX4_in wsX4_in) := goodIn_app (goodIn_of _ (by decide +kernel)) ggX4_dirtyAt_X4_in
set_option maxRecDepth 20000 in
theorem ggX4_dirtyAt_X4_goesWell : GoodIn wsX4_dirtyAt wsX4_goesWell := goodIn_r _ [14, 15, 16, 17, 18, 19, 20, 21, 22, 23, 24, 25, 26, 27, 28, 29, 30, 31, 32] (by decide +kernel) (by decide +kernel)
set_option maxRecDepth 20000 in
theorem gX4_dirtyAt_X4_goesWell : GoodIn wsX4_dirtyAt (wsV RX4 80 RX4 yX4_goesWell wsX4_goesWell) := goodIn_app (goodIn_of _ (by decide +kernel)) ggX4_dirtyAt_X4_goesWell
theorem dX4_dirtyAt_0 : decode cX4_dirtyAt 0 = .ok (.iload_n 1, 1) := by decide +kernel
theorem dX4_dirtyAt_1 : decode cX4_dirtyAt 1 = .ok (.invokestatic 112, 3) := by decide +kernel
theorem dX4_dirtyAt_4 : decode cX4_dirtyAt 4 = .ok (.ifCond .eq 23, 3) := by decide +kernel
theorem dX4_dirtyAt_7 : decode cX4_dirtyAt 7 = .ok (.iload_n 2, 1) := by decide +kernel
theorem dX4_dirtyAt_8 : decode cX4_dirtyAt 8 = .ok (.iconst 0, 1) := by decide +kernel
theorem dX4_dirtyAt_9 : decode cX4_dirtyAt 9 = .ok (.aload_n 0, 1) := by decide +kernel
theorem dX4_dirtyAt_10 : decode cX4_dirtyAt 10 = .ok (.getfield 38, 3) := by decide +kernel
theorem dX4_dirtyAt_13 : decode cX4_dirtyAt 13 = .ok (.iload_n 1, 1) := by decide +kernel
theorem dX4_dirtyAt_14 : decode cX4_dirtyAt 14 = .ok (.iaload, 1) := by decide +kernel
theorem dX4_dirtyAt_15 : decode cX4_dirtyAt 15 = .ok (.iconst 1, 1) := by decide +kernel
theorem dX4_dirtyAt_16 : decode cX4_dirtyAt 16 = .ok (.isub, 1) := by decide +kernel
theorem dX4_dirtyAt_17 : decode cX4_dirtyAt 17 = .ok (.invokestatic 60, 3) := by decide +kernel
theorem dX4_dirtyAt_20 : decode cX4_dirtyAt 20 = .ok (.ifCond .eq 7, 3) := by decide +kernel
theorem dX4_dirtyAt_23 : decode cX4_dirtyAt 23 = .ok (.iconst 1, 1) := by decide +kernel
theorem dX4_dirtyAt_24 : decode cX4_dirtyAt 24 = .ok (.goto 4, 3) := by decide +kernel
theorem dX4_dirtyAt_27 : decode cX4_dirtyAt 27 = .ok (.iconst 0, 1) := by decide +kernel
theorem dX4_dirtyAt_28 : decode cX4_dirtyAt 28 = .ok (.istore_n 3, 1) := by decide +kernel
theorem dX4_dirtyAt_29 : decode cX4_dirtyAt 29 = .ok (.aload_n 0, 1) := by decide +kernel
theorem dX4_dirtyAt_30 : decode cX4_dirtyAt 30 = .ok (.iload_n 1, 1) := by decide +kernel
theorem dX4_dirtyAt_31 : decode cX4_dirtyAt 31 = .ok (.invokestatic 112, 3) := by decide +kernel
theorem dX4_dirtyAt_34 : decode cX4_dirtyAt 34 = .ok (.ifCond .ne 7, 3) := by decide +kernel
theorem dX4_dirtyAt_37 : decode cX4_dirtyAt 37 = .ok (.iconst 1, 1) := by decide +kernel
theorem dX4_dirtyAt_38 : decode cX4_dirtyAt 38 = .ok (.goto 25, 3) := by decide +kernel
theorem dX4_dirtyAt_41 : decode cX4_dirtyAt 41 = .ok (.aload_n 0, 1) := by decide +kernel
theorem dX4_dirtyAt_42 : decode cX4_dirtyAt 42 = .ok (.getfield 16, 3) := by decide +kernel
theorem dX4_dirtyAt_45 : decode cX4_dirtyAt 45 = .ok (.iload_n 1, 1) := by decide +kernel
theorem dX4_dirtyAt_46 : decode cX4_dirtyAt 46 = .ok (.baload, 1) := by decide +kernel
theorem dX4_dirtyAt_47 : decode cX4_dirtyAt 47 = .ok (.ifCond .ne 7, 3) := by decide +kernel
theorem dX4_dirtyAt_50 : decode cX4_dirtyAt 50 = .ok (.iconst 2, 1) := by decide +kernel
theorem dX4_dirtyAt_51 : decode cX4_dirtyAt 51 = .ok (.goto 12, 3) := by decide +kernel
theorem dX4_dirtyAt_54 : decode cX4_dirtyAt 54 = .ok (.iload_n 3, 1) := by decide +kernel
theorem dX4_dirtyAt_55 : decode cX4_dirtyAt 55 = .ok (.ifCond .eq 7, 3) := by decide +kernel
theorem dX4_dirtyAt_58 : decode cX4_dirtyAt 58 = .ok (.iconst 0, 1) := by decide +kernel
theorem dX4_dirtyAt_59 : decode cX4_dirtyAt 59 = .ok (.goto 4, 3) := by decide +kernel
theorem dX4_dirtyAt_62 : decode cX4_dirtyAt 62 = .ok (.iconst 3, 1) := by decide +kernel
theorem dX4_dirtyAt_63 : decode cX4_dirtyAt 63 = .ok (.invokevirtual 80, 3) := by decide +kernel
theorem dX4_dirtyAt_66 : decode cX4_dirtyAt 66 = .ok (.ifCond .eq 17, 3) := by decide +kernel
theorem dX4_dirtyAt_69 : decode cX4_dirtyAt 69 = .ok (.aload_n 0, 1) := by decide +kernel
theorem dX4_dirtyAt_70 : decode cX4_dirtyAt 70 = .ok (.getfield 35, 3) := by decide +kernel
theorem dX4_dirtyAt_73 : decode cX4_dirtyAt 73 = .ok (.bipush 12, 2) := by decide +kernel
theorem dX4_dirtyAt_75 : decode cX4_dirtyAt 75 = .ok (.iload_n 1, 1) := by decide +kernel
theorem dX4_dirtyAt_76 : decode cX4_dirtyAt 76 = .ok (.imul, 1) := by decide +kernel
theorem dX4_dirtyAt_77 : decode cX4_dirtyAt 77 = .ok (.iload_n 2, 1) := by decide +kernel
theorem dX4_dirtyAt_78 : decode cX4_dirtyAt 78 = .ok (.iadd, 1) := by decide +kernel
theorem dX4_dirtyAt_79 : decode cX4_dirtyAt 79 = .ok (.iaload, 1) := by decide +kernel
theorem dX4_dirtyAt_80 : decode cX4_dirtyAt 80 = .ok (.goto 4, 3) := by decide +kernel
theorem dX4_dirtyAt_83 : decode cX4_dirtyAt 83 = .ok (.iconst 0, 1) := by decide +kernel
theorem dX4_dirtyAt_84 : decode cX4_dirtyAt 84 = .ok (.ireturn, 1) := by decide +kernel
set_option maxRecDepth 20000 in
theorem ggX4_cached_X4_isJoined : GoodIn wsX4_cached wsX4_isJoined := goodIn_r _ [6, 7, 8, 9, 5, 10, 11, 12, 13, 14, 15, 16, 17, 18, 19, 20, 21, 22, 23, 24, 25, 26, 27, 28, 29, 30, 31, 32, 33, 34, 35] (by decide +kernel) (by decide +kernel)
set_option maxRecDepth 20000 in
theorem gX4_cached_X4_isJoined : GoodIn wsX4_cached (wsV RX4 137 RX4 yX4_isJoined wsX4_isJoined) := goodIn_app (goodIn_of _ (by decide +kernel)) ggX4_cached_X4_isJoined
theorem dX4_cached_0 : decode cX4_cached 0 = .ok (.aload_n 0, 1) := by decide +kernel
theorem dX4_cached_1 : decode cX4_cached 1 = .ok (.iload_n 1, 1) := by decide +kernel
theorem dX4_cached_2 : decode cX4_cached 2 = .ok (.invokevirtual 137, 3) := by decide +kernel
theorem dX4_cached_5 : decode cX4_cached 5 = .ok (.ifCond .eq 12, 3) := by decide +kernel
theorem dX4_cached_8 : decode cX4_cached 8 = .ok (.aload_n 0, 1) := by decide +kernel
theorem dX4_cached_9 : decode cX4_cached 9 = .ok (.getfield 32, 3) := by decide +kernel
theorem dX4_cached_12 : decode cX4_cached 12 = .ok (.iload_n 1, 1) := by decide +kernel
theorem dX4_cached_13 : decode cX4_cached 13 = .ok (.iaload, 1) := by decide +kernel
theorem dX4_cached_14 : decode cX4_cached 14 = .ok (.goto 4, 3) := by decide +kernel
theorem dX4_cached_17 : decode cX4_cached 17 = .ok (.iconst 0, 1) := by decide +kernel
theorem dX4_cached_18 : decode cX4_cached 18 = .ok (.ireturn, 1) := by decide +kernel
set_option maxRecDepth 20000 in
theorem ggX4_isAlike_X4_isJoined : GoodIn wsX4_isAlike wsX4_isJoined := goodIn_r _ [9, 10, 11, 12, 8, 13, 14, 15, 16, 17, 18, 19, 20, 21, 22, 23, 24, 25, 26, 27, 28, 29, 30, 31, 32, 33, 34, 35, 36, 37, 38] (by decide +kernel) (by decide +kernel)
set_option maxRecDepth 20000 in
theorem gX4_isAlike_X4_isJoined : GoodIn wsX4_isAlike (wsV RX4 137 RX4 yX4_isJoined wsX4_isJoined) := goodIn_app (goodIn_of _ (by decide +kernel)) ggX4_isAlike_X4_isJoined
theorem dX4_isAlike_0 : decode cX4_isAlike 0 = .ok (.aload_n 0, 1) := by decide +kernel
theorem dX4_isAlike_1 : decode cX4_isAlike 1 = .ok (.iload_n 1, 1) := by decide +kernel
theorem dX4_isAlike_2 : decode cX4_isAlike 2 = .ok (.invokevirtual 137, 3) := by decide +kernel
theorem dX4_isAlike_5 : decode cX4_isAlike 5 = .ok (.ifCond .ne 5, 3) := by decide +kernel
theorem dX4_isAlike_8 : decode cX4_isAlike 8 = .ok (.iconst 0, 1) := by decide +kernel
theorem dX4_isAlike_9 : decode cX4_isAlike 9 = .ok (.ireturn, 1) := by decide +kernel
theorem dX4_isAlike_10 : decode cX4_isAlike 10 = .ok (.aload_n 0, 1) := by decide +kernel
theorem dX4_isAlike_11 : decode cX4_isAlike 11 = .ok (.getfield 26, 3) := by decide +kernel
theorem dX4_isAlike_14 : decode cX4_isAlike 14 = .ok (.iload_n 1, 1) := by decide +kernel
theorem dX4_isAlike_15 : decode cX4_isAlike 15 = .ok (.iaload, 1) := by decide +kernel
theorem dX4_isAlike_16 : decode cX4_isAlike 16 = .ok (.aload_n 0, 1) := by decide +kernel
theorem dX4_isAlike_17 : decode cX4_isAlike 17 = .ok (.getfield 32, 3) := by decide +kernel
theorem dX4_isAlike_20 : decode cX4_isAlike 20 = .ok (.iload_n 1, 1) := by decide +kernel
theorem dX4_isAlike_21 : decode cX4_isAlike 21 = .ok (.iaload, 1) := by decide +kernel
theorem dX4_isAlike_22 : decode cX4_isAlike 22 = .ok (.if_icmp .ne 7, 3) := by decide +kernel
theorem dX4_isAlike_25 : decode cX4_isAlike 25 = .ok (.iconst 1, 1) := by decide +kernel
theorem dX4_isAlike_26 : decode cX4_isAlike 26 = .ok (.goto 4, 3) := by decide +kernel
theorem dX4_isAlike_29 : decode cX4_isAlike 29 = .ok (.iconst 0, 1) := by decide +kernel
theorem dX4_isAlike_30 : decode cX4_isAlike 30 = .ok (.istore_n 2, 1) := by decide +kernel
theorem dX4_isAlike_31 : decode cX4_isAlike 31 = .ok (.iconst 0, 1) := by decide +kernel
theorem dX4_isAlike_32 : decode cX4_isAlike 32 = .ok (.istore_n 3, 1) := by decide +kernel
theorem dX4_isAlike_33 : decode cX4_isAlike 33 = .ok (.iload_n 3, 1) := by decide +kernel
theorem dX4_isAlike_34 : decode cX4_isAlike 34 = .ok (.bipush 16, 2) := by decide +kernel
theorem dX4_isAlike_36 : decode cX4_isAlike 36 = .ok (.aload_n 0, 1) := by decide +kernel
theorem dX4_isAlike_37 : decode cX4_isAlike 37 = .ok (.getfield 26, 3) := by decide +kernel
theorem dX4_isAlike_40 : decode cX4_isAlike 40 = .ok (.iload_n 1, 1) := by decide +kernel
theorem dX4_isAlike_41 : decode cX4_isAlike 41 = .ok (.iaload, 1) := by decide +kernel
theorem dX4_isAlike_42 : decode cX4_isAlike 42 = .ok (.imul, 1) := by decide +kernel
theorem dX4_isAlike_43 : decode cX4_isAlike 43 = .ok (.if_icmp .ge 44, 3) := by decide +kernel
theorem dX4_isAlike_46 : decode cX4_isAlike 46 = .ok (.iload_n 2, 1) := by decide +kernel
theorem dX4_isAlike_47 : decode cX4_isAlike 47 = .ok (.ifCond .eq 40, 3) := by decide +kernel
theorem dX4_isAlike_50 : decode cX4_isAlike 50 = .ok (.aload_n 0, 1) := by decide +kernel
theorem dX4_isAlike_51 : decode cX4_isAlike 51 = .ok (.getfield 23, 3) := by decide +kernel
theorem dX4_isAlike_54 : decode cX4_isAlike 54 = .ok (.bipush 112, 2) := by decide +kernel
theorem dX4_isAlike_56 : decode cX4_isAlike 56 = .ok (.iload_n 1, 1) := by decide +kernel
theorem dX4_isAlike_57 : decode cX4_isAlike 57 = .ok (.imul, 1) := by decide +kernel
theorem dX4_isAlike_58 : decode cX4_isAlike 58 = .ok (.iload_n 3, 1) := by decide +kernel
theorem dX4_isAlike_59 : decode cX4_isAlike 59 = .ok (.iadd, 1) := by decide +kernel
theorem dX4_isAlike_60 : decode cX4_isAlike 60 = .ok (.iaload, 1) := by decide +kernel
theorem dX4_isAlike_61 : decode cX4_isAlike 61 = .ok (.aload_n 0, 1) := by decide +kernel
theorem dX4_isAlike_62 : decode cX4_isAlike 62 = .ok (.getfield 29, 3) := by decide +kernel
theorem dX4_isAlike_65 : decode cX4_isAlike 65 = .ok (.bipush 112, 2) := by decide +kernel
theorem dX4_isAlike_67 : decode cX4_isAlike 67 = .ok (.iload_n 1, 1) := by decide +kernel
theorem dX4_isAlike_68 : decode cX4_isAlike 68 = .ok (.imul, 1) := by decide +kernel
theorem dX4_isAlike_69 : decode cX4_isAlike 69 = .ok (.iload_n 3, 1) := by decide +kernel
theorem dX4_isAlike_70 : decode cX4_isAlike 70 = .ok (.iadd, 1) := by decide +kernel
theorem dX4_isAlike_71 : decode cX4_isAlike 71 = .ok (.iaload, 1) := by decide +kernel
theorem dX4_isAlike_72 : decode cX4_isAlike 72 = .ok (.if_icmp .ne 7, 3) := by decide +kernel
theorem dX4_isAlike_75 : decode cX4_isAlike 75 = .ok (.iconst 1, 1) := by decide +kernel
theorem dX4_isAlike_76 : decode cX4_isAlike 76 = .ok (.goto 4, 3) := by decide +kernel
theorem dX4_isAlike_79 : decode cX4_isAlike 79 = .ok (.iconst 0, 1) := by decide +kernel
theorem dX4_isAlike_80 : decode cX4_isAlike 80 = .ok (.istore_n 2, 1) := by decide +kernel
theorem dX4_isAlike_81 : decode cX4_isAlike 81 = .ok (.iinc 3 1, 3) := by decide +kernel
theorem dX4_isAlike_84 : decode cX4_isAlike 84 = .ok (.goto (-51), 3) := by decide +kernel
theorem dX4_isAlike_87 : decode cX4_isAlike 87 = .ok (.iload_n 2, 1) := by decide +kernel
theorem dX4_isAlike_88 : decode cX4_isAlike 88 = .ok (.ireturn, 1) := by decide +kernel
set_option maxRecDepth 20000 in
theorem ggX4_written_X4_in : GoodIn wsX4_written wsX4_in := goodIn_r _ [5] (by decide +kernel) (by decide +kernel)
set_option maxRecDepth 20000 in
theorem gX4_written_X4_in : GoodIn wsX4_written (va_wsS RX4 60 yX4_in wsX4_in) := goodIn_app (goodIn_of _ (by decide +kernel)) ggX4_written_X4_in
set_option maxRecDepth 20000 in
theorem ggX4_written_X4_goesWell : GoodIn wsX4_written wsX4_goesWell := goodIn_r _ [9, 10, 11, 12, 13, 14, 15, 16, 17, 18, 19, 20, 21, 22, 23, 24, 25, 26, 27] (by decide +kernel) (by decide +kernel)
set_option maxRecDepth 20000 in
theorem gX4_written_X4_goesWell : GoodIn wsX4_written (wsV RX4 80 RX4 yX4_goesWell wsX4_goesWell) := goodIn_app (goodIn_of _ (by decide +kernel)) ggX4_written_X4_goesWell
theorem dX4_written_0 : decode cX4_written 0 = .ok (.aload_n 0, 1) := by decide +kernel
theorem dX4_written_1 : decode cX4_written 1 = .ok (.iload_n 1, 1) := by decide +kernel
theorem dX4_written_2 : decode cX4_written 2 = .ok (.iconst 0, 1) := by decide +kernel
theorem dX4_written_3 : decode cX4_written 3 = .ok (.iconst 4, 1) := by decide +kernel
theorem dX4_written_4 : decode cX4_written 4 = .ok (.invokestatic 60, 3) := by decide +kernel
theorem dX4_written_7 : decode cX4_written 7 = .ok (.ifCond .eq 7, 3) := by decide +kernel
theorem dX4_written_10 : decode cX4_written 10 = .ok (.iconst 0, 1) := by decide +kernel
theorem dX4_written_11 : decode cX4_written 11 = .ok (.goto 4, 3) := by decide +kernel
theorem dX4_written_14 : decode cX4_written 14 = .ok (.iconst 1, 1) := by decide +kernel
theorem dX4_written_15 : decode cX4_written 15 = .ok (.invokevirtual 80, 3) := by decide +kernel
theorem dX4_written_18 : decode cX4_written 18 = .ok (.ifCond .eq 12, 3) := by decide +kernel
theorem dX4_written_21 : decode cX4_written 21 = .ok (.aload_n 0, 1) := by decide +kernel
theorem dX4_written_22 : decode cX4_written 22 = .ok (.getfield 50, 3) := by decide +kernel
theorem dX4_written_25 : decode cX4_written 25 = .ok (.iload_n 1, 1) := by decide +kernel
theorem dX4_written_26 : decode cX4_written 26 = .ok (.iaload, 1) := by decide +kernel
theorem dX4_written_27 : decode cX4_written 27 = .ok (.goto 4, 3) := by decide +kernel
theorem dX4_written_30 : decode cX4_written 30 = .ok (.iconst 0, 1) := by decide +kernel
theorem dX4_written_31 : decode cX4_written 31 = .ok (.ireturn, 1) := by decide +kernel
theorem dX4_units_0 : decode cX4_units 0 = .ok (.aload_n 0, 1) := by decide +kernel
theorem dX4_units_1 : decode cX4_units 1 = .ok (.iconst 0, 1) := by decide +kernel
theorem dX4_units_2 : decode cX4_units 2 = .ok (.putfield 56, 3) := by decide +kernel
theorem dX4_units_5 : decode cX4_units 5 = .ok (.aload_n 0, 1) := by decide +kernel
theorem dX4_units_6 : decode cX4_units 6 = .ok (.getfield 128, 3) := by decide +kernel
theorem dX4_units_9 : decode cX4_units 9 = .ok (.ireturn, 1) := by decide +kernel
theorem dJ6_bitCount_0f7a4_0 : decode cJ6_bitCount_0f7a4 0 = .ok (.iload_n 0, 1) := by decide +kernel
theorem dJ6_bitCount_0f7a4_1 : decode cJ6_bitCount_0f7a4 1 = .ok (.iload_n 0, 1) := by decide +kernel
theorem dJ6_bitCount_0f7a4_2 : decode cJ6_bitCount_0f7a4 2 = .ok (.iconst 1, 1) := by decide +kernel
theorem dJ6_bitCount_0f7a4_3 : decode cJ6_bitCount_0f7a4 3 = .ok (.iushr, 1) := by decide +kernel
theorem dJ6_bitCount_0f7a4_4 : decode cJ6_bitCount_0f7a4 4 = .ok (.ldc_w 265, 3) := by decide +kernel
theorem dJ6_bitCount_0f7a4_7 : decode cJ6_bitCount_0f7a4 7 = .ok (.iand, 1) := by decide +kernel
theorem dJ6_bitCount_0f7a4_8 : decode cJ6_bitCount_0f7a4 8 = .ok (.isub, 1) := by decide +kernel
theorem dJ6_bitCount_0f7a4_9 : decode cJ6_bitCount_0f7a4 9 = .ok (.istore_n 0, 1) := by decide +kernel
theorem dJ6_bitCount_0f7a4_10 : decode cJ6_bitCount_0f7a4 10 = .ok (.iload_n 0, 1) := by decide +kernel
theorem dJ6_bitCount_0f7a4_11 : decode cJ6_bitCount_0f7a4 11 = .ok (.ldc_w 266, 3) := by decide +kernel
theorem dJ6_bitCount_0f7a4_14 : decode cJ6_bitCount_0f7a4 14 = .ok (.iand, 1) := by decide +kernel
theorem dJ6_bitCount_0f7a4_15 : decode cJ6_bitCount_0f7a4 15 = .ok (.iload_n 0, 1) := by decide +kernel
theorem dJ6_bitCount_0f7a4_16 : decode cJ6_bitCount_0f7a4 16 = .ok (.iconst 2, 1) := by decide +kernel
theorem dJ6_bitCount_0f7a4_17 : decode cJ6_bitCount_0f7a4 17 = .ok (.iushr, 1) := by decide +kernel
theorem dJ6_bitCount_0f7a4_18 : decode cJ6_bitCount_0f7a4 18 = .ok (.ldc_w 266, 3) := by decide +kernel
theorem dJ6_bitCount_0f7a4_21 : decode cJ6_bitCount_0f7a4 21 = .ok (.iand, 1) := by decide +kernel
theorem dJ6_bitCount_0f7a4_22 : decode cJ6_bitCount_0f7a4 22 = .ok (.iadd, 1) := by decide +kernel
theorem dJ6_bitCount_0f7a4_23 : decode cJ6_bitCount_0f7a4 23 = .ok (.istore_n 0, 1) := by decide +kernel
theorem dJ6_bitCount_0f7a4_24 : decode cJ6_bitCount_0f7a4 24 = .ok (.iload_n 0, 1) := by decide +kernel
theorem dJ6_bitCount_0f7a4_25 : decode cJ6_bitCount_0f7a4 25 = .ok (.iload_n 0, 1) := by decide +kernel
theorem dJ6_bitCount_0f7a4_26 : decode cJ6_bitCount_0f7a4 26 = .ok (.iconst 4, 1) := by decide +kernel
theorem dJ6_bitCount_0f7a4_27 : decode cJ6_bitCount_0f7a4 27 = .ok (.iushr, 1) := by decide +kernel
theorem dJ6_bitCount_0f7a4_28 : decode cJ6_bitCount_0f7a4 28 = .ok (.iadd, 1) := by decide +kernel
theorem dJ6_bitCount_0f7a4_29 : decode cJ6_bitCount_0f7a4 29 = .ok (.ldc_w 267, 3) := by decide +kernel
theorem dJ6_bitCount_0f7a4_32 : decode cJ6_bitCount_0f7a4 32 = .ok (.iand, 1) := by decide +kernel
theorem dJ6_bitCount_0f7a4_33 : decode cJ6_bitCount_0f7a4 33 = .ok (.istore_n 0, 1) := by decide +kernel
theorem dJ6_bitCount_0f7a4_34 : decode cJ6_bitCount_0f7a4 34 = .ok (.iload_n 0, 1) := by decide +kernel
theorem dJ6_bitCount_0f7a4_35 : decode cJ6_bitCount_0f7a4 35 = .ok (.iload_n 0, 1) := by decide +kernel
theorem dJ6_bitCount_0f7a4_36 : decode cJ6_bitCount_0f7a4 36 = .ok (.bipush 8, 2) := by decide +kernel
theorem dJ6_bitCount_0f7a4_38 : decode cJ6_bitCount_0f7a4 38 = .ok (.iushr, 1) := by decide +kernel
theorem dJ6_bitCount_0f7a4_39 : decode cJ6_bitCount_0f7a4 39 = .ok (.iadd, 1) := by decide +kernel
theorem dJ6_bitCount_0f7a4_40 : decode cJ6_bitCount_0f7a4 40 = .ok (.istore_n 0, 1) := by decide +kernel
theorem dJ6_bitCount_0f7a4_41 : decode cJ6_bitCount_0f7a4 41 = .ok (.iload_n 0, 1) := by decide +kernel
theorem dJ6_bitCount_0f7a4_42 : decode cJ6_bitCount_0f7a4 42 = .ok (.iload_n 0, 1) := by decide +kernel
theorem dJ6_bitCount_0f7a4_43 : decode cJ6_bitCount_0f7a4 43 = .ok (.bipush 16, 2) := by decide +kernel
theorem dJ6_bitCount_0f7a4_45 : decode cJ6_bitCount_0f7a4 45 = .ok (.iushr, 1) := by decide +kernel
theorem dJ6_bitCount_0f7a4_46 : decode cJ6_bitCount_0f7a4 46 = .ok (.iadd, 1) := by decide +kernel
theorem dJ6_bitCount_0f7a4_47 : decode cJ6_bitCount_0f7a4 47 = .ok (.istore_n 0, 1) := by decide +kernel
theorem dJ6_bitCount_0f7a4_48 : decode cJ6_bitCount_0f7a4 48 = .ok (.iload_n 0, 1) := by decide +kernel
theorem dJ6_bitCount_0f7a4_49 : decode cJ6_bitCount_0f7a4 49 = .ok (.bipush 63, 2) := by decide +kernel
theorem dJ6_bitCount_0f7a4_51 : decode cJ6_bitCount_0f7a4 51 = .ok (.iand, 1) := by decide +kernel
theorem dJ6_bitCount_0f7a4_52 : decode cJ6_bitCount_0f7a4 52 = .ok (.ireturn, 1) := by decide +kernel
theorem dJ9_min_7cf53_0 : decode cJ9_min_7cf53 0 = .ok (.iload_n 0, 1) := by decide +kernel
theorem dJ9_min_7cf53_1 : decode cJ9_min_7cf53 1 = .ok (.iload_n 1, 1) := by decide +kernel
theorem dJ9_min_7cf53_2 : decode cJ9_min_7cf53 2 = .ok (.if_icmp .gt 7, 3) := by decide +kernel
theorem dJ9_min_7cf53_5 : decode cJ9_min_7cf53 5 = .ok (.iload_n 0, 1) := by decide +kernel
theorem dJ9_min_7cf53_6 : decode cJ9_min_7cf53 6 = .ok (.goto 4, 3) := by decide +kernel
theorem dJ9_min_7cf53_9 : decode cJ9_min_7cf53 9 = .ok (.iload_n 1, 1) := by decide +kernel
theorem dJ9_min_7cf53_10 : decode cJ9_min_7cf53 10 = .ok (.ireturn, 1) := by decide +kernel
