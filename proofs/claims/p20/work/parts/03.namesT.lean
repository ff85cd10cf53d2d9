set_option maxRecDepth 20000 in
theorem ggX3_init_X2_init : GoodIn wsX3_init wsX2_init := goodIn_r _ [17, 18, 2, 3, 19, 20, 42] (by decide +kernel) (by decide +kernel)
set_option maxRecDepth 20000 in
theorem gX3_init_X2_init_n9 : GoodIn wsX3_init (wsX2_init) := ggX3_init_X2_init
set_option maxRecDepth 20000 in
theorem ggX3_init_X1_init : GoodIn wsX3_init wsX1_init := goodIn_r _ [22, 23, 2, 3, 24, 25, 5, 6, 26, 27, 28, 29, 30, 31, 11, 32, 33, 34, 19, 35, 36, 16, 17, 18, 20, 37, 38, 39, 40, 41, 48, 49, 50, 51, 52, 53, 54, 55, 56, 42, 57, 58] (by decide +kernel) (by decide +kernel)
set_option maxRecDepth 20000 in
theorem gX3_init_X1_init_n33 : GoodIn wsX3_init (wsX1_init) := ggX3_init_X1_init
theorem dX3_init_0 : decode cX3_init 0 = .ok (.aload_n 0, 1) := by decide +kernel
theorem dX3_init_1 : decode cX3_init 1 = .ok (.invokespecial 1, 3) := by decide +kernel
theorem dX3_init_4 : decode cX3_init 4 = .ok (.aload_n 0, 1) := by decide +kernel
theorem dX3_init_5 : decode cX3_init 5 = .ok (.new 7, 3) := by decide +kernel
theorem dX3_init_8 : decode cX3_init 8 = .ok (.dup, 1) := by decide +kernel
theorem dX3_init_9 : decode cX3_init 9 = .ok (.invokespecial 9, 3) := by decide +kernel
theorem dX3_init_12 : decode cX3_init 12 = .ok (.putfield 10, 3) := by decide +kernel
theorem dX3_init_15 : decode cX3_init 15 = .ok (.aload_n 0, 1) := by decide +kernel
theorem dX3_init_16 : decode cX3_init 16 = .ok (.new 7, 3) := by decide +kernel
theorem dX3_init_19 : decode cX3_init 19 = .ok (.dup, 1) := by decide +kernel
theorem dX3_init_20 : decode cX3_init 20 = .ok (.invokespecial 9, 3) := by decide +kernel
theorem dX3_init_23 : decode cX3_init 23 = .ok (.putfield 16, 3) := by decide +kernel
theorem dX3_init_26 : decode cX3_init 26 = .ok (.aload_n 0, 1) := by decide +kernel
theorem dX3_init_27 : decode cX3_init 27 = .ok (.iconst 2, 1) := by decide +kernel
theorem dX3_init_28 : decode cX3_init 28 = .ok (.anewarray 19, 3) := by decide +kernel
theorem dX3_init_31 : decode cX3_init 31 = .ok (.putfield 21, 3) := by decide +kernel
theorem dX3_init_34 : decode cX3_init 34 = .ok (.aload_n 0, 1) := by decide +kernel
theorem dX3_init_35 : decode cX3_init 35 = .ok (.iconst 5, 1) := by decide +kernel
theorem dX3_init_36 : decode cX3_init 36 = .ok (.newarray .int, 2) := by decide +kernel
theorem dX3_init_38 : decode cX3_init 38 = .ok (.putfield 25, 3) := by decide +kernel
theorem dX3_init_41 : decode cX3_init 41 = .ok (.aload_n 0, 1) := by decide +kernel
theorem dX3_init_42 : decode cX3_init 42 = .ok (.iconst 0, 1) := by decide +kernel
theorem dX3_init_43 : decode cX3_init 43 = .ok (.putfield 29, 3) := by decide +kernel
theorem dX3_init_46 : decode cX3_init 46 = .ok (.iconst 0, 1) := by decide +kernel
theorem dX3_init_47 : decode cX3_init 47 = .ok (.istore_n 1, 1) := by decide +kernel
theorem dX3_init_48 : decode cX3_init 48 = .ok (.iload_n 1, 1) := by decide +kernel
theorem dX3_init_49 : decode cX3_init 49 = .ok (.aload_n 0, 1) := by decide +kernel
theorem dX3_init_50 : decode cX3_init 50 = .ok (.getfield 21, 3) := by decide +kernel
theorem dX3_init_53 : decode cX3_init 53 = .ok (.arraylength, 1) := by decide +kernel
theorem dX3_init_54 : decode cX3_init 54 = .ok (.if_icmp .ge 22, 3) := by decide +kernel
theorem dX3_init_57 : decode cX3_init 57 = .ok (.aload_n 0, 1) := by decide +kernel
theorem dX3_init_58 : decode cX3_init 58 = .ok (.getfield 21, 3) := by decide +kernel
theorem dX3_init_61 : decode cX3_init 61 = .ok (.iload_n 1, 1) := by decide +kernel
theorem dX3_init_62 : decode cX3_init 62 = .ok (.new 19, 3) := by decide +kernel
theorem dX3_init_65 : decode cX3_init 65 = .ok (.dup, 1) := by decide +kernel
theorem dX3_init_66 : decode cX3_init 66 = .ok (.invokespecial 33, 3) := by decide +kernel
theorem dX3_init_69 : decode cX3_init 69 = .ok (.aastore, 1) := by decide +kernel
theorem dX3_init_70 : decode cX3_init 70 = .ok (.iinc 1 1, 3) := by decide +kernel
theorem dX3_init_73 : decode cX3_init 73 = .ok (.goto (-25), 3) := by decide +kernel
theorem dX3_init_76 : decode cX3_init 76 = .ok (.return_, 1) := by decide +kernel
set_option maxRecDepth 20000 in
theorem ggX3_fill_X3_isBox : GoodIn wsX3_fill wsX3_isBox := goodIn_r _ [6, 7, 8, 5, 9, 10, 11, 12, 13, 14, 15] (by decide +kernel) (by decide +kernel)
set_option maxRecDepth 20000 in
theorem gX3_fill_X3_isBox : GoodIn wsX3_fill (va_wsS RX3 34 yX3_isBox wsX3_isBox) := goodIn_app (goodIn_of _ (by decide +kernel)) ggX3_fill_X3_isBox
set_option maxRecDepth 20000 in
theorem ggX3_fill_X3_requireArgument : GoodIn wsX3_fill wsX3_requireArgument := goodIn_ca (goodIn_r _ [18, 19, 20] (by decide +kernel) (by decide +kernel)) (goodIn_sub (fun _ h => List.mem_cons_of_mem _ (List.mem_append_right _ h)) (by decide +kernel))
set_option maxRecDepth 20000 in
theorem gX3_fill_X3_requireArgument : GoodIn wsX3_fill (va_wsS RX3 38 yX3_requireArgument wsX3_requireArgument) := goodIn_app (goodIn_of _ (by decide +kernel)) ggX3_fill_X3_requireArgument
set_option maxRecDepth 20000 in
theorem ggX3_fill_X3_isIndex : GoodIn wsX3_fill wsX3_isIndex := goodIn_r _ [12] (by decide +kernel) (by decide +kernel)
set_option maxRecDepth 20000 in
theorem gX3_fill_X3_isIndex : GoodIn wsX3_fill (va_wsS RX3 42 yX3_isIndex wsX3_isIndex) := goodIn_app (goodIn_of _ (by decide +kernel)) ggX3_fill_X3_isIndex
set_option maxRecDepth 20000 in
theorem ggX3_fill_X2_become : GoodIn wsX3_fill wsX2_become := goodIn_r _ [25, 26, 76] (by decide +kernel) (by decide +kernel)
set_option maxRecDepth 20000 in
theorem gX3_fill_X2_become : GoodIn wsX3_fill (wsV RX3 46 RX2 yX2_become wsX2_become) := goodIn_app (goodIn_of _ (by decide +kernel)) ggX3_fill_X2_become
set_option maxRecDepth 20000 in
theorem ggX3_fill_X2_paint : GoodIn wsX3_fill wsX2_paint := goodIn_r _ [30, 26, 31, 32, 33, 34, 24, 35, 36, 37, 38, 76] (by decide +kernel) (by decide +kernel)
set_option maxRecDepth 20000 in
theorem gX3_fill_X2_paint : GoodIn wsX3_fill (wsV RX3 50 RX2 yX2_paint wsX2_paint) := goodIn_app (goodIn_of _ (by decide +kernel)) ggX3_fill_X2_paint
set_option maxRecDepth 20000 in
theorem ggX3_fill_X3_noteChanges : GoodIn wsX3_fill wsX3_noteChanges := goodIn_r _ [42, 1, 2, 43, 44, 45, 24, 46, 26, 47, 48, 5, 49, 50, 51, 52, 53, 54, 55, 56, 57, 58, 59, 60, 61, 62, 63, 64, 65, 66, 67, 68, 69, 70, 71, 72, 73, 74, 75, 76, 77, 78, 79, 80, 81, 82, 83, 84, 85] (by decide +kernel) (by decide +kernel)
set_option maxRecDepth 20000 in
theorem gX3_fill_X3_noteChanges : GoodIn wsX3_fill (wsV RX3 54 RX3 yX3_noteChanges wsX3_noteChanges) := goodIn_app (goodIn_of _ (by decide +kernel)) ggX3_fill_X3_noteChanges
theorem dX3_fill_0 : decode cX3_fill 0 = .ok (.iload_n 1, 1) := by decide +kernel
theorem dX3_fill_1 : decode cX3_fill 1 = .ok (.iload_n 2, 1) := by decide +kernel
theorem dX3_fill_2 : decode cX3_fill 2 = .ok (.iload_n 3, 1) := by decide +kernel
theorem dX3_fill_3 : decode cX3_fill 3 = .ok (.iload 4, 2) := by decide +kernel
theorem dX3_fill_5 : decode cX3_fill 5 = .ok (.invokestatic 34, 3) := by decide +kernel
theorem dX3_fill_8 : decode cX3_fill 8 = .ok (.invokestatic 38, 3) := by decide +kernel
theorem dX3_fill_11 : decode cX3_fill 11 = .ok (.iload 5, 2) := by decide +kernel
theorem dX3_fill_13 : decode cX3_fill 13 = .ok (.bipush 16, 2) := by decide +kernel
theorem dX3_fill_15 : decode cX3_fill 15 = .ok (.invokestatic 42, 3) := by decide +kernel
theorem dX3_fill_18 : decode cX3_fill 18 = .ok (.invokestatic 38, 3) := by decide +kernel
theorem dX3_fill_21 : decode cX3_fill 21 = .ok (.aload_n 0, 1) := by decide +kernel
theorem dX3_fill_22 : decode cX3_fill 22 = .ok (.getfield 16, 3) := by decide +kernel
theorem dX3_fill_25 : decode cX3_fill 25 = .ok (.aload_n 0, 1) := by decide +kernel
theorem dX3_fill_26 : decode cX3_fill 26 = .ok (.getfield 10, 3) := by decide +kernel
theorem dX3_fill_29 : decode cX3_fill 29 = .ok (.invokevirtual 46, 3) := by decide +kernel
theorem dX3_fill_32 : decode cX3_fill 32 = .ok (.iload_n 2, 1) := by decide +kernel
theorem dX3_fill_33 : decode cX3_fill 33 = .ok (.istore 6, 2) := by decide +kernel
theorem dX3_fill_35 : decode cX3_fill 35 = .ok (.iload 6, 2) := by decide +kernel
theorem dX3_fill_37 : decode cX3_fill 37 = .ok (.iload_n 2, 1) := by decide +kernel
theorem dX3_fill_38 : decode cX3_fill 38 = .ok (.iload 4, 2) := by decide +kernel
theorem dX3_fill_40 : decode cX3_fill 40 = .ok (.iadd, 1) := by decide +kernel
theorem dX3_fill_41 : decode cX3_fill 41 = .ok (.if_icmp .ge 39, 3) := by decide +kernel
theorem dX3_fill_44 : decode cX3_fill 44 = .ok (.iload_n 1, 1) := by decide +kernel
theorem dX3_fill_45 : decode cX3_fill 45 = .ok (.istore 7, 2) := by decide +kernel
theorem dX3_fill_47 : decode cX3_fill 47 = .ok (.iload 7, 2) := by decide +kernel
theorem dX3_fill_49 : decode cX3_fill 49 = .ok (.iload_n 1, 1) := by decide +kernel
theorem dX3_fill_50 : decode cX3_fill 50 = .ok (.iload_n 3, 1) := by decide +kernel
theorem dX3_fill_51 : decode cX3_fill 51 = .ok (.iadd, 1) := by decide +kernel
theorem dX3_fill_52 : decode cX3_fill 52 = .ok (.if_icmp .ge 22, 3) := by decide +kernel
theorem dX3_fill_55 : decode cX3_fill 55 = .ok (.aload_n 0, 1) := by decide +kernel
theorem dX3_fill_56 : decode cX3_fill 56 = .ok (.getfield 10, 3) := by decide +kernel
theorem dX3_fill_59 : decode cX3_fill 59 = .ok (.iload 7, 2) := by decide +kernel
theorem dX3_fill_61 : decode cX3_fill 61 = .ok (.iload 6, 2) := by decide +kernel
theorem dX3_fill_63 : decode cX3_fill 63 = .ok (.iload 5, 2) := by decide +kernel
theorem dX3_fill_65 : decode cX3_fill 65 = .ok (.invokevirtual 50, 3) := by decide +kernel
theorem dX3_fill_68 : decode cX3_fill 68 = .ok (.iinc 7 1, 3) := by decide +kernel
theorem dX3_fill_71 : decode cX3_fill 71 = .ok (.goto (-24), 3) := by decide +kernel
theorem dX3_fill_74 : decode cX3_fill 74 = .ok (.iinc 6 1, 3) := by decide +kernel
theorem dX3_fill_77 : decode cX3_fill 77 = .ok (.goto (-42), 3) := by decide +kernel
theorem dX3_fill_80 : decode cX3_fill 80 = .ok (.aload_n 0, 1) := by decide +kernel
theorem dX3_fill_81 : decode cX3_fill 81 = .ok (.invokevirtual 54, 3) := by decide +kernel
theorem dX3_fill_84 : decode cX3_fill 84 = .ok (.ireturn, 1) := by decide +kernel
set_option maxRecDepth 20000 in
theorem ggX3_copy_X3_isBox : GoodIn wsX3_copy wsX3_isBox := goodIn_r _ [6, 7, 8, 5, 9, 10, 11, 12, 13, 14, 15] (by decide +kernel) (by decide +kernel)
set_option maxRecDepth 20000 in
theorem gX3_copy_X3_isBox : GoodIn wsX3_copy (va_wsS RX3 34 yX3_isBox wsX3_isBox) := goodIn_app (goodIn_of _ (by decide +kernel)) ggX3_copy_X3_isBox
set_option maxRecDepth 20000 in
theorem ggX3_copy_X3_requireArgument : GoodIn wsX3_copy wsX3_requireArgument := goodIn_ca (goodIn_r _ [18, 19, 20] (by decide +kernel) (by decide +kernel)) (goodIn_sub (fun _ h => List.mem_cons_of_mem _ (List.mem_append_right _ h)) (by decide +kernel))
set_option maxRecDepth 20000 in
theorem gX3_copy_X3_requireArgument : GoodIn wsX3_copy (va_wsS RX3 38 yX3_requireArgument wsX3_requireArgument) := goodIn_app (goodIn_of _ (by decide +kernel)) ggX3_copy_X3_requireArgument
set_option maxRecDepth 20000 in
theorem ggX3_copy_X3_isBetween : GoodIn wsX3_copy wsX3_isBetween := goodIn_r _ [15] (by decide +kernel) (by decide +kernel)
set_option maxRecDepth 20000 in
theorem gX3_copy_X3_isBetween : GoodIn wsX3_copy (va_wsS RX3 58 yX3_isBetween wsX3_isBetween) := goodIn_app (goodIn_of _ (by decide +kernel)) ggX3_copy_X3_isBetween
set_option maxRecDepth 20000 in
theorem ggX3_copy_X2_become : GoodIn wsX3_copy wsX2_become := goodIn_r _ [25, 26, 80] (by decide +kernel) (by decide +kernel)
set_option maxRecDepth 20000 in
theorem gX3_copy_X2_become : GoodIn wsX3_copy (wsV RX3 46 RX2 yX2_become wsX2_become) := goodIn_app (goodIn_of _ (by decide +kernel)) ggX3_copy_X2_become
set_option maxRecDepth 20000 in
theorem ggX3_copy_X3_isCell : GoodIn wsX3_copy wsX3_isCell := goodIn_r _ [9, 10, 11, 5, 12] (by decide +kernel) (by decide +kernel)
set_option maxRecDepth 20000 in
theorem gX3_copy_X3_isCell : GoodIn wsX3_copy (va_wsS RX3 62 yX3_isCell wsX3_isCell) := goodIn_app (goodIn_of _ (by decide +kernel)) ggX3_copy_X3_isCell
set_option maxRecDepth 20000 in
theorem ggX3_copy_X2_colourAt : GoodIn wsX3_copy wsX2_colourAt := goodIn_r _ [30, 26, 31, 32, 24, 33, 34, 35, 36, 37, 5, 38, 39, 80] (by decide +kernel) (by decide +kernel)
set_option maxRecDepth 20000 in
theorem gX3_copy_X2_colourAt : GoodIn wsX3_copy (wsV RX3 65 RX2 yX2_colourAt wsX2_colourAt) := goodIn_app (goodIn_of _ (by decide +kernel)) ggX3_copy_X2_colourAt
set_option maxRecDepth 20000 in
theorem ggX3_copy_X2_paint : GoodIn wsX3_copy wsX2_paint := goodIn_r _ [43, 26, 44, 45, 31, 32, 24, 33, 34, 35, 36, 80] (by decide +kernel) (by decide +kernel)
set_option maxRecDepth 20000 in
theorem gX3_copy_X2_paint : GoodIn wsX3_copy (wsV RX3 50 RX2 yX2_paint wsX2_paint) := goodIn_app (goodIn_of _ (by decide +kernel)) ggX3_copy_X2_paint
set_option maxRecDepth 20000 in
theorem ggX3_copy_X3_noteChanges : GoodIn wsX3_copy wsX3_noteChanges := goodIn_r _ [49, 1, 2, 50, 51, 52, 24, 53, 26, 54, 55, 5, 56, 57, 37, 38, 39, 58, 59, 60, 61, 62, 63, 64, 65, 66, 67, 68, 69, 70, 71, 72, 73, 74, 75, 76, 77, 78, 79, 80, 81, 82, 83, 84, 85, 86, 87, 88, 89] (by decide +kernel) (by decide +kernel)
set_option maxRecDepth 20000 in
theorem gX3_copy_X3_noteChanges : GoodIn wsX3_copy (wsV RX3 54 RX3 yX3_noteChanges wsX3_noteChanges) := goodIn_app (goodIn_of _ (by decide +kernel)) ggX3_copy_X3_noteChanges
theorem dX3_copy_0 : decode cX3_copy 0 = .ok (.iload_n 1, 1) := by decide +kernel
theorem dX3_copy_1 : decode cX3_copy 1 = .ok (.iload_n 2, 1) := by decide +kernel
theorem dX3_copy_2 : decode cX3_copy 2 = .ok (.iload_n 3, 1) := by decide +kernel
theorem dX3_copy_3 : decode cX3_copy 3 = .ok (.iload 4, 2) := by decide +kernel
theorem dX3_copy_5 : decode cX3_copy 5 = .ok (.invokestatic 34, 3) := by decide +kernel
theorem dX3_copy_8 : decode cX3_copy 8 = .ok (.invokestatic 38, 3) := by decide +kernel
theorem dX3_copy_11 : decode cX3_copy 11 = .ok (.iload 5, 2) := by decide +kernel
theorem dX3_copy_13 : decode cX3_copy 13 = .ok (.bipush (-15), 2) := by decide +kernel
theorem dX3_copy_15 : decode cX3_copy 15 = .ok (.bipush 15, 2) := by decide +kernel
theorem dX3_copy_17 : decode cX3_copy 17 = .ok (.invokestatic 58, 3) := by decide +kernel
theorem dX3_copy_20 : decode cX3_copy 20 = .ok (.invokestatic 38, 3) := by decide +kernel
theorem dX3_copy_23 : decode cX3_copy 23 = .ok (.iload 6, 2) := by decide +kernel
theorem dX3_copy_25 : decode cX3_copy 25 = .ok (.bipush (-11), 2) := by decide +kernel
theorem dX3_copy_27 : decode cX3_copy 27 = .ok (.bipush 11, 2) := by decide +kernel
theorem dX3_copy_29 : decode cX3_copy 29 = .ok (.invokestatic 58, 3) := by decide +kernel
theorem dX3_copy_32 : decode cX3_copy 32 = .ok (.invokestatic 38, 3) := by decide +kernel
theorem dX3_copy_35 : decode cX3_copy 35 = .ok (.aload_n 0, 1) := by decide +kernel
theorem dX3_copy_36 : decode cX3_copy 36 = .ok (.getfield 16, 3) := by decide +kernel
theorem dX3_copy_39 : decode cX3_copy 39 = .ok (.aload_n 0, 1) := by decide +kernel
theorem dX3_copy_40 : decode cX3_copy 40 = .ok (.getfield 10, 3) := by decide +kernel
theorem dX3_copy_43 : decode cX3_copy 43 = .ok (.invokevirtual 46, 3) := by decide +kernel
theorem dX3_copy_46 : decode cX3_copy 46 = .ok (.iload_n 2, 1) := by decide +kernel
theorem dX3_copy_47 : decode cX3_copy 47 = .ok (.istore 7, 2) := by decide +kernel
theorem dX3_copy_49 : decode cX3_copy 49 = .ok (.iload 7, 2) := by decide +kernel
theorem dX3_copy_51 : decode cX3_copy 51 = .ok (.iload_n 2, 1) := by decide +kernel
theorem dX3_copy_52 : decode cX3_copy 52 = .ok (.iload 4, 2) := by decide +kernel
theorem dX3_copy_54 : decode cX3_copy 54 = .ok (.iadd, 1) := by decide +kernel
theorem dX3_copy_55 : decode cX3_copy 55 = .ok (.if_icmp .ge 70, 3) := by decide +kernel
theorem dX3_copy_58 : decode cX3_copy 58 = .ok (.iload_n 1, 1) := by decide +kernel
theorem dX3_copy_59 : decode cX3_copy 59 = .ok (.istore 8, 2) := by decide +kernel
theorem dX3_copy_61 : decode cX3_copy 61 = .ok (.iload 8, 2) := by decide +kernel
theorem dX3_copy_63 : decode cX3_copy 63 = .ok (.iload_n 1, 1) := by decide +kernel
theorem dX3_copy_64 : decode cX3_copy 64 = .ok (.iload_n 3, 1) := by decide +kernel
theorem dX3_copy_65 : decode cX3_copy 65 = .ok (.iadd, 1) := by decide +kernel
theorem dX3_copy_66 : decode cX3_copy 66 = .ok (.if_icmp .ge 53, 3) := by decide +kernel
theorem dX3_copy_69 : decode cX3_copy 69 = .ok (.iload 8, 2) := by decide +kernel
theorem dX3_copy_71 : decode cX3_copy 71 = .ok (.iload 5, 2) := by decide +kernel
theorem dX3_copy_73 : decode cX3_copy 73 = .ok (.iadd, 1) := by decide +kernel
theorem dX3_copy_74 : decode cX3_copy 74 = .ok (.iload 7, 2) := by decide +kernel
theorem dX3_copy_76 : decode cX3_copy 76 = .ok (.iload 6, 2) := by decide +kernel
theorem dX3_copy_78 : decode cX3_copy 78 = .ok (.iadd, 1) := by decide +kernel
theorem dX3_copy_79 : decode cX3_copy 79 = .ok (.invokestatic 62, 3) := by decide +kernel
theorem dX3_copy_82 : decode cX3_copy 82 = .ok (.ifCond .eq 31, 3) := by decide +kernel
theorem dX3_copy_85 : decode cX3_copy 85 = .ok (.aload_n 0, 1) := by decide +kernel
theorem dX3_copy_86 : decode cX3_copy 86 = .ok (.getfield 10, 3) := by decide +kernel
theorem dX3_copy_89 : decode cX3_copy 89 = .ok (.iload 8, 2) := by decide +kernel
theorem dX3_copy_91 : decode cX3_copy 91 = .ok (.iload 5, 2) := by decide +kernel
theorem dX3_copy_93 : decode cX3_copy 93 = .ok (.iadd, 1) := by decide +kernel
theorem dX3_copy_94 : decode cX3_copy 94 = .ok (.iload 7, 2) := by decide +kernel
theorem dX3_copy_96 : decode cX3_copy 96 = .ok (.iload 6, 2) := by decide +kernel
theorem dX3_copy_98 : decode cX3_copy 98 = .ok (.iadd, 1) := by decide +kernel
theorem dX3_copy_99 : decode cX3_copy 99 = .ok (.aload_n 0, 1) := by decide +kernel
theorem dX3_copy_100 : decode cX3_copy 100 = .ok (.getfield 16, 3) := by decide +kernel
theorem dX3_copy_103 : decode cX3_copy 103 = .ok (.iload 8, 2) := by decide +kernel
theorem dX3_copy_105 : decode cX3_copy 105 = .ok (.iload 7, 2) := by decide +kernel
theorem dX3_copy_107 : decode cX3_copy 107 = .ok (.invokevirtual 65, 3) := by decide +kernel
theorem dX3_copy_110 : decode cX3_copy 110 = .ok (.invokevirtual 50, 3) := by decide +kernel
theorem dX3_copy_113 : decode cX3_copy 113 = .ok (.iinc 8 1, 3) := by decide +kernel
theorem dX3_copy_116 : decode cX3_copy 116 = .ok (.goto (-55), 3) := by decide +kernel
theorem dX3_copy_119 : decode cX3_copy 119 = .ok (.iinc 7 1, 3) := by decide +kernel
theorem dX3_copy_122 : decode cX3_copy 122 = .ok (.goto (-73), 3) := by decide +kernel
theorem dX3_copy_125 : decode cX3_copy 125 = .ok (.aload_n 0, 1) := by decide +kernel
theorem dX3_copy_126 : decode cX3_copy 126 = .ok (.invokevirtual 54, 3) := by decide +kernel
theorem dX3_copy_129 : decode cX3_copy 129 = .ok (.ireturn, 1) := by decide +kernel
set_option maxRecDepth 20000 in
theorem ggX3_colours_X3_isIndex : GoodIn wsX3_colours wsX3_isIndex := goodIn_r _ [5] (by decide +kernel) (by decide +kernel)
set_option maxRecDepth 20000 in
theorem gX3_colours_X3_isIndex : GoodIn wsX3_colours (va_wsS RX3 42 yX3_isIndex wsX3_isIndex) := goodIn_app (goodIn_of _ (by decide +kernel)) ggX3_colours_X3_isIndex
set_option maxRecDepth 20000 in
theorem ggX3_colours_X3_requireArgument : GoodIn wsX3_colours wsX3_requireArgument := goodIn_ca (goodIn_r _ [8, 9, 10] (by decide +kernel) (by decide +kernel)) (goodIn_sub (fun _ h => List.mem_cons_of_mem _ (List.mem_append_right _ h)) (by decide +kernel))
set_option maxRecDepth 20000 in
theorem gX3_colours_X3_requireArgument : GoodIn wsX3_colours (va_wsS RX3 38 yX3_requireArgument wsX3_requireArgument) := goodIn_app (goodIn_of _ (by decide +kernel)) ggX3_colours_X3_requireArgument
set_option maxRecDepth 20000 in
theorem ggX3_colours_X2_cellsOf : GoodIn wsX3_colours wsX2_cellsOf := goodIn_r _ [15, 16, 36] (by decide +kernel) (by decide +kernel)
set_option maxRecDepth 20000 in
theorem gX3_colours_X2_cellsOf : GoodIn wsX3_colours (wsV RX3 69 RX2 yX2_cellsOf wsX2_cellsOf) := goodIn_app (goodIn_of _ (by decide +kernel)) ggX3_colours_X2_cellsOf
set_option maxRecDepth 20000 in
theorem ggX3_colours_X3_countColours : GoodIn wsX3_colours wsX3_countColours := goodIn_r _ [19, 20, 21, 4, 22, 23, 24, 25, 26, 27, 28, 29, 30] (by decide +kernel) (by decide +kernel)
set_option maxRecDepth 20000 in
theorem gX3_colours_X3_countColours : GoodIn wsX3_colours (va_wsS RX3 73 yX3_countColours wsX3_countColours) := goodIn_app (goodIn_of _ (by decide +kernel)) ggX3_colours_X3_countColours
theorem dX3_colours_0 : decode cX3_colours 0 = .ok (.iload_n 1, 1) := by decide +kernel
theorem dX3_colours_1 : decode cX3_colours 1 = .ok (.bipush 12, 2) := by decide +kernel
theorem dX3_colours_3 : decode cX3_colours 3 = .ok (.invokestatic 42, 3) := by decide +kernel
theorem dX3_colours_6 : decode cX3_colours 6 = .ok (.invokestatic 38, 3) := by decide +kernel
theorem dX3_colours_9 : decode cX3_colours 9 = .ok (.aload_n 0, 1) := by decide +kernel
theorem dX3_colours_10 : decode cX3_colours 10 = .ok (.getfield 10, 3) := by decide +kernel
theorem dX3_colours_13 : decode cX3_colours 13 = .ok (.iload_n 1, 1) := by decide +kernel
theorem dX3_colours_14 : decode cX3_colours 14 = .ok (.invokevirtual 69, 3) := by decide +kernel
theorem dX3_colours_17 : decode cX3_colours 17 = .ok (.invokestatic 73, 3) := by decide +kernel
theorem dX3_colours_20 : decode cX3_colours 20 = .ok (.ireturn, 1) := by decide +kernel
set_option maxRecDepth 20000 in
theorem ggX3_runs_X3_isIndex : GoodIn wsX3_runs wsX3_isIndex := goodIn_r _ [5] (by decide +kernel) (by decide +kernel)
set_option maxRecDepth 20000 in
theorem gX3_runs_X3_isIndex : GoodIn wsX3_runs (va_wsS RX3 42 yX3_isIndex wsX3_isIndex) := goodIn_app (goodIn_of _ (by decide +kernel)) ggX3_runs_X3_isIndex
set_option maxRecDepth 20000 in
theorem ggX3_runs_X3_requireArgument : GoodIn wsX3_runs wsX3_requireArgument := goodIn_ca (goodIn_r _ [8, 9, 10] (by decide +kernel) (by decide +kernel)) (goodIn_sub (fun _ h => List.mem_cons_of_mem _ (List.mem_append_right _ h)) (by decide +kernel))
set_option maxRecDepth 20000 in
theorem gX3_runs_X3_requireArgument : GoodIn wsX3_runs (va_wsS RX3 38 yX3_requireArgument wsX3_requireArgument) := goodIn_app (goodIn_of _ (by decide +kernel)) ggX3_runs_X3_requireArgument
set_option maxRecDepth 20000 in
theorem ggX3_runs_X2_cellsOf : GoodIn wsX3_runs wsX2_cellsOf := goodIn_r _ [15, 16, 29] (by decide +kernel) (by decide +kernel)
set_option maxRecDepth 20000 in
theorem gX3_runs_X2_cellsOf : GoodIn wsX3_runs (wsV RX3 69 RX2 yX2_cellsOf wsX2_cellsOf) := goodIn_app (goodIn_of _ (by decide +kernel)) ggX3_runs_X2_cellsOf
set_option maxRecDepth 20000 in
theorem ggX3_runs_X3_countRuns : GoodIn wsX3_runs wsX3_countRuns := goodIn_r _ [19, 20, 21, 4, 22, 23] (by decide +kernel) (by decide +kernel)
set_option maxRecDepth 20000 in
theorem gX3_runs_X3_countRuns : GoodIn wsX3_runs (va_wsS RX3 77 yX3_countRuns wsX3_countRuns) := goodIn_app (goodIn_of _ (by decide +kernel)) ggX3_runs_X3_countRuns
theorem dX3_runs_0 : decode cX3_runs 0 = .ok (.iload_n 1, 1) := by decide +kernel
theorem dX3_runs_1 : decode cX3_runs 1 = .ok (.bipush 12, 2) := by decide +kernel
theorem dX3_runs_3 : decode cX3_runs 3 = .ok (.invokestatic 42, 3) := by decide +kernel
theorem dX3_runs_6 : decode cX3_runs 6 = .ok (.invokestatic 38, 3) := by decide +kernel
theorem dX3_runs_9 : decode cX3_runs 9 = .ok (.aload_n 0, 1) := by decide +kernel
theorem dX3_runs_10 : decode cX3_runs 10 = .ok (.getfield 10, 3) := by decide +kernel
theorem dX3_runs_13 : decode cX3_runs 13 = .ok (.iload_n 1, 1) := by decide +kernel
theorem dX3_runs_14 : decode cX3_runs 14 = .ok (.invokevirtual 69, 3) := by decide +kernel
theorem dX3_runs_17 : decode cX3_runs 17 = .ok (.invokestatic 77, 3) := by decide +kernel
theorem dX3_runs_20 : decode cX3_runs 20 = .ok (.ireturn, 1) := by decide +kernel
set_option maxRecDepth 20000 in
theorem ggX3_way_X3_isIndex : GoodIn wsX3_way wsX3_isIndex := goodIn_r _ [6] (by decide +kernel) (by decide +kernel)
set_option maxRecDepth 20000 in
theorem gX3_way_X3_isIndex : GoodIn wsX3_way (va_wsS RX3 42 yX3_isIndex wsX3_isIndex) := goodIn_app (goodIn_of _ (by decide +kernel)) ggX3_way_X3_isIndex
set_option maxRecDepth 20000 in
theorem ggX3_way_X3_requireArgument : GoodIn wsX3_way wsX3_requireArgument := goodIn_ca (goodIn_r _ [9, 10, 11] (by decide +kernel) (by decide +kernel)) (goodIn_sub (fun _ h => List.mem_cons_of_mem _ (List.mem_append_left _ (List.mem_append_right _ h))) (by decide +kernel))
set_option maxRecDepth 20000 in
theorem gX3_way_X3_requireArgument : GoodIn wsX3_way (va_wsS RX3 38 yX3_requireArgument wsX3_requireArgument) := goodIn_app (goodIn_of _ (by decide +kernel)) ggX3_way_X3_requireArgument
set_option maxRecDepth 20000 in
theorem ggX3_way_X1_hasJoined : GoodIn wsX3_way wsX1_hasJoined := goodIn_r _ [16, 17, 76, 77, 78, 79, 80, 81, 82, 83, 84] (by decide +kernel) (by decide +kernel)
set_option maxRecDepth 20000 in
theorem gX3_way_X1_hasJoined : GoodIn wsX3_way (wsV RX3 80 RX1 yX1_hasJoined wsX1_hasJoined) := goodIn_app (goodIn_of _ (by decide +kernel)) ggX3_way_X1_hasJoined
set_option maxRecDepth 20000 in
theorem ggX3_way_X3_requireState : GoodIn wsX3_way wsX3_requireState := goodIn_ca (goodIn_r _ [20, 21, 22] (by decide +kernel) (by decide +kernel)) (goodIn_sub (fun _ h => List.mem_cons_of_mem _ (List.mem_append_right _ h)) (by decide +kernel))
set_option maxRecDepth 20000 in
theorem gX3_way_X3_requireState : GoodIn wsX3_way (va_wsS RX3 84 yX3_requireState wsX3_requireState) := goodIn_app (goodIn_of _ (by decide +kernel)) ggX3_way_X3_requireState
set_option maxRecDepth 20000 in
theorem ggX3_way_X2_cellsOf : GoodIn wsX3_way wsX2_cellsOf := goodIn_r _ [27, 28, 85] (by decide +kernel) (by decide +kernel)
set_option maxRecDepth 20000 in
theorem gX3_way_X2_cellsOf : GoodIn wsX3_way (wsV RX3 69 RX2 yX2_cellsOf wsX2_cellsOf) := goodIn_app (goodIn_of _ (by decide +kernel)) ggX3_way_X2_cellsOf
set_option maxRecDepth 20000 in
theorem ggX3_way_X1_serverCache : GoodIn wsX3_way wsX1_serverCache := goodIn_r _ [32, 33, 76, 77, 78, 79, 80, 81, 82, 83, 84] (by decide +kernel) (by decide +kernel)
set_option maxRecDepth 20000 in
theorem gX3_way_X1_serverCache : GoodIn wsX3_way (wsV RX3 87 RX1 yX1_serverCache wsX1_serverCache) := goodIn_app (goodIn_of _ (by decide +kernel)) ggX3_way_X1_serverCache
set_option maxRecDepth 20000 in
theorem ggX3_way_X3_cheapestWriting : GoodIn wsX3_way wsX3_cheapestWriting := goodIn_r _ [36, 37, 38, 5, 39, 40, 41, 42, 43, 44, 45, 46, 47, 48, 49, 50, 51, 52, 53, 54, 55, 56, 57, 58, 59, 60, 61, 62, 63, 64, 65, 66, 67, 68, 69, 70, 86, 87] (by decide +kernel) (by decide +kernel)
set_option maxRecDepth 20000 in
theorem gX3_way_X3_cheapestWriting : GoodIn wsX3_way (va_wsS RX3 91 yX3_cheapestWriting wsX3_cheapestWriting) := goodIn_app (goodIn_of _ (by decide +kernel)) ggX3_way_X3_cheapestWriting
theorem dX3_way_0 : decode cX3_way 0 = .ok (.iload_n 1, 1) := by decide +kernel
theorem dX3_way_1 : decode cX3_way 1 = .ok (.iconst 2, 1) := by decide +kernel
theorem dX3_way_2 : decode cX3_way 2 = .ok (.invokestatic 42, 3) := by decide +kernel
theorem dX3_way_5 : decode cX3_way 5 = .ok (.invokestatic 38, 3) := by decide +kernel
theorem dX3_way_8 : decode cX3_way 8 = .ok (.iload_n 2, 1) := by decide +kernel
theorem dX3_way_9 : decode cX3_way 9 = .ok (.bipush 12, 2) := by decide +kernel
theorem dX3_way_11 : decode cX3_way 11 = .ok (.invokestatic 42, 3) := by decide +kernel
theorem dX3_way_14 : decode cX3_way 14 = .ok (.invokestatic 38, 3) := by decide +kernel
theorem dX3_way_17 : decode cX3_way 17 = .ok (.aload_n 0, 1) := by decide +kernel
theorem dX3_way_18 : decode cX3_way 18 = .ok (.getfield 21, 3) := by decide +kernel
theorem dX3_way_21 : decode cX3_way 21 = .ok (.iload_n 1, 1) := by decide +kernel
theorem dX3_way_22 : decode cX3_way 22 = .ok (.aaload, 1) := by decide +kernel
theorem dX3_way_23 : decode cX3_way 23 = .ok (.invokevirtual 80, 3) := by decide +kernel
theorem dX3_way_26 : decode cX3_way 26 = .ok (.invokestatic 84, 3) := by decide +kernel
theorem dX3_way_29 : decode cX3_way 29 = .ok (.aload_n 0, 1) := by decide +kernel
theorem dX3_way_30 : decode cX3_way 30 = .ok (.getfield 10, 3) := by decide +kernel
theorem dX3_way_33 : decode cX3_way 33 = .ok (.iload_n 2, 1) := by decide +kernel
theorem dX3_way_34 : decode cX3_way 34 = .ok (.invokevirtual 69, 3) := by decide +kernel
theorem dX3_way_37 : decode cX3_way 37 = .ok (.aload_n 0, 1) := by decide +kernel
theorem dX3_way_38 : decode cX3_way 38 = .ok (.getfield 21, 3) := by decide +kernel
theorem dX3_way_41 : decode cX3_way 41 = .ok (.iload_n 1, 1) := by decide +kernel
theorem dX3_way_42 : decode cX3_way 42 = .ok (.aaload, 1) := by decide +kernel
theorem dX3_way_43 : decode cX3_way 43 = .ok (.invokevirtual 87, 3) := by decide +kernel
theorem dX3_way_46 : decode cX3_way 46 = .ok (.invokestatic 91, 3) := by decide +kernel
theorem dX3_way_49 : decode cX3_way 49 = .ok (.ireturn, 1) := by decide +kernel
set_option maxRecDepth 20000 in
theorem ggX3_join_X3_isIndex : GoodIn wsX3_join wsX3_isIndex := goodIn_r _ [5] (by decide +kernel) (by decide +kernel)
set_option maxRecDepth 20000 in
theorem gX3_join_X3_isIndex : GoodIn wsX3_join (va_wsS RX3 42 yX3_isIndex wsX3_isIndex) := goodIn_app (goodIn_of _ (by decide +kernel)) ggX3_join_X3_isIndex
set_option maxRecDepth 20000 in
theorem ggX3_join_X3_requireArgument : GoodIn wsX3_join wsX3_requireArgument := goodIn_ca (goodIn_r _ [8, 9, 10] (by decide +kernel) (by decide +kernel)) (goodIn_sub (fun _ h => List.mem_cons_of_mem _ (List.mem_append_right _ h)) (by decide +kernel))
set_option maxRecDepth 20000 in
theorem gX3_join_X3_requireArgument : GoodIn wsX3_join (va_wsS RX3 38 yX3_requireArgument wsX3_requireArgument) := goodIn_app (goodIn_of _ (by decide +kernel)) ggX3_join_X3_requireArgument
set_option maxRecDepth 20000 in
theorem ggX3_join_X1_beginAnew : GoodIn wsX3_join wsX1_beginAnew := goodIn_r _ [15, 16, 17, 18, 19, 20, 21, 22, 23, 24, 25, 26, 27, 28, 29, 30, 31, 32, 33, 34, 44, 45, 46, 47, 48, 49, 50, 51, 52, 53, 54, 55] (by decide +kernel) (by decide +kernel)
set_option maxRecDepth 20000 in
theorem gX3_join_X1_beginAnew : GoodIn wsX3_join (wsV RX3 95 RX1 yX1_beginAnew wsX1_beginAnew) := goodIn_app (goodIn_of _ (by decide +kernel)) ggX3_join_X1_beginAnew
set_option maxRecDepth 20000 in
theorem ggX3_join_X1_dirtyCount : GoodIn wsX3_join wsX1_dirtyCount := goodIn_r _ [38, 22, 44, 45, 46, 47, 48, 49, 50, 51, 52] (by decide +kernel) (by decide +kernel)
set_option maxRecDepth 20000 in
theorem gX3_join_X1_dirtyCount : GoodIn wsX3_join (wsV RX3 98 RX1 yX1_dirtyCount wsX1_dirtyCount) := goodIn_app (goodIn_of _ (by decide +kernel)) ggX3_join_X1_dirtyCount
theorem dX3_join_0 : decode cX3_join 0 = .ok (.iload_n 1, 1) := by decide +kernel
theorem dX3_join_1 : decode cX3_join 1 = .ok (.iconst 2, 1) := by decide +kernel
theorem dX3_join_2 : decode cX3_join 2 = .ok (.invokestatic 42, 3) := by decide +kernel
theorem dX3_join_5 : decode cX3_join 5 = .ok (.invokestatic 38, 3) := by decide +kernel
theorem dX3_join_8 : decode cX3_join 8 = .ok (.aload_n 0, 1) := by decide +kernel
theorem dX3_join_9 : decode cX3_join 9 = .ok (.getfield 21, 3) := by decide +kernel
theorem dX3_join_12 : decode cX3_join 12 = .ok (.iload_n 1, 1) := by decide +kernel
theorem dX3_join_13 : decode cX3_join 13 = .ok (.aaload, 1) := by decide +kernel
theorem dX3_join_14 : decode cX3_join 14 = .ok (.invokevirtual 95, 3) := by decide +kernel
theorem dX3_join_17 : decode cX3_join 17 = .ok (.aload_n 0, 1) := by decide +kernel
theorem dX3_join_18 : decode cX3_join 18 = .ok (.getfield 21, 3) := by decide +kernel
theorem dX3_join_21 : decode cX3_join 21 = .ok (.iload_n 1, 1) := by decide +kernel
theorem dX3_join_22 : decode cX3_join 22 = .ok (.aaload, 1) := by decide +kernel
theorem dX3_join_23 : decode cX3_join 23 = .ok (.invokevirtual 98, 3) := by decide +kernel
theorem dX3_join_26 : decode cX3_join 26 = .ok (.ireturn, 1) := by decide +kernel
set_option maxRecDepth 20000 in
theorem ggX3_ask_X3_isIndex : GoodIn wsX3_ask wsX3_isIndex := goodIn_r _ [5] (by decide +kernel) (by decide +kernel)
set_option maxRecDepth 20000 in
theorem gX3_ask_X3_isIndex : GoodIn wsX3_ask (va_wsS RX3 42 yX3_isIndex wsX3_isIndex) := goodIn_app (goodIn_of _ (by decide +kernel)) ggX3_ask_X3_isIndex
set_option maxRecDepth 20000 in
theorem ggX3_ask_X3_requireArgument : GoodIn wsX3_ask wsX3_requireArgument := goodIn_ca (goodIn_r _ [8, 9, 10] (by decide +kernel) (by decide +kernel)) (goodIn_sub (fun _ h => List.mem_cons_of_mem _ (List.mem_append_left _ (List.mem_append_right _ h))) (by decide +kernel))
set_option maxRecDepth 20000 in
theorem gX3_ask_X3_requireArgument : GoodIn wsX3_ask (va_wsS RX3 38 yX3_requireArgument wsX3_requireArgument) := goodIn_app (goodIn_of _ (by decide +kernel)) ggX3_ask_X3_requireArgument
set_option maxRecDepth 20000 in
theorem ggX3_ask_X3_isBetween : GoodIn wsX3_ask wsX3_isBetween := goodIn_r _ [13] (by decide +kernel) (by decide +kernel)
set_option maxRecDepth 20000 in
theorem gX3_ask_X3_isBetween : GoodIn wsX3_ask (va_wsS RX3 58 yX3_isBetween wsX3_isBetween) := goodIn_app (goodIn_of _ (by decide +kernel)) ggX3_ask_X3_isBetween
set_option maxRecDepth 20000 in
theorem ggX3_ask_X1_hasJoined : GoodIn wsX3_ask wsX1_hasJoined := goodIn_r _ [18, 19, 122, 123, 124, 125, 126, 127, 128, 129, 130] (by decide +kernel) (by decide +kernel)
set_option maxRecDepth 20000 in
theorem gX3_ask_X1_hasJoined : GoodIn wsX3_ask (wsV RX3 80 RX1 yX1_hasJoined wsX1_hasJoined) := goodIn_app (goodIn_of _ (by decide +kernel)) ggX3_ask_X1_hasJoined
set_option maxRecDepth 20000 in
theorem ggX3_ask_X3_requireState : GoodIn wsX3_ask wsX3_requireState := goodIn_ca (goodIn_r _ [22, 23, 24] (by decide +kernel) (by decide +kernel)) (goodIn_sub (fun _ h => List.mem_cons_of_mem _ (List.mem_append_right _ h)) (by decide +kernel))
set_option maxRecDepth 20000 in
theorem gX3_ask_X3_requireState : GoodIn wsX3_ask (va_wsS RX3 84 yX3_requireState wsX3_requireState) := goodIn_app (goodIn_of _ (by decide +kernel)) ggX3_ask_X3_requireState
set_option maxRecDepth 20000 in
theorem ggX3_ask_X1_hasMessage : GoodIn wsX3_ask wsX1_hasMessage := goodIn_r _ [28, 29, 122, 123, 124, 125, 126, 127, 128, 129, 130] (by decide +kernel) (by decide +kernel)
set_option maxRecDepth 20000 in
theorem gX3_ask_X1_hasMessage : GoodIn wsX3_ask (wsV RX3 101 RX1 yX1_hasMessage wsX1_hasMessage) := goodIn_app (goodIn_of _ (by decide +kernel)) ggX3_ask_X1_hasMessage
set_option maxRecDepth 20000 in
theorem ggX3_ask_X3_writeMessage : GoodIn wsX3_ask wsX3_writeMessage := goodIn_r _ [33, 34, 35, 36, 37, 38, 39, 17, 40, 41, 42, 43, 44, 45, 46, 47, 48, 49, 50, 51, 52, 53, 54, 55, 56, 57, 58, 59, 4, 60, 61, 62, 63, 64, 65, 66, 67, 68, 69, 70, 71, 72, 73, 74, 75, 76, 77, 78, 79, 80, 81, 82, 83, 84, 85, 86, 87, 88, 89, 90, 91, 92, 93, 94, 95, 96, 97, 98, 29, 99, 100, 101, 102, 103, 104, 105, 106, 107, 108, 109, 110, 111, 112, 117, 118, 119, 120, 121, 122, 123, 124, 125, 126, 127, 128, 129, 130, 131, 132, 133] (by decide +kernel) (by decide +kernel)
set_option maxRecDepth 20000 in
theorem gX3_ask_X3_writeMessage : GoodIn wsX3_ask (wsV RX3 104 RX3 yX3_writeMessage wsX3_writeMessage) := goodIn_app (goodIn_of _ (by decide +kernel)) ggX3_ask_X3_writeMessage
set_option maxRecDepth 20000 in
theorem ggX3_ask_X1_messageCount : GoodIn wsX3_ask wsX1_messageCount := goodIn_r _ [116, 29, 122, 123, 124, 125, 126, 127, 128, 129, 130] (by decide +kernel) (by decide +kernel)
set_option maxRecDepth 20000 in
theorem gX3_ask_X1_messageCount : GoodIn wsX3_ask (wsV RX3 108 RX1 yX1_messageCount wsX1_messageCount) := goodIn_app (goodIn_of _ (by decide +kernel)) ggX3_ask_X1_messageCount
theorem dX3_ask_0 : decode cX3_ask 0 = .ok (.iload_n 1, 1) := by decide +kernel
theorem dX3_ask_1 : decode cX3_ask 1 = .ok (.iconst 2, 1) := by decide +kernel
theorem dX3_ask_2 : decode cX3_ask 2 = .ok (.invokestatic 42, 3) := by decide +kernel
theorem dX3_ask_5 : decode cX3_ask 5 = .ok (.invokestatic 38, 3) := by decide +kernel
theorem dX3_ask_8 : decode cX3_ask 8 = .ok (.iload_n 2, 1) := by decide +kernel
theorem dX3_ask_9 : decode cX3_ask 9 = .ok (.iconst 0, 1) := by decide +kernel
theorem dX3_ask_10 : decode cX3_ask 10 = .ok (.sipush 300, 3) := by decide +kernel
theorem dX3_ask_13 : decode cX3_ask 13 = .ok (.invokestatic 58, 3) := by decide +kernel
theorem dX3_ask_16 : decode cX3_ask 16 = .ok (.invokestatic 38, 3) := by decide +kernel
theorem dX3_ask_19 : decode cX3_ask 19 = .ok (.aload_n 0, 1) := by decide +kernel
theorem dX3_ask_20 : decode cX3_ask 20 = .ok (.getfield 21, 3) := by decide +kernel
theorem dX3_ask_23 : decode cX3_ask 23 = .ok (.iload_n 1, 1) := by decide +kernel
theorem dX3_ask_24 : decode cX3_ask 24 = .ok (.aaload, 1) := by decide +kernel
theorem dX3_ask_25 : decode cX3_ask 25 = .ok (.invokevirtual 80, 3) := by decide +kernel
theorem dX3_ask_28 : decode cX3_ask 28 = .ok (.invokestatic 84, 3) := by decide +kernel
theorem dX3_ask_31 : decode cX3_ask 31 = .ok (.aload_n 0, 1) := by decide +kernel
theorem dX3_ask_32 : decode cX3_ask 32 = .ok (.getfield 21, 3) := by decide +kernel
theorem dX3_ask_35 : decode cX3_ask 35 = .ok (.iload_n 1, 1) := by decide +kernel
theorem dX3_ask_36 : decode cX3_ask 36 = .ok (.aaload, 1) := by decide +kernel
theorem dX3_ask_37 : decode cX3_ask 37 = .ok (.invokevirtual 101, 3) := by decide +kernel
theorem dX3_ask_40 : decode cX3_ask 40 = .ok (.ifCond .ne 7, 3) := by decide +kernel
theorem dX3_ask_43 : decode cX3_ask 43 = .ok (.iconst 1, 1) := by decide +kernel
theorem dX3_ask_44 : decode cX3_ask 44 = .ok (.goto 4, 3) := by decide +kernel
theorem dX3_ask_47 : decode cX3_ask 47 = .ok (.iconst 0, 1) := by decide +kernel
theorem dX3_ask_48 : decode cX3_ask 48 = .ok (.invokestatic 84, 3) := by decide +kernel
theorem dX3_ask_51 : decode cX3_ask 51 = .ok (.aload_n 0, 1) := by decide +kernel
theorem dX3_ask_52 : decode cX3_ask 52 = .ok (.aload_n 0, 1) := by decide +kernel
theorem dX3_ask_53 : decode cX3_ask 53 = .ok (.getfield 21, 3) := by decide +kernel
theorem dX3_ask_56 : decode cX3_ask 56 = .ok (.iload_n 1, 1) := by decide +kernel
theorem dX3_ask_57 : decode cX3_ask 57 = .ok (.aaload, 1) := by decide +kernel
theorem dX3_ask_58 : decode cX3_ask 58 = .ok (.iload_n 2, 1) := by decide +kernel
theorem dX3_ask_59 : decode cX3_ask 59 = .ok (.invokevirtual 104, 3) := by decide +kernel
theorem dX3_ask_62 : decode cX3_ask 62 = .ok (.aload_n 0, 1) := by decide +kernel
theorem dX3_ask_63 : decode cX3_ask 63 = .ok (.getfield 21, 3) := by decide +kernel
theorem dX3_ask_66 : decode cX3_ask 66 = .ok (.iload_n 1, 1) := by decide +kernel
theorem dX3_ask_67 : decode cX3_ask 67 = .ok (.aaload, 1) := by decide +kernel
theorem dX3_ask_68 : decode cX3_ask 68 = .ok (.invokevirtual 108, 3) := by decide +kernel
theorem dX3_ask_71 : decode cX3_ask 71 = .ok (.ireturn, 1) := by decide +kernel
set_option maxRecDepth 20000 in
theorem ggX3_answer_X3_isIndex : GoodIn wsX3_answer wsX3_isIndex := goodIn_r _ [5] (by decide +kernel) (by decide +kernel)
set_option maxRecDepth 20000 in
theorem gX3_answer_X3_isIndex : GoodIn wsX3_answer (va_wsS RX3 42 yX3_isIndex wsX3_isIndex) := goodIn_app (goodIn_of _ (by decide +kernel)) ggX3_answer_X3_isIndex
set_option maxRecDepth 20000 in
theorem ggX3_answer_X3_requireArgument : GoodIn wsX3_answer wsX3_requireArgument := goodIn_ca (goodIn_r _ [8, 9, 10] (by decide +kernel) (by decide +kernel)) (goodIn_sub (fun _ h => List.mem_cons_of_mem _ (List.mem_append_left _ (List.mem_append_right _ h))) (by decide +kernel))
set_option maxRecDepth 20000 in
theorem gX3_answer_X3_requireArgument : GoodIn wsX3_answer (va_wsS RX3 38 yX3_requireArgument wsX3_requireArgument) := goodIn_app (goodIn_of _ (by decide +kernel)) ggX3_answer_X3_requireArgument
set_option maxRecDepth 20000 in
theorem ggX3_answer_X1_hasJoined : GoodIn wsX3_answer wsX1_hasJoined := goodIn_r _ [15, 16, 61, 62, 63, 64, 65, 66, 67, 68, 69] (by decide +kernel) (by decide +kernel)
set_option maxRecDepth 20000 in
theorem gX3_answer_X1_hasJoined : GoodIn wsX3_answer (wsV RX3 80 RX1 yX1_hasJoined wsX1_hasJoined) := goodIn_app (goodIn_of _ (by decide +kernel)) ggX3_answer_X1_hasJoined
set_option maxRecDepth 20000 in
theorem ggX3_answer_X3_requireState : GoodIn wsX3_answer wsX3_requireState := goodIn_ca (goodIn_r _ [19, 20, 21] (by decide +kernel) (by decide +kernel)) (goodIn_sub (fun _ h => List.mem_cons_of_mem _ (List.mem_append_right _ h)) (by decide +kernel))
set_option maxRecDepth 20000 in
theorem gX3_answer_X3_requireState : GoodIn wsX3_answer (va_wsS RX3 84 yX3_requireState wsX3_requireState) := goodIn_app (goodIn_of _ (by decide +kernel)) ggX3_answer_X3_requireState
set_option maxRecDepth 20000 in
theorem ggX3_answer_X1_hasMessage : GoodIn wsX3_answer wsX1_hasMessage := goodIn_r _ [25, 26, 61, 62, 63, 64, 65, 66, 67, 68, 69] (by decide +kernel) (by decide +kernel)
set_option maxRecDepth 20000 in
theorem gX3_answer_X1_hasMessage : GoodIn wsX3_answer (wsV RX3 101 RX1 yX1_hasMessage wsX1_hasMessage) := goodIn_app (goodIn_of _ (by decide +kernel)) ggX3_answer_X1_hasMessage
set_option maxRecDepth 20000 in
theorem ggX3_answer_X1_takeMessage : GoodIn wsX3_answer wsX1_takeMessage := goodIn_r _ [30, 26, 31, 32, 33, 34, 35, 36, 37, 38, 39, 40, 41, 42, 43, 44, 45, 46, 47, 48, 49, 50, 51, 52, 53, 54, 55, 61, 62, 63, 64, 65, 66, 67, 68, 69, 70, 71, 72] (by decide +kernel) (by decide +kernel)
set_option maxRecDepth 20000 in
theorem gX3_answer_X1_takeMessage : GoodIn wsX3_answer (wsV RX3 111 RX1 yX1_takeMessage wsX1_takeMessage) := goodIn_app (goodIn_of _ (by decide +kernel)) ggX3_answer_X1_takeMessage
theorem dX3_answer_0 : decode cX3_answer 0 = .ok (.iload_n 1, 1) := by decide +kernel
theorem dX3_answer_1 : decode cX3_answer 1 = .ok (.iconst 2, 1) := by decide +kernel
theorem dX3_answer_2 : decode cX3_answer 2 = .ok (.invokestatic 42, 3) := by decide +kernel
theorem dX3_answer_5 : decode cX3_answer 5 = .ok (.invokestatic 38, 3) := by decide +kernel
theorem dX3_answer_8 : decode cX3_answer 8 = .ok (.aload_n 0, 1) := by decide +kernel
theorem dX3_answer_9 : decode cX3_answer 9 = .ok (.getfield 21, 3) := by decide +kernel
theorem dX3_answer_12 : decode cX3_answer 12 = .ok (.iload_n 1, 1) := by decide +kernel
theorem dX3_answer_13 : decode cX3_answer 13 = .ok (.aaload, 1) := by decide +kernel
theorem dX3_answer_14 : decode cX3_answer 14 = .ok (.invokevirtual 80, 3) := by decide +kernel
theorem dX3_answer_17 : decode cX3_answer 17 = .ok (.invokestatic 84, 3) := by decide +kernel
theorem dX3_answer_20 : decode cX3_answer 20 = .ok (.aload_n 0, 1) := by decide +kernel
theorem dX3_answer_21 : decode cX3_answer 21 = .ok (.getfield 21, 3) := by decide +kernel
theorem dX3_answer_24 : decode cX3_answer 24 = .ok (.iload_n 1, 1) := by decide +kernel
theorem dX3_answer_25 : decode cX3_answer 25 = .ok (.aaload, 1) := by decide +kernel
theorem dX3_answer_26 : decode cX3_answer 26 = .ok (.invokevirtual 101, 3) := by decide +kernel
theorem dX3_answer_29 : decode cX3_answer 29 = .ok (.invokestatic 84, 3) := by decide +kernel
theorem dX3_answer_32 : decode cX3_answer 32 = .ok (.aload_n 0, 1) := by decide +kernel
theorem dX3_answer_33 : decode cX3_answer 33 = .ok (.getfield 21, 3) := by decide +kernel
theorem dX3_answer_36 : decode cX3_answer 36 = .ok (.iload_n 1, 1) := by decide +kernel
theorem dX3_answer_37 : decode cX3_answer 37 = .ok (.aaload, 1) := by decide +kernel
theorem dX3_answer_38 : decode cX3_answer 38 = .ok (.invokevirtual 111, 3) := by decide +kernel
theorem dX3_answer_41 : decode cX3_answer 41 = .ok (.ireturn, 1) := by decide +kernel
set_option maxRecDepth 20000 in
theorem ggX3_unlike_X3_isIndex : GoodIn wsX3_unlike wsX3_isIndex := goodIn_r _ [6] (by decide +kernel) (by decide +kernel)
set_option maxRecDepth 20000 in
theorem gX3_unlike_X3_isIndex : GoodIn wsX3_unlike (va_wsS RX3 42 yX3_isIndex wsX3_isIndex) := goodIn_app (goodIn_of _ (by decide +kernel)) ggX3_unlike_X3_isIndex
set_option maxRecDepth 20000 in
theorem ggX3_unlike_X3_requireArgument : GoodIn wsX3_unlike wsX3_requireArgument := goodIn_ca (goodIn_r _ [9, 10, 11] (by decide +kernel) (by decide +kernel)) (goodIn_sub (fun _ h => List.mem_cons_of_mem _ (List.mem_append_left _ (List.mem_append_right _ h))) (by decide +kernel))
set_option maxRecDepth 20000 in
theorem gX3_unlike_X3_requireArgument : GoodIn wsX3_unlike (va_wsS RX3 38 yX3_requireArgument wsX3_requireArgument) := goodIn_app (goodIn_of _ (by decide +kernel)) ggX3_unlike_X3_requireArgument
set_option maxRecDepth 20000 in
theorem ggX3_unlike_X1_hasJoined : GoodIn wsX3_unlike wsX1_hasJoined := goodIn_r _ [16, 17, 46, 47, 48, 49, 50, 51, 52, 53, 54] (by decide +kernel) (by decide +kernel)
set_option maxRecDepth 20000 in
theorem gX3_unlike_X1_hasJoined : GoodIn wsX3_unlike (wsV RX3 80 RX1 yX1_hasJoined wsX1_hasJoined) := goodIn_app (goodIn_of _ (by decide +kernel)) ggX3_unlike_X1_hasJoined
set_option maxRecDepth 20000 in
theorem ggX3_unlike_X3_requireState : GoodIn wsX3_unlike wsX3_requireState := goodIn_ca (goodIn_r _ [20, 21, 22] (by decide +kernel) (by decide +kernel)) (goodIn_sub (fun _ h => List.mem_cons_of_mem _ (List.mem_append_right _ h)) (by decide +kernel))
set_option maxRecDepth 20000 in
theorem gX3_unlike_X3_requireState : GoodIn wsX3_unlike (va_wsS RX3 84 yX3_requireState wsX3_requireState) := goodIn_app (goodIn_of _ (by decide +kernel)) ggX3_unlike_X3_requireState
set_option maxRecDepth 20000 in
theorem ggX3_unlike_X1_ownScreen : GoodIn wsX3_unlike wsX1_ownScreen := goodIn_r _ [26, 27, 46, 47, 48, 49, 50, 51, 52, 53, 54] (by decide +kernel) (by decide +kernel)
set_option maxRecDepth 20000 in
theorem gX3_unlike_X1_ownScreen : GoodIn wsX3_unlike (wsV RX3 114 RX1 yX1_ownScreen wsX1_ownScreen) := goodIn_app (goodIn_of _ (by decide +kernel)) ggX3_unlike_X1_ownScreen
set_option maxRecDepth 20000 in
theorem ggX3_unlike_X2_cellsOf : GoodIn wsX3_unlike wsX2_cellsOf := goodIn_r _ [32, 33, 55] (by decide +kernel) (by decide +kernel)
set_option maxRecDepth 20000 in
theorem gX3_unlike_X2_cellsOf : GoodIn wsX3_unlike (wsV RX3 69 RX2 yX2_cellsOf wsX2_cellsOf) := goodIn_app (goodIn_of _ (by decide +kernel)) ggX3_unlike_X2_cellsOf
set_option maxRecDepth 20000 in
theorem ggX3_unlike_X3_countDifferent : GoodIn wsX3_unlike wsX3_countDifferent := goodIn_r _ [36, 37, 38, 5, 39, 40] (by decide +kernel) (by decide +kernel)
set_option maxRecDepth 20000 in
theorem gX3_unlike_X3_countDifferent : GoodIn wsX3_unlike (va_wsS RX3 118 yX3_countDifferent wsX3_countDifferent) := goodIn_app (goodIn_of _ (by decide +kernel)) ggX3_unlike_X3_countDifferent
theorem dX3_unlike_0 : decode cX3_unlike 0 = .ok (.iload_n 1, 1) := by decide +kernel
theorem dX3_unlike_1 : decode cX3_unlike 1 = .ok (.iconst 2, 1) := by decide +kernel
theorem dX3_unlike_2 : decode cX3_unlike 2 = .ok (.invokestatic 42, 3) := by decide +kernel
theorem dX3_unlike_5 : decode cX3_unlike 5 = .ok (.invokestatic 38, 3) := by decide +kernel
theorem dX3_unlike_8 : decode cX3_unlike 8 = .ok (.aload_n 0, 1) := by decide +kernel
theorem dX3_unlike_9 : decode cX3_unlike 9 = .ok (.getfield 21, 3) := by decide +kernel
theorem dX3_unlike_12 : decode cX3_unlike 12 = .ok (.iload_n 1, 1) := by decide +kernel
theorem dX3_unlike_13 : decode cX3_unlike 13 = .ok (.aaload, 1) := by decide +kernel
theorem dX3_unlike_14 : decode cX3_unlike 14 = .ok (.invokevirtual 80, 3) := by decide +kernel
theorem dX3_unlike_17 : decode cX3_unlike 17 = .ok (.invokestatic 84, 3) := by decide +kernel
theorem dX3_unlike_20 : decode cX3_unlike 20 = .ok (.aload_n 0, 1) := by decide +kernel
theorem dX3_unlike_21 : decode cX3_unlike 21 = .ok (.getfield 21, 3) := by decide +kernel
theorem dX3_unlike_24 : decode cX3_unlike 24 = .ok (.iload_n 1, 1) := by decide +kernel
theorem dX3_unlike_25 : decode cX3_unlike 25 = .ok (.aaload, 1) := by decide +kernel
theorem dX3_unlike_26 : decode cX3_unlike 26 = .ok (.invokevirtual 114, 3) := by decide +kernel
theorem dX3_unlike_29 : decode cX3_unlike 29 = .ok (.astore_n 2, 1) := by decide +kernel
theorem dX3_unlike_30 : decode cX3_unlike 30 = .ok (.iconst 0, 1) := by decide +kernel
theorem dX3_unlike_31 : decode cX3_unlike 31 = .ok (.istore_n 3, 1) := by decide +kernel
theorem dX3_unlike_32 : decode cX3_unlike 32 = .ok (.iconst 0, 1) := by decide +kernel
theorem dX3_unlike_33 : decode cX3_unlike 33 = .ok (.istore 4, 2) := by decide +kernel
theorem dX3_unlike_35 : decode cX3_unlike 35 = .ok (.iload 4, 2) := by decide +kernel
theorem dX3_unlike_37 : decode cX3_unlike 37 = .ok (.bipush 12, 2) := by decide +kernel
theorem dX3_unlike_39 : decode cX3_unlike 39 = .ok (.if_icmp .ge 30, 3) := by decide +kernel
theorem dX3_unlike_42 : decode cX3_unlike 42 = .ok (.iload_n 3, 1) := by decide +kernel
theorem dX3_unlike_43 : decode cX3_unlike 43 = .ok (.aload_n 2, 1) := by decide +kernel
theorem dX3_unlike_44 : decode cX3_unlike 44 = .ok (.iload 4, 2) := by decide +kernel
theorem dX3_unlike_46 : decode cX3_unlike 46 = .ok (.invokevirtual 69, 3) := by decide +kernel
theorem dX3_unlike_49 : decode cX3_unlike 49 = .ok (.aload_n 0, 1) := by decide +kernel
theorem dX3_unlike_50 : decode cX3_unlike 50 = .ok (.getfield 10, 3) := by decide +kernel
theorem dX3_unlike_53 : decode cX3_unlike 53 = .ok (.iload 4, 2) := by decide +kernel
theorem dX3_unlike_55 : decode cX3_unlike 55 = .ok (.invokevirtual 69, 3) := by decide +kernel
theorem dX3_unlike_58 : decode cX3_unlike 58 = .ok (.invokestatic 118, 3) := by decide +kernel
theorem dX3_unlike_61 : decode cX3_unlike 61 = .ok (.iadd, 1) := by decide +kernel
theorem dX3_unlike_62 : decode cX3_unlike 62 = .ok (.istore_n 3, 1) := by decide +kernel
theorem dX3_unlike_63 : decode cX3_unlike 63 = .ok (.iinc 4 1, 3) := by decide +kernel
theorem dX3_unlike_66 : decode cX3_unlike 66 = .ok (.goto (-31), 3) := by decide +kernel
theorem dX3_unlike_69 : decode cX3_unlike 69 = .ok (.iload_n 3, 1) := by decide +kernel
theorem dX3_unlike_70 : decode cX3_unlike 70 = .ok (.ireturn, 1) := by decide +kernel
set_option maxRecDepth 20000 in
theorem ggX3_dirty_X3_isIndex : GoodIn wsX3_dirty wsX3_isIndex := goodIn_r _ [5] (by decide +kernel) (by decide +kernel)
set_option maxRecDepth 20000 in
theorem gX3_dirty_X3_isIndex : GoodIn wsX3_dirty (va_wsS RX3 42 yX3_isIndex wsX3_isIndex) := goodIn_app (goodIn_of _ (by decide +kernel)) ggX3_dirty_X3_isIndex
set_option maxRecDepth 20000 in
theorem ggX3_dirty_X3_requireArgument : GoodIn wsX3_dirty wsX3_requireArgument := goodIn_ca (goodIn_r _ [8, 9, 10] (by decide +kernel) (by decide +kernel)) (goodIn_sub (fun _ h => List.mem_cons_of_mem _ (List.mem_append_left _ (List.mem_append_right _ h))) (by decide +kernel))
set_option maxRecDepth 20000 in
theorem gX3_dirty_X3_requireArgument : GoodIn wsX3_dirty (va_wsS RX3 38 yX3_requireArgument wsX3_requireArgument) := goodIn_app (goodIn_of _ (by decide +kernel)) ggX3_dirty_X3_requireArgument
set_option maxRecDepth 20000 in
theorem ggX3_dirty_X1_hasJoined : GoodIn wsX3_dirty wsX1_hasJoined := goodIn_r _ [15, 16, 32, 33, 34, 35, 36, 37, 38, 39, 40] (by decide +kernel) (by decide +kernel)
set_option maxRecDepth 20000 in
theorem gX3_dirty_X1_hasJoined : GoodIn wsX3_dirty (wsV RX3 80 RX1 yX1_hasJoined wsX1_hasJoined) := goodIn_app (goodIn_of _ (by decide +kernel)) ggX3_dirty_X1_hasJoined
set_option maxRecDepth 20000 in
theorem ggX3_dirty_X3_requireState : GoodIn wsX3_dirty wsX3_requireState := goodIn_ca (goodIn_r _ [19, 20, 21] (by decide +kernel) (by decide +kernel)) (goodIn_sub (fun _ h => List.mem_cons_of_mem _ (List.mem_append_right _ h)) (by decide +kernel))
set_option maxRecDepth 20000 in
theorem gX3_dirty_X3_requireState : GoodIn wsX3_dirty (va_wsS RX3 84 yX3_requireState wsX3_requireState) := goodIn_app (goodIn_of _ (by decide +kernel)) ggX3_dirty_X3_requireState
set_option maxRecDepth 20000 in
theorem ggX3_dirty_X1_dirtyCount : GoodIn wsX3_dirty wsX1_dirtyCount := goodIn_r _ [25, 26, 32, 33, 34, 35, 36, 37, 38, 39, 40] (by decide +kernel) (by decide +kernel)
set_option maxRecDepth 20000 in
theorem gX3_dirty_X1_dirtyCount : GoodIn wsX3_dirty (wsV RX3 98 RX1 yX1_dirtyCount wsX1_dirtyCount) := goodIn_app (goodIn_of _ (by decide +kernel)) ggX3_dirty_X1_dirtyCount
theorem dX3_dirty_0 : decode cX3_dirty 0 = .ok (.iload_n 1, 1) := by decide +kernel
theorem dX3_dirty_1 : decode cX3_dirty 1 = .ok (.iconst 2, 1) := by decide +kernel
theorem dX3_dirty_2 : decode cX3_dirty 2 = .ok (.invokestatic 42, 3) := by decide +kernel
theorem dX3_dirty_5 : decode cX3_dirty 5 = .ok (.invokestatic 38, 3) := by decide +kernel
theorem dX3_dirty_8 : decode cX3_dirty 8 = .ok (.aload_n 0, 1) := by decide +kernel
theorem dX3_dirty_9 : decode cX3_dirty 9 = .ok (.getfield 21, 3) := by decide +kernel
theorem dX3_dirty_12 : decode cX3_dirty 12 = .ok (.iload_n 1, 1) := by decide +kernel
theorem dX3_dirty_13 : decode cX3_dirty 13 = .ok (.aaload, 1) := by decide +kernel
theorem dX3_dirty_14 : decode cX3_dirty 14 = .ok (.invokevirtual 80, 3) := by decide +kernel
theorem dX3_dirty_17 : decode cX3_dirty 17 = .ok (.invokestatic 84, 3) := by decide +kernel
theorem dX3_dirty_20 : decode cX3_dirty 20 = .ok (.aload_n 0, 1) := by decide +kernel
theorem dX3_dirty_21 : decode cX3_dirty 21 = .ok (.getfield 21, 3) := by decide +kernel
theorem dX3_dirty_24 : decode cX3_dirty 24 = .ok (.iload_n 1, 1) := by decide +kernel
theorem dX3_dirty_25 : decode cX3_dirty 25 = .ok (.aaload, 1) := by decide +kernel
theorem dX3_dirty_26 : decode cX3_dirty 26 = .ok (.invokevirtual 98, 3) := by decide +kernel
theorem dX3_dirty_29 : decode cX3_dirty 29 = .ok (.ireturn, 1) := by decide +kernel
set_option maxRecDepth 20000 in
theorem ggX3_dirtyAt_X3_isIndex : GoodIn wsX3_dirtyAt wsX3_isIndex := goodIn_r _ [7] (by decide +kernel) (by decide +kernel)
set_option maxRecDepth 20000 in
theorem gX3_dirtyAt_X3_isIndex : GoodIn wsX3_dirtyAt (va_wsS RX3 42 yX3_isIndex wsX3_isIndex) := goodIn_app (goodIn_of _ (by decide +kernel)) ggX3_dirtyAt_X3_isIndex
set_option maxRecDepth 20000 in
theorem ggX3_dirtyAt_X3_requireArgument : GoodIn wsX3_dirtyAt wsX3_requireArgument := goodIn_ca (goodIn_r _ [10, 11, 12] (by decide +kernel) (by decide +kernel)) (goodIn_sub (fun _ h => List.mem_cons_of_mem _ (List.mem_append_left _ (List.mem_append_right _ h))) (by decide +kernel))
set_option maxRecDepth 20000 in
theorem gX3_dirtyAt_X3_requireArgument : GoodIn wsX3_dirtyAt (va_wsS RX3 38 yX3_requireArgument wsX3_requireArgument) := goodIn_app (goodIn_of _ (by decide +kernel)) ggX3_dirtyAt_X3_requireArgument
set_option maxRecDepth 20000 in
theorem ggX3_dirtyAt_X1_hasJoined : GoodIn wsX3_dirtyAt wsX1_hasJoined := goodIn_r _ [17, 18, 39, 40, 41, 42, 43, 44, 45, 46, 47] (by decide +kernel) (by decide +kernel)
set_option maxRecDepth 20000 in
theorem gX3_dirtyAt_X1_hasJoined : GoodIn wsX3_dirtyAt (wsV RX3 80 RX1 yX1_hasJoined wsX1_hasJoined) := goodIn_app (goodIn_of _ (by decide +kernel)) ggX3_dirtyAt_X1_hasJoined
set_option maxRecDepth 20000 in
theorem ggX3_dirtyAt_X3_requireState : GoodIn wsX3_dirtyAt wsX3_requireState := goodIn_ca (goodIn_r _ [21, 22, 23] (by decide +kernel) (by decide +kernel)) (goodIn_sub (fun _ h => List.mem_cons_of_mem _ (List.mem_append_right _ h)) (by decide +kernel))
set_option maxRecDepth 20000 in
theorem gX3_dirtyAt_X3_requireState : GoodIn wsX3_dirtyAt (va_wsS RX3 84 yX3_requireState wsX3_requireState) := goodIn_app (goodIn_of _ (by decide +kernel)) ggX3_dirtyAt_X3_requireState
set_option maxRecDepth 20000 in
theorem ggX3_dirtyAt_X1_dirtyCount : GoodIn wsX3_dirtyAt wsX1_dirtyCount := goodIn_r _ [27, 28, 39, 40, 41, 42, 43, 44, 45, 46, 47] (by decide +kernel) (by decide +kernel)
set_option maxRecDepth 20000 in
theorem gX3_dirtyAt_X1_dirtyCount : GoodIn wsX3_dirtyAt (wsV RX3 98 RX1 yX1_dirtyCount wsX1_dirtyCount) := goodIn_app (goodIn_of _ (by decide +kernel)) ggX3_dirtyAt_X1_dirtyCount
set_option maxRecDepth 20000 in
theorem ggX3_dirtyAt_X1_dirtyTileAt : GoodIn wsX3_dirtyAt wsX1_dirtyTileAt := goodIn_r _ [32, 33, 39, 40, 41, 42, 43, 44, 45, 46, 47] (by decide +kernel) (by decide +kernel)
set_option maxRecDepth 20000 in
theorem gX3_dirtyAt_X1_dirtyTileAt : GoodIn wsX3_dirtyAt (wsV RX3 129 RX1 yX1_dirtyTileAt wsX1_dirtyTileAt) := goodIn_app (goodIn_of _ (by decide +kernel)) ggX3_dirtyAt_X1_dirtyTileAt
theorem dX3_dirtyAt_0 : decode cX3_dirtyAt 0 = .ok (.iload_n 1, 1) := by decide +kernel
theorem dX3_dirtyAt_1 : decode cX3_dirtyAt 1 = .ok (.iconst 2, 1) := by decide +kernel
theorem dX3_dirtyAt_2 : decode cX3_dirtyAt 2 = .ok (.invokestatic 42, 3) := by decide +kernel
theorem dX3_dirtyAt_5 : decode cX3_dirtyAt 5 = .ok (.invokestatic 38, 3) := by decide +kernel
theorem dX3_dirtyAt_8 : decode cX3_dirtyAt 8 = .ok (.aload_n 0, 1) := by decide +kernel
theorem dX3_dirtyAt_9 : decode cX3_dirtyAt 9 = .ok (.getfield 21, 3) := by decide +kernel
theorem dX3_dirtyAt_12 : decode cX3_dirtyAt 12 = .ok (.iload_n 1, 1) := by decide +kernel
theorem dX3_dirtyAt_13 : decode cX3_dirtyAt 13 = .ok (.aaload, 1) := by decide +kernel
theorem dX3_dirtyAt_14 : decode cX3_dirtyAt 14 = .ok (.invokevirtual 80, 3) := by decide +kernel
theorem dX3_dirtyAt_17 : decode cX3_dirtyAt 17 = .ok (.invokestatic 84, 3) := by decide +kernel
theorem dX3_dirtyAt_20 : decode cX3_dirtyAt 20 = .ok (.iload_n 2, 1) := by decide +kernel
theorem dX3_dirtyAt_21 : decode cX3_dirtyAt 21 = .ok (.aload_n 0, 1) := by decide +kernel
theorem dX3_dirtyAt_22 : decode cX3_dirtyAt 22 = .ok (.getfield 21, 3) := by decide +kernel
theorem dX3_dirtyAt_25 : decode cX3_dirtyAt 25 = .ok (.iload_n 1, 1) := by decide +kernel
theorem dX3_dirtyAt_26 : decode cX3_dirtyAt 26 = .ok (.aaload, 1) := by decide +kernel
theorem dX3_dirtyAt_27 : decode cX3_dirtyAt 27 = .ok (.invokevirtual 98, 3) := by decide +kernel
theorem dX3_dirtyAt_30 : decode cX3_dirtyAt 30 = .ok (.invokestatic 42, 3) := by decide +kernel
theorem dX3_dirtyAt_33 : decode cX3_dirtyAt 33 = .ok (.ifCond .ne 13, 3) := by decide +kernel
theorem dX3_dirtyAt_36 : decode cX3_dirtyAt 36 = .ok (.new 122, 3) := by decide +kernel
theorem dX3_dirtyAt_39 : decode cX3_dirtyAt 39 = .ok (.dup, 1) := by decide +kernel
theorem dX3_dirtyAt_40 : decode cX3_dirtyAt 40 = .ok (.ldc 124, 2) := by decide +kernel
theorem dX3_dirtyAt_42 : decode cX3_dirtyAt 42 = .ok (.invokespecial 126, 3) := by decide +kernel
theorem dX3_dirtyAt_45 : decode cX3_dirtyAt 45 = .ok (.athrow, 1) := by decide +kernel
theorem dX3_dirtyAt_46 : decode cX3_dirtyAt 46 = .ok (.aload_n 0, 1) := by decide +kernel
theorem dX3_dirtyAt_47 : decode cX3_dirtyAt 47 = .ok (.getfield 21, 3) := by decide +kernel
theorem dX3_dirtyAt_50 : decode cX3_dirtyAt 50 = .ok (.iload_n 1, 1) := by decide +kernel
theorem dX3_dirtyAt_51 : decode cX3_dirtyAt 51 = .ok (.aaload, 1) := by decide +kernel
theorem dX3_dirtyAt_52 : decode cX3_dirtyAt 52 = .ok (.iload_n 2, 1) := by decide +kernel
theorem dX3_dirtyAt_53 : decode cX3_dirtyAt 53 = .ok (.invokevirtual 129, 3) := by decide +kernel
theorem dX3_dirtyAt_56 : decode cX3_dirtyAt 56 = .ok (.ireturn, 1) := by decide +kernel
set_option maxRecDepth 20000 in
theorem ggX3_cached_X3_isIndex : GoodIn wsX3_cached wsX3_isIndex := goodIn_r _ [5] (by decide +kernel) (by decide +kernel)
set_option maxRecDepth 20000 in
theorem gX3_cached_X3_isIndex : GoodIn wsX3_cached (va_wsS RX3 42 yX3_isIndex wsX3_isIndex) := goodIn_app (goodIn_of _ (by decide +kernel)) ggX3_cached_X3_isIndex
set_option maxRecDepth 20000 in
theorem ggX3_cached_X3_requireArgument : GoodIn wsX3_cached wsX3_requireArgument := goodIn_ca (goodIn_r _ [8, 9, 10] (by decide +kernel) (by decide +kernel)) (goodIn_sub (fun _ h => List.mem_cons_of_mem _ (List.mem_append_left _ (List.mem_append_right _ h))) (by decide +kernel))
set_option maxRecDepth 20000 in
theorem gX3_cached_X3_requireArgument : GoodIn wsX3_cached (va_wsS RX3 38 yX3_requireArgument wsX3_requireArgument) := goodIn_app (goodIn_of _ (by decide +kernel)) ggX3_cached_X3_requireArgument
set_option maxRecDepth 20000 in
theorem ggX3_cached_X1_hasJoined : GoodIn wsX3_cached wsX1_hasJoined := goodIn_r _ [15, 16, 38, 39, 40, 41, 42, 43, 44, 45, 46] (by decide +kernel) (by decide +kernel)
set_option maxRecDepth 20000 in
theorem gX3_cached_X1_hasJoined : GoodIn wsX3_cached (wsV RX3 80 RX1 yX1_hasJoined wsX1_hasJoined) := goodIn_app (goodIn_of _ (by decide +kernel)) ggX3_cached_X1_hasJoined
set_option maxRecDepth 20000 in
theorem ggX3_cached_X3_requireState : GoodIn wsX3_cached wsX3_requireState := goodIn_ca (goodIn_r _ [19, 20, 21] (by decide +kernel) (by decide +kernel)) (goodIn_sub (fun _ h => List.mem_cons_of_mem _ (List.mem_append_right _ h)) (by decide +kernel))
set_option maxRecDepth 20000 in
theorem gX3_cached_X3_requireState : GoodIn wsX3_cached (va_wsS RX3 84 yX3_requireState wsX3_requireState) := goodIn_app (goodIn_of _ (by decide +kernel)) ggX3_cached_X3_requireState
set_option maxRecDepth 20000 in
theorem ggX3_cached_X1_ownCache : GoodIn wsX3_cached wsX1_ownCache := goodIn_r _ [25, 26, 38, 39, 40, 41, 42, 43, 44, 45, 46] (by decide +kernel) (by decide +kernel)
set_option maxRecDepth 20000 in
theorem gX3_cached_X1_ownCache : GoodIn wsX3_cached (wsV RX3 133 RX1 yX1_ownCache wsX1_ownCache) := goodIn_app (goodIn_of _ (by decide +kernel)) ggX3_cached_X1_ownCache
set_option maxRecDepth 20000 in
theorem ggX3_cached_X0_size : GoodIn wsX3_cached wsX0_size := goodIn_r _ [31, 32, 47, 48] (by decide +kernel) (by decide +kernel)
set_option maxRecDepth 20000 in
theorem gX3_cached_X0_size : GoodIn wsX3_cached (wsV RX3 136 RX0 yX0_size wsX0_size) := goodIn_app (goodIn_of _ (by decide +kernel)) ggX3_cached_X0_size
theorem dX3_cached_0 : decode cX3_cached 0 = .ok (.iload_n 1, 1) := by decide +kernel
theorem dX3_cached_1 : decode cX3_cached 1 = .ok (.iconst 2, 1) := by decide +kernel
theorem dX3_cached_2 : decode cX3_cached 2 = .ok (.invokestatic 42, 3) := by decide +kernel
theorem dX3_cached_5 : decode cX3_cached 5 = .ok (.invokestatic 38, 3) := by decide +kernel
theorem dX3_cached_8 : decode cX3_cached 8 = .ok (.aload_n 0, 1) := by decide +kernel
theorem dX3_cached_9 : decode cX3_cached 9 = .ok (.getfield 21, 3) := by decide +kernel
theorem dX3_cached_12 : decode cX3_cached 12 = .ok (.iload_n 1, 1) := by decide +kernel
theorem dX3_cached_13 : decode cX3_cached 13 = .ok (.aaload, 1) := by decide +kernel
theorem dX3_cached_14 : decode cX3_cached 14 = .ok (.invokevirtual 80, 3) := by decide +kernel
theorem dX3_cached_17 : decode cX3_cached 17 = .ok (.invokestatic 84, 3) := by decide +kernel
theorem dX3_cached_20 : decode cX3_cached 20 = .ok (.aload_n 0, 1) := by decide +kernel
theorem dX3_cached_21 : decode cX3_cached 21 = .ok (.getfield 21, 3) := by decide +kernel
theorem dX3_cached_24 : decode cX3_cached 24 = .ok (.iload_n 1, 1) := by decide +kernel
theorem dX3_cached_25 : decode cX3_cached 25 = .ok (.aaload, 1) := by decide +kernel
theorem dX3_cached_26 : decode cX3_cached 26 = .ok (.invokevirtual 133, 3) := by decide +kernel
theorem dX3_cached_29 : decode cX3_cached 29 = .ok (.invokevirtual 136, 3) := by decide +kernel
theorem dX3_cached_32 : decode cX3_cached 32 = .ok (.ireturn, 1) := by decide +kernel
set_option maxRecDepth 20000 in
theorem ggX3_isAlike_X3_isIndex : GoodIn wsX3_isAlike wsX3_isIndex := goodIn_r _ [5] (by decide +kernel) (by decide +kernel)
set_option maxRecDepth 20000 in
theorem gX3_isAlike_X3_isIndex : GoodIn wsX3_isAlike (va_wsS RX3 42 yX3_isIndex wsX3_isIndex) := goodIn_app (goodIn_of _ (by decide +kernel)) ggX3_isAlike_X3_isIndex
set_option maxRecDepth 20000 in
theorem ggX3_isAlike_X3_requireArgument : GoodIn wsX3_isAlike wsX3_requireArgument := goodIn_ca (goodIn_r _ [8, 9, 10] (by decide +kernel) (by decide +kernel)) (goodIn_sub (fun _ h => List.mem_cons_of_mem _ (List.mem_append_left _ (List.mem_append_right _ h))) (by decide +kernel))
set_option maxRecDepth 20000 in
theorem gX3_isAlike_X3_requireArgument : GoodIn wsX3_isAlike (va_wsS RX3 38 yX3_requireArgument wsX3_requireArgument) := goodIn_app (goodIn_of _ (by decide +kernel)) ggX3_isAlike_X3_requireArgument
set_option maxRecDepth 20000 in
theorem ggX3_isAlike_X1_hasJoined : GoodIn wsX3_isAlike wsX1_hasJoined := goodIn_r _ [15, 16, 44, 45, 46, 47, 48, 49, 50, 51, 52] (by decide +kernel) (by decide +kernel)
set_option maxRecDepth 20000 in
theorem gX3_isAlike_X1_hasJoined : GoodIn wsX3_isAlike (wsV RX3 80 RX1 yX1_hasJoined wsX1_hasJoined) := goodIn_app (goodIn_of _ (by decide +kernel)) ggX3_isAlike_X1_hasJoined
set_option maxRecDepth 20000 in
theorem ggX3_isAlike_X3_requireState : GoodIn wsX3_isAlike wsX3_requireState := goodIn_ca (goodIn_r _ [19, 20, 21] (by decide +kernel) (by decide +kernel)) (goodIn_sub (fun _ h => List.mem_cons_of_mem _ (List.mem_append_right _ h)) (by decide +kernel))
set_option maxRecDepth 20000 in
theorem gX3_isAlike_X3_requireState : GoodIn wsX3_isAlike (va_wsS RX3 84 yX3_requireState wsX3_requireState) := goodIn_app (goodIn_of _ (by decide +kernel)) ggX3_isAlike_X3_requireState
set_option maxRecDepth 20000 in
theorem ggX3_isAlike_X1_serverCache : GoodIn wsX3_isAlike wsX1_serverCache := goodIn_r _ [25, 26, 44, 45, 46, 47, 48, 49, 50, 51, 52] (by decide +kernel) (by decide +kernel)
set_option maxRecDepth 20000 in
theorem gX3_isAlike_X1_serverCache : GoodIn wsX3_isAlike (wsV RX3 87 RX1 yX1_serverCache wsX1_serverCache) := goodIn_app (goodIn_of _ (by decide +kernel)) ggX3_isAlike_X1_serverCache
set_option maxRecDepth 20000 in
theorem ggX3_isAlike_X1_ownCache : GoodIn wsX3_isAlike wsX1_ownCache := goodIn_r _ [30, 31, 44, 45, 46, 47, 48, 49, 50, 51, 52] (by decide +kernel) (by decide +kernel)
set_option maxRecDepth 20000 in
theorem gX3_isAlike_X1_ownCache : GoodIn wsX3_isAlike (wsV RX3 133 RX1 yX1_ownCache wsX1_ownCache) := goodIn_app (goodIn_of _ (by decide +kernel)) ggX3_isAlike_X1_ownCache
set_option maxRecDepth 20000 in
theorem ggX3_isAlike_X0_hasSameTilesAs : GoodIn wsX3_isAlike wsX0_hasSameTilesAs := goodIn_r _ [36, 37, 38, 53, 54] (by decide +kernel) (by decide +kernel)
set_option maxRecDepth 20000 in
theorem gX3_isAlike_X0_hasSameTilesAs : GoodIn wsX3_isAlike (wsV RX3 141 RX0 yX0_hasSameTilesAs wsX0_hasSameTilesAs) := goodIn_app (goodIn_of _ (by decide +kernel)) ggX3_isAlike_X0_hasSameTilesAs
theorem dX3_isAlike_0 : decode cX3_isAlike 0 = .ok (.iload_n 1, 1) := by decide +kernel
theorem dX3_isAlike_1 : decode cX3_isAlike 1 = .ok (.iconst 2, 1) := by decide +kernel
theorem dX3_isAlike_2 : decode cX3_isAlike 2 = .ok (.invokestatic 42, 3) := by decide +kernel
theorem dX3_isAlike_5 : decode cX3_isAlike 5 = .ok (.invokestatic 38, 3) := by decide +kernel
theorem dX3_isAlike_8 : decode cX3_isAlike 8 = .ok (.aload_n 0, 1) := by decide +kernel
theorem dX3_isAlike_9 : decode cX3_isAlike 9 = .ok (.getfield 21, 3) := by decide +kernel
theorem dX3_isAlike_12 : decode cX3_isAlike 12 = .ok (.iload_n 1, 1) := by decide +kernel
theorem dX3_isAlike_13 : decode cX3_isAlike 13 = .ok (.aaload, 1) := by decide +kernel
theorem dX3_isAlike_14 : decode cX3_isAlike 14 = .ok (.invokevirtual 80, 3) := by decide +kernel
theorem dX3_isAlike_17 : decode cX3_isAlike 17 = .ok (.invokestatic 84, 3) := by decide +kernel
theorem dX3_isAlike_20 : decode cX3_isAlike 20 = .ok (.aload_n 0, 1) := by decide +kernel
theorem dX3_isAlike_21 : decode cX3_isAlike 21 = .ok (.getfield 21, 3) := by decide +kernel
theorem dX3_isAlike_24 : decode cX3_isAlike 24 = .ok (.iload_n 1, 1) := by decide +kernel
theorem dX3_isAlike_25 : decode cX3_isAlike 25 = .ok (.aaload, 1) := by decide +kernel
theorem dX3_isAlike_26 : decode cX3_isAlike 26 = .ok (.invokevirtual 87, 3) := by decide +kernel
theorem dX3_isAlike_29 : decode cX3_isAlike 29 = .ok (.aload_n 0, 1) := by decide +kernel
theorem dX3_isAlike_30 : decode cX3_isAlike 30 = .ok (.getfield 21, 3) := by decide +kernel
theorem dX3_isAlike_33 : decode cX3_isAlike 33 = .ok (.iload_n 1, 1) := by decide +kernel
theorem dX3_isAlike_34 : decode cX3_isAlike 34 = .ok (.aaload, 1) := by decide +kernel
theorem dX3_isAlike_35 : decode cX3_isAlike 35 = .ok (.invokevirtual 133, 3) := by decide +kernel
theorem dX3_isAlike_38 : decode cX3_isAlike 38 = .ok (.invokevirtual 141, 3) := by decide +kernel
theorem dX3_isAlike_41 : decode cX3_isAlike 41 = .ok (.ireturn, 1) := by decide +kernel
set_option maxRecDepth 20000 in
theorem ggX3_written_X3_isIndex : GoodIn wsX3_written wsX3_isIndex := goodIn_r _ [5] (by decide +kernel) (by decide +kernel)
set_option maxRecDepth 20000 in
theorem gX3_written_X3_isIndex : GoodIn wsX3_written (va_wsS RX3 42 yX3_isIndex wsX3_isIndex) := goodIn_app (goodIn_of _ (by decide +kernel)) ggX3_written_X3_isIndex
set_option maxRecDepth 20000 in
theorem ggX3_written_X3_requireArgument : GoodIn wsX3_written wsX3_requireArgument := goodIn_ca (goodIn_r _ [8, 9, 10] (by decide +kernel) (by decide +kernel)) (goodIn_sub (fun _ h => List.mem_cons_of_mem _ (List.mem_append_right _ h)) (by decide +kernel))
set_option maxRecDepth 20000 in
theorem gX3_written_X3_requireArgument : GoodIn wsX3_written (va_wsS RX3 38 yX3_requireArgument wsX3_requireArgument) := goodIn_app (goodIn_of _ (by decide +kernel)) ggX3_written_X3_requireArgument
theorem dX3_written_0 : decode cX3_written 0 = .ok (.iload_n 1, 1) := by decide +kernel
theorem dX3_written_1 : decode cX3_written 1 = .ok (.iconst 5, 1) := by decide +kernel
theorem dX3_written_2 : decode cX3_written 2 = .ok (.invokestatic 42, 3) := by decide +kernel
theorem dX3_written_5 : decode cX3_written 5 = .ok (.invokestatic 38, 3) := by decide +kernel
theorem dX3_written_8 : decode cX3_written 8 = .ok (.aload_n 0, 1) := by decide +kernel
theorem dX3_written_9 : decode cX3_written 9 = .ok (.getfield 25, 3) := by decide +kernel
theorem dX3_written_12 : decode cX3_written 12 = .ok (.iload_n 1, 1) := by decide +kernel
theorem dX3_written_13 : decode cX3_written 13 = .ok (.iaload, 1) := by decide +kernel
theorem dX3_written_14 : decode cX3_written 14 = .ok (.ireturn, 1) := by decide +kernel
theorem dX3_units_0 : decode cX3_units 0 = .ok (.aload_n 0, 1) := by decide +kernel
theorem dX3_units_1 : decode cX3_units 1 = .ok (.getfield 29, 3) := by decide +kernel
theorem dX3_units_4 : decode cX3_units 4 = .ok (.ireturn, 1) := by decide +kernel
theorem dX3_requireArgument_0 : decode cX3_requireArgument 0 = .ok (.iload_n 0, 1) := by decide +kernel
theorem dX3_requireArgument_1 : decode cX3_requireArgument 1 = .ok (.ifCond .ne 13, 3) := by decide +kernel
theorem dX3_requireArgument_4 : decode cX3_requireArgument 4 = .ok (.new 145, 3) := by decide +kernel
theorem dX3_requireArgument_7 : decode cX3_requireArgument 7 = .ok (.dup, 1) := by decide +kernel
theorem dX3_requireArgument_8 : decode cX3_requireArgument 8 = .ok (.ldc 147, 2) := by decide +kernel
theorem dX3_requireArgument_10 : decode cX3_requireArgument 10 = .ok (.invokespecial 149, 3) := by decide +kernel
theorem dX3_requireArgument_13 : decode cX3_requireArgument 13 = .ok (.athrow, 1) := by decide +kernel
theorem dX3_requireArgument_14 : decode cX3_requireArgument 14 = .ok (.return_, 1) := by decide +kernel
theorem dX3_requireState_0 : decode cX3_requireState 0 = .ok (.iload_n 0, 1) := by decide +kernel
theorem dX3_requireState_1 : decode cX3_requireState 1 = .ok (.ifCond .ne 13, 3) := by decide +kernel
theorem dX3_requireState_4 : decode cX3_requireState 4 = .ok (.new 150, 3) := by decide +kernel
theorem dX3_requireState_7 : decode cX3_requireState 7 = .ok (.dup, 1) := by decide +kernel
theorem dX3_requireState_8 : decode cX3_requireState 8 = .ok (.ldc 152, 2) := by decide +kernel
theorem dX3_requireState_10 : decode cX3_requireState 10 = .ok (.invokespecial 154, 3) := by decide +kernel
theorem dX3_requireState_13 : decode cX3_requireState 13 = .ok (.athrow, 1) := by decide +kernel
theorem dX3_requireState_14 : decode cX3_requireState 14 = .ok (.return_, 1) := by decide +kernel
theorem dX3_isBetween_0 : decode cX3_isBetween 0 = .ok (.iload_n 0, 1) := by decide +kernel
theorem dX3_isBetween_1 : decode cX3_isBetween 1 = .ok (.iload_n 1, 1) := by decide +kernel
theorem dX3_isBetween_2 : decode cX3_isBetween 2 = .ok (.if_icmp .lt 12, 3) := by decide +kernel
theorem dX3_isBetween_5 : decode cX3_isBetween 5 = .ok (.iload_n 0, 1) := by decide +kernel
theorem dX3_isBetween_6 : decode cX3_isBetween 6 = .ok (.iload_n 2, 1) := by decide +kernel
theorem dX3_isBetween_7 : decode cX3_isBetween 7 = .ok (.if_icmp .gt 7, 3) := by decide +kernel
theorem dX3_isBetween_10 : decode cX3_isBetween 10 = .ok (.iconst 1, 1) := by decide +kernel
theorem dX3_isBetween_11 : decode cX3_isBetween 11 = .ok (.goto 4, 3) := by decide +kernel
theorem dX3_isBetween_14 : decode cX3_isBetween 14 = .ok (.iconst 0, 1) := by decide +kernel
theorem dX3_isBetween_15 : decode cX3_isBetween 15 = .ok (.ireturn, 1) := by decide +kernel
theorem dX3_isIndex_0 : decode cX3_isIndex 0 = .ok (.iload_n 0, 1) := by decide +kernel
theorem dX3_isIndex_1 : decode cX3_isIndex 1 = .ok (.ifCond .lt 12, 3) := by decide +kernel
theorem dX3_isIndex_4 : decode cX3_isIndex 4 = .ok (.iload_n 0, 1) := by decide +kernel
theorem dX3_isIndex_5 : decode cX3_isIndex 5 = .ok (.iload_n 1, 1) := by decide +kernel
theorem dX3_isIndex_6 : decode cX3_isIndex 6 = .ok (.if_icmp .ge 7, 3) := by decide +kernel
theorem dX3_isIndex_9 : decode cX3_isIndex 9 = .ok (.iconst 1, 1) := by decide +kernel
theorem dX3_isIndex_10 : decode cX3_isIndex 10 = .ok (.goto 4, 3) := by decide +kernel
theorem dX3_isIndex_13 : decode cX3_isIndex 13 = .ok (.iconst 0, 1) := by decide +kernel
theorem dX3_isIndex_14 : decode cX3_isIndex 14 = .ok (.ireturn, 1) := by decide +kernel
set_option maxRecDepth 20000 in
theorem ggX3_isCell_X3_isIndex : GoodIn wsX3_isCell wsX3_isIndex := goodIn_r _ [4] (by decide +kernel) (by decide +kernel)
set_option maxRecDepth 20000 in
theorem gX3_isCell_X3_isIndex : GoodIn wsX3_isCell (va_wsS RX3 42 yX3_isIndex wsX3_isIndex) := goodIn_app (goodIn_of _ (by decide +kernel)) ggX3_isCell_X3_isIndex
theorem dX3_isCell_0 : decode cX3_isCell 0 = .ok (.iload_n 0, 1) := by decide +kernel
theorem dX3_isCell_1 : decode cX3_isCell 1 = .ok (.bipush 16, 2) := by decide +kernel
theorem dX3_isCell_3 : decode cX3_isCell 3 = .ok (.invokestatic 42, 3) := by decide +kernel
theorem dX3_isCell_6 : decode cX3_isCell 6 = .ok (.ifCond .eq 16, 3) := by decide +kernel
theorem dX3_isCell_9 : decode cX3_isCell 9 = .ok (.iload_n 1, 1) := by decide +kernel
theorem dX3_isCell_10 : decode cX3_isCell 10 = .ok (.bipush 12, 2) := by decide +kernel
theorem dX3_isCell_12 : decode cX3_isCell 12 = .ok (.invokestatic 42, 3) := by decide +kernel
theorem dX3_isCell_15 : decode cX3_isCell 15 = .ok (.ifCond .eq 7, 3) := by decide +kernel
theorem dX3_isCell_18 : decode cX3_isCell 18 = .ok (.iconst 1, 1) := by decide +kernel
theorem dX3_isCell_19 : decode cX3_isCell 19 = .ok (.goto 4, 3) := by decide +kernel
theorem dX3_isCell_22 : decode cX3_isCell 22 = .ok (.iconst 0, 1) := by decide +kernel
theorem dX3_isCell_23 : decode cX3_isCell 23 = .ok (.ireturn, 1) := by decide +kernel
set_option maxRecDepth 20000 in
theorem ggX3_isBox_X3_isCell : GoodIn wsX3_isBox wsX3_isCell := goodIn_r _ [4, 5, 6, 3, 7] (by decide +kernel) (by decide +kernel)
set_option maxRecDepth 20000 in
theorem gX3_isBox_X3_isCell : GoodIn wsX3_isBox (va_wsS RX3 62 yX3_isCell wsX3_isCell) := goodIn_app (goodIn_of _ (by decide +kernel)) ggX3_isBox_X3_isCell
set_option maxRecDepth 20000 in
theorem ggX3_isBox_X3_isBetween : GoodIn wsX3_isBox wsX3_isBetween := goodIn_r _ [10] (by decide +kernel) (by decide +kernel)
set_option maxRecDepth 20000 in
theorem gX3_isBox_X3_isBetween : GoodIn wsX3_isBox (va_wsS RX3 58 yX3_isBetween wsX3_isBetween) := goodIn_app (goodIn_of _ (by decide +kernel)) ggX3_isBox_X3_isBetween
theorem dX3_isBox_0 : decode cX3_isBox 0 = .ok (.iload_n 0, 1) := by decide +kernel
theorem dX3_isBox_1 : decode cX3_isBox 1 = .ok (.iload_n 1, 1) := by decide +kernel
theorem dX3_isBox_2 : decode cX3_isBox 2 = .ok (.invokestatic 62, 3) := by decide +kernel
theorem dX3_isBox_5 : decode cX3_isBox 5 = .ok (.ifCond .eq 31, 3) := by decide +kernel
theorem dX3_isBox_8 : decode cX3_isBox 8 = .ok (.iload_n 2, 1) := by decide +kernel
theorem dX3_isBox_9 : decode cX3_isBox 9 = .ok (.iconst 1, 1) := by decide +kernel
theorem dX3_isBox_10 : decode cX3_isBox 10 = .ok (.bipush 16, 2) := by decide +kernel
theorem dX3_isBox_12 : decode cX3_isBox 12 = .ok (.iload_n 0, 1) := by decide +kernel
theorem dX3_isBox_13 : decode cX3_isBox 13 = .ok (.isub, 1) := by decide +kernel
theorem dX3_isBox_14 : decode cX3_isBox 14 = .ok (.invokestatic 58, 3) := by decide +kernel
theorem dX3_isBox_17 : decode cX3_isBox 17 = .ok (.ifCond .eq 19, 3) := by decide +kernel
theorem dX3_isBox_20 : decode cX3_isBox 20 = .ok (.iload_n 3, 1) := by decide +kernel
theorem dX3_isBox_21 : decode cX3_isBox 21 = .ok (.iconst 1, 1) := by decide +kernel
theorem dX3_isBox_22 : decode cX3_isBox 22 = .ok (.bipush 12, 2) := by decide +kernel
theorem dX3_isBox_24 : decode cX3_isBox 24 = .ok (.iload_n 1, 1) := by decide +kernel
theorem dX3_isBox_25 : decode cX3_isBox 25 = .ok (.isub, 1) := by decide +kernel
theorem dX3_isBox_26 : decode cX3_isBox 26 = .ok (.invokestatic 58, 3) := by decide +kernel
theorem dX3_isBox_29 : decode cX3_isBox 29 = .ok (.ifCond .eq 7, 3) := by decide +kernel
theorem dX3_isBox_32 : decode cX3_isBox 32 = .ok (.iconst 1, 1) := by decide +kernel
theorem dX3_isBox_33 : decode cX3_isBox 33 = .ok (.goto 4, 3) := by decide +kernel
theorem dX3_isBox_36 : decode cX3_isBox 36 = .ok (.iconst 0, 1) := by decide +kernel
theorem dX3_isBox_37 : decode cX3_isBox 37 = .ok (.ireturn, 1) := by decide +kernel
set_option maxRecDepth 20000 in
theorem ggX3_noteChanges_X2_cellsOf : GoodIn wsX3_noteChanges wsX2_cellsOf := goodIn_r _ [7, 8, 39] (by decide +kernel) (by decide +kernel)
set_option maxRecDepth 20000 in
theorem gX3_noteChanges_X2_cellsOf : GoodIn wsX3_noteChanges (wsV RX3 69 RX2 yX2_cellsOf wsX2_cellsOf) := goodIn_app (goodIn_of _ (by decide +kernel)) ggX3_noteChanges_X2_cellsOf
set_option maxRecDepth 20000 in
theorem ggX3_noteChanges_X3_countDifferent : GoodIn wsX3_noteChanges wsX3_countDifferent := goodIn_r _ [12, 13, 14, 11, 15, 16] (by decide +kernel) (by decide +kernel)
set_option maxRecDepth 20000 in
theorem gX3_noteChanges_X3_countDifferent : GoodIn wsX3_noteChanges (va_wsS RX3 118 yX3_countDifferent wsX3_countDifferent) := goodIn_app (goodIn_of _ (by decide +kernel)) ggX3_noteChanges_X3_countDifferent
set_option maxRecDepth 20000 in
theorem ggX3_noteChanges_X3_makeDirtyForAll : GoodIn wsX3_noteChanges wsX3_makeDirtyForAll := goodIn_r _ [20, 21, 22, 23, 24, 25, 26, 27, 28, 29, 30, 31, 32, 33, 34, 35, 36, 37, 38, 40, 41, 42, 43, 44, 45, 46, 47, 48] (by decide +kernel) (by decide +kernel)
set_option maxRecDepth 20000 in
theorem gX3_noteChanges_X3_makeDirtyForAll : GoodIn wsX3_noteChanges (wsV RX3 155 RX3 yX3_makeDirtyForAll wsX3_makeDirtyForAll) := goodIn_app (goodIn_of _ (by decide +kernel)) ggX3_noteChanges_X3_makeDirtyForAll
theorem dX3_noteChanges_0 : decode cX3_noteChanges 0 = .ok (.iconst 0, 1) := by decide +kernel
theorem dX3_noteChanges_1 : decode cX3_noteChanges 1 = .ok (.istore_n 1, 1) := by decide +kernel
theorem dX3_noteChanges_2 : decode cX3_noteChanges 2 = .ok (.iconst 0, 1) := by decide +kernel
theorem dX3_noteChanges_3 : decode cX3_noteChanges 3 = .ok (.istore_n 2, 1) := by decide +kernel
theorem dX3_noteChanges_4 : decode cX3_noteChanges 4 = .ok (.iload_n 2, 1) := by decide +kernel
theorem dX3_noteChanges_5 : decode cX3_noteChanges 5 = .ok (.bipush 12, 2) := by decide +kernel
theorem dX3_noteChanges_7 : decode cX3_noteChanges 7 = .ok (.if_icmp .ge 42, 3) := by decide +kernel
theorem dX3_noteChanges_10 : decode cX3_noteChanges 10 = .ok (.aload_n 0, 1) := by decide +kernel
theorem dX3_noteChanges_11 : decode cX3_noteChanges 11 = .ok (.getfield 16, 3) := by decide +kernel
theorem dX3_noteChanges_14 : decode cX3_noteChanges 14 = .ok (.iload_n 2, 1) := by decide +kernel
theorem dX3_noteChanges_15 : decode cX3_noteChanges 15 = .ok (.invokevirtual 69, 3) := by decide +kernel
theorem dX3_noteChanges_18 : decode cX3_noteChanges 18 = .ok (.aload_n 0, 1) := by decide +kernel
theorem dX3_noteChanges_19 : decode cX3_noteChanges 19 = .ok (.getfield 10, 3) := by decide +kernel
theorem dX3_noteChanges_22 : decode cX3_noteChanges 22 = .ok (.iload_n 2, 1) := by decide +kernel
theorem dX3_noteChanges_23 : decode cX3_noteChanges 23 = .ok (.invokevirtual 69, 3) := by decide +kernel
theorem dX3_noteChanges_26 : decode cX3_noteChanges 26 = .ok (.invokestatic 118, 3) := by decide +kernel
theorem dX3_noteChanges_29 : decode cX3_noteChanges 29 = .ok (.istore_n 3, 1) := by decide +kernel
theorem dX3_noteChanges_30 : decode cX3_noteChanges 30 = .ok (.iload_n 3, 1) := by decide +kernel
theorem dX3_noteChanges_31 : decode cX3_noteChanges 31 = .ok (.ifCond .le 8, 3) := by decide +kernel
theorem dX3_noteChanges_34 : decode cX3_noteChanges 34 = .ok (.aload_n 0, 1) := by decide +kernel
theorem dX3_noteChanges_35 : decode cX3_noteChanges 35 = .ok (.iload_n 2, 1) := by decide +kernel
theorem dX3_noteChanges_36 : decode cX3_noteChanges 36 = .ok (.invokevirtual 155, 3) := by decide +kernel
theorem dX3_noteChanges_39 : decode cX3_noteChanges 39 = .ok (.iload_n 1, 1) := by decide +kernel
theorem dX3_noteChanges_40 : decode cX3_noteChanges 40 = .ok (.iload_n 3, 1) := by decide +kernel
theorem dX3_noteChanges_41 : decode cX3_noteChanges 41 = .ok (.iadd, 1) := by decide +kernel
theorem dX3_noteChanges_42 : decode cX3_noteChanges 42 = .ok (.istore_n 1, 1) := by decide +kernel
theorem dX3_noteChanges_43 : decode cX3_noteChanges 43 = .ok (.iinc 2 1, 3) := by decide +kernel
theorem dX3_noteChanges_46 : decode cX3_noteChanges 46 = .ok (.goto (-42), 3) := by decide +kernel
theorem dX3_noteChanges_49 : decode cX3_noteChanges 49 = .ok (.iload_n 1, 1) := by decide +kernel
theorem dX3_noteChanges_50 : decode cX3_noteChanges 50 = .ok (.ireturn, 1) := by decide +kernel
set_option maxRecDepth 20000 in
theorem ggX3_makeDirtyForAll_X1_hasJoined : GoodIn wsX3_makeDirtyForAll wsX1_hasJoined := goodIn_r _ [6, 7, 19, 20, 21, 22, 23, 24, 25, 26, 27] (by decide +kernel) (by decide +kernel)
set_option maxRecDepth 20000 in
theorem gX3_makeDirtyForAll_X1_hasJoined : GoodIn wsX3_makeDirtyForAll (wsV RX3 80 RX1 yX1_hasJoined wsX1_hasJoined) := goodIn_app (goodIn_of _ (by decide +kernel)) ggX3_makeDirtyForAll_X1_hasJoined
set_option maxRecDepth 20000 in
theorem ggX3_makeDirtyForAll_X1_makeDirty : GoodIn wsX3_makeDirtyForAll wsX1_makeDirty := goodIn_r _ [11, 12, 13, 19, 20, 21, 22, 23, 24, 25, 26, 27] (by decide +kernel) (by decide +kernel)
set_option maxRecDepth 20000 in
theorem gX3_makeDirtyForAll_X1_makeDirty : GoodIn wsX3_makeDirtyForAll (wsV RX3 159 RX1 yX1_makeDirty wsX1_makeDirty) := goodIn_app (goodIn_of _ (by decide +kernel)) ggX3_makeDirtyForAll_X1_makeDirty
theorem dX3_makeDirtyForAll_0 : decode cX3_makeDirtyForAll 0 = .ok (.iconst 0, 1) := by decide +kernel
theorem dX3_makeDirtyForAll_1 : decode cX3_makeDirtyForAll 1 = .ok (.istore_n 2, 1) := by decide +kernel
theorem dX3_makeDirtyForAll_2 : decode cX3_makeDirtyForAll 2 = .ok (.iload_n 2, 1) := by decide +kernel
theorem dX3_makeDirtyForAll_3 : decode cX3_makeDirtyForAll 3 = .ok (.aload_n 0, 1) := by decide +kernel
theorem dX3_makeDirtyForAll_4 : decode cX3_makeDirtyForAll 4 = .ok (.getfield 21, 3) := by decide +kernel
theorem dX3_makeDirtyForAll_7 : decode cX3_makeDirtyForAll 7 = .ok (.arraylength, 1) := by decide +kernel
theorem dX3_makeDirtyForAll_8 : decode cX3_makeDirtyForAll 8 = .ok (.if_icmp .ge 31, 3) := by decide +kernel
theorem dX3_makeDirtyForAll_11 : decode cX3_makeDirtyForAll 11 = .ok (.aload_n 0, 1) := by decide +kernel
theorem dX3_makeDirtyForAll_12 : decode cX3_makeDirtyForAll 12 = .ok (.getfield 21, 3) := by decide +kernel
theorem dX3_makeDirtyForAll_15 : decode cX3_makeDirtyForAll 15 = .ok (.iload_n 2, 1) := by decide +kernel
theorem dX3_makeDirtyForAll_16 : decode cX3_makeDirtyForAll 16 = .ok (.aaload, 1) := by decide +kernel
theorem dX3_makeDirtyForAll_17 : decode cX3_makeDirtyForAll 17 = .ok (.invokevirtual 80, 3) := by decide +kernel
theorem dX3_makeDirtyForAll_20 : decode cX3_makeDirtyForAll 20 = .ok (.ifCond .eq 13, 3) := by decide +kernel
theorem dX3_makeDirtyForAll_23 : decode cX3_makeDirtyForAll 23 = .ok (.aload_n 0, 1) := by decide +kernel
theorem dX3_makeDirtyForAll_24 : decode cX3_makeDirtyForAll 24 = .ok (.getfield 21, 3) := by decide +kernel
theorem dX3_makeDirtyForAll_27 : decode cX3_makeDirtyForAll 27 = .ok (.iload_n 2, 1) := by decide +kernel
theorem dX3_makeDirtyForAll_28 : decode cX3_makeDirtyForAll 28 = .ok (.aaload, 1) := by decide +kernel
theorem dX3_makeDirtyForAll_29 : decode cX3_makeDirtyForAll 29 = .ok (.iload_n 1, 1) := by decide +kernel
theorem dX3_makeDirtyForAll_30 : decode cX3_makeDirtyForAll 30 = .ok (.invokevirtual 159, 3) := by decide +kernel
theorem dX3_makeDirtyForAll_33 : decode cX3_makeDirtyForAll 33 = .ok (.iinc 2 1, 3) := by decide +kernel
theorem dX3_makeDirtyForAll_36 : decode cX3_makeDirtyForAll 36 = .ok (.goto (-34), 3) := by decide +kernel
theorem dX3_makeDirtyForAll_39 : decode cX3_makeDirtyForAll 39 = .ok (.return_, 1) := by decide +kernel
set_option maxRecDepth 20000 in
theorem ggX3_writeMessage_X1_dirtyCount : GoodIn wsX3_writeMessage wsX1_dirtyCount := goodIn_r _ [8, 9, 88, 89, 90, 91, 92, 93, 94, 95, 96] (by decide +kernel) (by decide +kernel)
set_option maxRecDepth 20000 in
theorem gX3_writeMessage_X1_dirtyCount : GoodIn wsX3_writeMessage (wsV RX3 98 RX1 yX1_dirtyCount wsX1_dirtyCount) := goodIn_app (goodIn_of _ (by decide +kernel)) ggX3_writeMessage_X1_dirtyCount
set_option maxRecDepth 20000 in
theorem ggX3_writeMessage_X1_dirtyTileAt : GoodIn wsX3_writeMessage wsX1_dirtyTileAt := goodIn_r _ [13, 14, 88, 89, 90, 91, 92, 93, 94, 95, 96] (by decide +kernel) (by decide +kernel)
set_option maxRecDepth 20000 in
theorem gX3_writeMessage_X1_dirtyTileAt : GoodIn wsX3_writeMessage (wsV RX3 129 RX1 yX1_dirtyTileAt wsX1_dirtyTileAt) := goodIn_app (goodIn_of _ (by decide +kernel)) ggX3_writeMessage_X1_dirtyTileAt
set_option maxRecDepth 20000 in
theorem ggX3_writeMessage_X2_cellsOf : GoodIn wsX3_writeMessage wsX2_cellsOf := goodIn_r _ [19, 20, 97] (by decide +kernel) (by decide +kernel)
set_option maxRecDepth 20000 in
theorem gX3_writeMessage_X2_cellsOf : GoodIn wsX3_writeMessage (wsV RX3 69 RX2 yX2_cellsOf wsX2_cellsOf) := goodIn_app (goodIn_of _ (by decide +kernel)) ggX3_writeMessage_X2_cellsOf
set_option maxRecDepth 20000 in
theorem ggX3_writeMessage_X1_serverCache : GoodIn wsX3_writeMessage wsX1_serverCache := goodIn_r _ [24, 25, 88, 89, 90, 91, 92, 93, 94, 95, 96] (by decide +kernel) (by decide +kernel)
set_option maxRecDepth 20000 in
theorem gX3_writeMessage_X1_serverCache : GoodIn wsX3_writeMessage (wsV RX3 87 RX1 yX1_serverCache wsX1_serverCache) := goodIn_app (goodIn_of _ (by decide +kernel)) ggX3_writeMessage_X1_serverCache
set_option maxRecDepth 20000 in
theorem ggX3_writeMessage_X3_cheapestWriting : GoodIn wsX3_writeMessage wsX3_cheapestWriting := goodIn_r _ [29, 30, 31, 28, 32, 33, 34, 35, 36, 37, 38, 39, 40, 41, 42, 43, 44, 45, 46, 47, 48, 49, 50, 51, 52, 53, 54, 55, 56, 57, 58, 59, 60, 61, 62, 63, 98, 99] (by decide +kernel) (by decide +kernel)
set_option maxRecDepth 20000 in
theorem gX3_writeMessage_X3_cheapestWriting : GoodIn wsX3_writeMessage (va_wsS RX3 91 yX3_cheapestWriting wsX3_cheapestWriting) := goodIn_app (goodIn_of _ (by decide +kernel)) ggX3_writeMessage_X3_cheapestWriting
set_option maxRecDepth 20000 in
theorem ggX3_writeMessage_X1_addToMessage : GoodIn wsX3_writeMessage wsX1_addToMessage := goodIn_r _ [67, 68, 69, 70, 25, 71, 72, 73, 36, 74, 38, 75, 76, 77, 78, 43, 39, 40, 41, 42, 88, 89, 90, 91, 92, 93, 94, 95, 96, 98, 99] (by decide +kernel) (by decide +kernel)
set_option maxRecDepth 20000 in
theorem gX3_writeMessage_X1_addToMessage : GoodIn wsX3_writeMessage (wsV RX3 162 RX1 yX1_addToMessage wsX1_addToMessage) := goodIn_app (goodIn_of _ (by decide +kernel)) ggX3_writeMessage_X1_addToMessage
set_option maxRecDepth 20000 in
theorem ggX3_writeMessage_X1_cleanTilesOfMessage : GoodIn wsX3_writeMessage wsX1_cleanTilesOfMessage := goodIn_r _ [82, 68, 9, 14, 88, 89, 90, 91, 92, 93, 94, 95, 96] (by decide +kernel) (by decide +kernel)
set_option maxRecDepth 20000 in
theorem gX3_writeMessage_X1_cleanTilesOfMessage : GoodIn wsX3_writeMessage (wsV RX3 166 RX1 yX1_cleanTilesOfMessage wsX1_cleanTilesOfMessage) := goodIn_app (goodIn_of _ (by decide +kernel)) ggX3_writeMessage_X1_cleanTilesOfMessage
theorem dX3_writeMessage_0 : decode cX3_writeMessage 0 = .ok (.iload_n 2, 1) := by decide +kernel
theorem dX3_writeMessage_1 : decode cX3_writeMessage 1 = .ok (.istore_n 3, 1) := by decide +kernel
theorem dX3_writeMessage_2 : decode cX3_writeMessage 2 = .ok (.aload_n 1, 1) := by decide +kernel
theorem dX3_writeMessage_3 : decode cX3_writeMessage 3 = .ok (.invokevirtual 98, 3) := by decide +kernel
theorem dX3_writeMessage_6 : decode cX3_writeMessage 6 = .ok (.istore 4, 2) := by decide +kernel
theorem dX3_writeMessage_8 : decode cX3_writeMessage 8 = .ok (.iconst 0, 1) := by decide +kernel
theorem dX3_writeMessage_9 : decode cX3_writeMessage 9 = .ok (.istore 5, 2) := by decide +kernel
theorem dX3_writeMessage_11 : decode cX3_writeMessage 11 = .ok (.iload 5, 2) := by decide +kernel
theorem dX3_writeMessage_13 : decode cX3_writeMessage 13 = .ok (.iload 4, 2) := by decide +kernel
theorem dX3_writeMessage_15 : decode cX3_writeMessage 15 = .ok (.if_icmp .ge 82, 3) := by decide +kernel
theorem dX3_writeMessage_18 : decode cX3_writeMessage 18 = .ok (.aload_n 1, 1) := by decide +kernel
theorem dX3_writeMessage_19 : decode cX3_writeMessage 19 = .ok (.iload 5, 2) := by decide +kernel
theorem dX3_writeMessage_21 : decode cX3_writeMessage 21 = .ok (.invokevirtual 129, 3) := by decide +kernel
theorem dX3_writeMessage_24 : decode cX3_writeMessage 24 = .ok (.istore 6, 2) := by decide +kernel
theorem dX3_writeMessage_26 : decode cX3_writeMessage 26 = .ok (.aload_n 0, 1) := by decide +kernel
theorem dX3_writeMessage_27 : decode cX3_writeMessage 27 = .ok (.getfield 10, 3) := by decide +kernel
theorem dX3_writeMessage_30 : decode cX3_writeMessage 30 = .ok (.iload 6, 2) := by decide +kernel
theorem dX3_writeMessage_32 : decode cX3_writeMessage 32 = .ok (.invokevirtual 69, 3) := by decide +kernel
theorem dX3_writeMessage_35 : decode cX3_writeMessage 35 = .ok (.lstore 7, 2) := by decide +kernel
theorem dX3_writeMessage_37 : decode cX3_writeMessage 37 = .ok (.lload 7, 2) := by decide +kernel
theorem dX3_writeMessage_39 : decode cX3_writeMessage 39 = .ok (.aload_n 1, 1) := by decide +kernel
theorem dX3_writeMessage_40 : decode cX3_writeMessage 40 = .ok (.invokevirtual 87, 3) := by decide +kernel
theorem dX3_writeMessage_43 : decode cX3_writeMessage 43 = .ok (.invokestatic 91, 3) := by decide +kernel
theorem dX3_writeMessage_46 : decode cX3_writeMessage 46 = .ok (.istore 9, 2) := by decide +kernel
theorem dX3_writeMessage_48 : decode cX3_writeMessage 48 = .ok (.iload 9, 2) := by decide +kernel
theorem dX3_writeMessage_50 : decode cX3_writeMessage 50 = .ok (.bipush 100, 2) := by decide +kernel
theorem dX3_writeMessage_52 : decode cX3_writeMessage 52 = .ok (.irem, 1) := by decide +kernel
theorem dX3_writeMessage_53 : decode cX3_writeMessage 53 = .ok (.istore 10, 2) := by decide +kernel
theorem dX3_writeMessage_55 : decode cX3_writeMessage 55 = .ok (.iload 10, 2) := by decide +kernel
theorem dX3_writeMessage_57 : decode cX3_writeMessage 57 = .ok (.iload_n 3, 1) := by decide +kernel
theorem dX3_writeMessage_58 : decode cX3_writeMessage 58 = .ok (.if_icmp .le 6, 3) := by decide +kernel
theorem dX3_writeMessage_61 : decode cX3_writeMessage 61 = .ok (.goto 36, 3) := by decide +kernel
theorem dX3_writeMessage_64 : decode cX3_writeMessage 64 = .ok (.iload_n 3, 1) := by decide +kernel
theorem dX3_writeMessage_65 : decode cX3_writeMessage 65 = .ok (.iload 10, 2) := by decide +kernel
theorem dX3_writeMessage_67 : decode cX3_writeMessage 67 = .ok (.isub, 1) := by decide +kernel
theorem dX3_writeMessage_68 : decode cX3_writeMessage 68 = .ok (.istore_n 3, 1) := by decide +kernel
theorem dX3_writeMessage_69 : decode cX3_writeMessage 69 = .ok (.aload_n 1, 1) := by decide +kernel
theorem dX3_writeMessage_70 : decode cX3_writeMessage 70 = .ok (.iload 6, 2) := by decide +kernel
theorem dX3_writeMessage_72 : decode cX3_writeMessage 72 = .ok (.lload 7, 2) := by decide +kernel
theorem dX3_writeMessage_74 : decode cX3_writeMessage 74 = .ok (.invokevirtual 162, 3) := by decide +kernel
theorem dX3_writeMessage_77 : decode cX3_writeMessage 77 = .ok (.aload_n 0, 1) := by decide +kernel
theorem dX3_writeMessage_78 : decode cX3_writeMessage 78 = .ok (.getfield 25, 3) := by decide +kernel
theorem dX3_writeMessage_81 : decode cX3_writeMessage 81 = .ok (.iload 9, 2) := by decide +kernel
theorem dX3_writeMessage_83 : decode cX3_writeMessage 83 = .ok (.bipush 100, 2) := by decide +kernel
theorem dX3_writeMessage_85 : decode cX3_writeMessage 85 = .ok (.idiv, 1) := by decide +kernel
theorem dX3_writeMessage_86 : decode cX3_writeMessage 86 = .ok (.dup2, 1) := by decide +kernel
theorem dX3_writeMessage_87 : decode cX3_writeMessage 87 = .ok (.iaload, 1) := by decide +kernel
theorem dX3_writeMessage_88 : decode cX3_writeMessage 88 = .ok (.iconst 1, 1) := by decide +kernel
theorem dX3_writeMessage_89 : decode cX3_writeMessage 89 = .ok (.iadd, 1) := by decide +kernel
theorem dX3_writeMessage_90 : decode cX3_writeMessage 90 = .ok (.iastore, 1) := by decide +kernel
theorem dX3_writeMessage_91 : decode cX3_writeMessage 91 = .ok (.iinc 5 1, 3) := by decide +kernel
theorem dX3_writeMessage_94 : decode cX3_writeMessage 94 = .ok (.goto (-83), 3) := by decide +kernel
theorem dX3_writeMessage_97 : decode cX3_writeMessage 97 = .ok (.aload_n 0, 1) := by decide +kernel
theorem dX3_writeMessage_98 : decode cX3_writeMessage 98 = .ok (.dup, 1) := by decide +kernel
theorem dX3_writeMessage_99 : decode cX3_writeMessage 99 = .ok (.getfield 29, 3) := by decide +kernel
theorem dX3_writeMessage_102 : decode cX3_writeMessage 102 = .ok (.iload_n 2, 1) := by decide +kernel
theorem dX3_writeMessage_103 : decode cX3_writeMessage 103 = .ok (.iload_n 3, 1) := by decide +kernel
theorem dX3_writeMessage_104 : decode cX3_writeMessage 104 = .ok (.isub, 1) := by decide +kernel
theorem dX3_writeMessage_105 : decode cX3_writeMessage 105 = .ok (.iadd, 1) := by decide +kernel
theorem dX3_writeMessage_106 : decode cX3_writeMessage 106 = .ok (.putfield 29, 3) := by decide +kernel
theorem dX3_writeMessage_109 : decode cX3_writeMessage 109 = .ok (.aload_n 1, 1) := by decide +kernel
theorem dX3_writeMessage_110 : decode cX3_writeMessage 110 = .ok (.invokevirtual 166, 3) := by decide +kernel
theorem dX3_writeMessage_113 : decode cX3_writeMessage 113 = .ok (.return_, 1) := by decide +kernel
set_option maxRecDepth 20000 in
theorem ggX3_cheapestWriting_X3_unitsIn : GoodIn wsX3_cheapestWriting wsX3_unitsIn := goodIn_r _ [4, 5, 6, 7, 8, 9, 10, 11, 12, 13, 14, 15, 16, 17, 3, 18, 19, 20, 21, 22, 23, 24, 25, 26, 27, 28, 29, 30, 31, 32, 33, 34, 35, 36, 37] (by decide +kernel) (by decide +kernel)
set_option maxRecDepth 20000 in
theorem gX3_cheapestWriting_X3_unitsIn : GoodIn wsX3_cheapestWriting (va_wsS RX3 169 yX3_unitsIn wsX3_unitsIn) := goodIn_app (goodIn_of _ (by decide +kernel)) ggX3_cheapestWriting_X3_unitsIn
theorem dX3_cheapestWriting_0 : decode cX3_cheapestWriting 0 = .ok (.iconst 0, 1) := by decide +kernel
theorem dX3_cheapestWriting_1 : decode cX3_cheapestWriting 1 = .ok (.istore_n 3, 1) := by decide +kernel
theorem dX3_cheapestWriting_2 : decode cX3_cheapestWriting 2 = .ok (.bipush 99, 2) := by decide +kernel
theorem dX3_cheapestWriting_4 : decode cX3_cheapestWriting 4 = .ok (.istore 4, 2) := by decide +kernel
theorem dX3_cheapestWriting_6 : decode cX3_cheapestWriting 6 = .ok (.iconst 0, 1) := by decide +kernel
theorem dX3_cheapestWriting_7 : decode cX3_cheapestWriting 7 = .ok (.istore 5, 2) := by decide +kernel
theorem dX3_cheapestWriting_9 : decode cX3_cheapestWriting 9 = .ok (.iload 5, 2) := by decide +kernel
theorem dX3_cheapestWriting_11 : decode cX3_cheapestWriting 11 = .ok (.iconst 5, 1) := by decide +kernel
theorem dX3_cheapestWriting_12 : decode cX3_cheapestWriting 12 = .ok (.if_icmp .ge 32, 3) := by decide +kernel
theorem dX3_cheapestWriting_15 : decode cX3_cheapestWriting 15 = .ok (.iload 5, 2) := by decide +kernel
theorem dX3_cheapestWriting_17 : decode cX3_cheapestWriting 17 = .ok (.lload_n 0, 1) := by decide +kernel
theorem dX3_cheapestWriting_18 : decode cX3_cheapestWriting 18 = .ok (.aload_n 2, 1) := by decide +kernel
theorem dX3_cheapestWriting_19 : decode cX3_cheapestWriting 19 = .ok (.invokestatic 169, 3) := by decide +kernel
theorem dX3_cheapestWriting_22 : decode cX3_cheapestWriting 22 = .ok (.istore 6, 2) := by decide +kernel
theorem dX3_cheapestWriting_24 : decode cX3_cheapestWriting 24 = .ok (.iload 6, 2) := by decide +kernel
theorem dX3_cheapestWriting_26 : decode cX3_cheapestWriting 26 = .ok (.iload 4, 2) := by decide +kernel
theorem dX3_cheapestWriting_28 : decode cX3_cheapestWriting 28 = .ok (.if_icmp .ge 10, 3) := by decide +kernel
theorem dX3_cheapestWriting_31 : decode cX3_cheapestWriting 31 = .ok (.iload 5, 2) := by decide +kernel
theorem dX3_cheapestWriting_33 : decode cX3_cheapestWriting 33 = .ok (.istore_n 3, 1) := by decide +kernel
theorem dX3_cheapestWriting_34 : decode cX3_cheapestWriting 34 = .ok (.iload 6, 2) := by decide +kernel
theorem dX3_cheapestWriting_36 : decode cX3_cheapestWriting 36 = .ok (.istore 4, 2) := by decide +kernel
theorem dX3_cheapestWriting_38 : decode cX3_cheapestWriting 38 = .ok (.iinc 5 1, 3) := by decide +kernel
theorem dX3_cheapestWriting_41 : decode cX3_cheapestWriting 41 = .ok (.goto (-32), 3) := by decide +kernel
theorem dX3_cheapestWriting_44 : decode cX3_cheapestWriting 44 = .ok (.bipush 100, 2) := by decide +kernel
theorem dX3_cheapestWriting_46 : decode cX3_cheapestWriting 46 = .ok (.iload_n 3, 1) := by decide +kernel
theorem dX3_cheapestWriting_47 : decode cX3_cheapestWriting 47 = .ok (.imul, 1) := by decide +kernel
theorem dX3_cheapestWriting_48 : decode cX3_cheapestWriting 48 = .ok (.iload 4, 2) := by decide +kernel
theorem dX3_cheapestWriting_50 : decode cX3_cheapestWriting 50 = .ok (.iadd, 1) := by decide +kernel
theorem dX3_cheapestWriting_51 : decode cX3_cheapestWriting 51 = .ok (.ireturn, 1) := by decide +kernel
set_option maxRecDepth 20000 in
theorem ggX3_unitsIn_X0_holds : GoodIn wsX3_unitsIn wsX0_holds := goodIn_r _ [5, 6, 7, 8, 9, 4, 10, 11, 33, 34] (by decide +kernel) (by decide +kernel)
set_option maxRecDepth 20000 in
theorem gX3_unitsIn_X0_holds : GoodIn wsX3_unitsIn (wsV RX3 173 RX0 yX0_holds wsX0_holds) := goodIn_app (goodIn_of _ (by decide +kernel)) ggX3_unitsIn_X0_holds
set_option maxRecDepth 20000 in
theorem ggX3_unitsIn_X3_countColours : GoodIn wsX3_unitsIn wsX3_countColours := goodIn_r _ [15, 16, 17, 14, 18, 19, 20, 21, 22, 23, 24, 25, 26] (by decide +kernel) (by decide +kernel)
set_option maxRecDepth 20000 in
theorem gX3_unitsIn_X3_countColours : GoodIn wsX3_unitsIn (va_wsS RX3 73 yX3_countColours wsX3_countColours) := goodIn_app (goodIn_of _ (by decide +kernel)) ggX3_unitsIn_X3_countColours
set_option maxRecDepth 20000 in
theorem ggX3_unitsIn_X3_unitsByColours : GoodIn wsX3_unitsIn wsX3_unitsByColours := goodIn_r _ [29] (by decide +kernel) (by decide +kernel)
set_option maxRecDepth 20000 in
theorem gX3_unitsIn_X3_unitsByColours : GoodIn wsX3_unitsIn (va_wsS RX3 177 yX3_unitsByColours wsX3_unitsByColours) := goodIn_app (goodIn_of _ (by decide +kernel)) ggX3_unitsIn_X3_unitsByColours
set_option maxRecDepth 20000 in
theorem ggX3_unitsIn_X3_countRuns : GoodIn wsX3_unitsIn wsX3_countRuns := goodIn_r _ [32, 16, 17, 14, 18, 19] (by decide +kernel) (by decide +kernel)
set_option maxRecDepth 20000 in
theorem gX3_unitsIn_X3_countRuns : GoodIn wsX3_unitsIn (va_wsS RX3 77 yX3_countRuns wsX3_countRuns) := goodIn_app (goodIn_of _ (by decide +kernel)) ggX3_unitsIn_X3_countRuns
theorem dX3_unitsIn_0 : decode cX3_unitsIn 0 = .ok (.iload_n 0, 1) := by decide +kernel
theorem dX3_unitsIn_1 : decode cX3_unitsIn 1 = .ok (.tableswitch 78 0 3 #[31, 46, 61, 69], 31) := by decide +kernel
theorem dX3_unitsIn_32 : decode cX3_unitsIn 32 = .ok (.aload_n 3, 1) := by decide +kernel
theorem dX3_unitsIn_33 : decode cX3_unitsIn 33 = .ok (.lload_n 1, 1) := by decide +kernel
theorem dX3_unitsIn_34 : decode cX3_unitsIn 34 = .ok (.invokevirtual 173, 3) := by decide +kernel
theorem dX3_unitsIn_37 : decode cX3_unitsIn 37 = .ok (.ifCond .eq 7, 3) := by decide +kernel
theorem dX3_unitsIn_40 : decode cX3_unitsIn 40 = .ok (.iconst 2, 1) := by decide +kernel
theorem dX3_unitsIn_41 : decode cX3_unitsIn 41 = .ok (.goto 5, 3) := by decide +kernel
theorem dX3_unitsIn_44 : decode cX3_unitsIn 44 = .ok (.bipush 99, 2) := by decide +kernel
theorem dX3_unitsIn_46 : decode cX3_unitsIn 46 = .ok (.ireturn, 1) := by decide +kernel
theorem dX3_unitsIn_47 : decode cX3_unitsIn 47 = .ok (.lload_n 1, 1) := by decide +kernel
theorem dX3_unitsIn_48 : decode cX3_unitsIn 48 = .ok (.invokestatic 73, 3) := by decide +kernel
theorem dX3_unitsIn_51 : decode cX3_unitsIn 51 = .ok (.iconst 1, 1) := by decide +kernel
theorem dX3_unitsIn_52 : decode cX3_unitsIn 52 = .ok (.if_icmp .ne 7, 3) := by decide +kernel
theorem dX3_unitsIn_55 : decode cX3_unitsIn 55 = .ok (.iconst 3, 1) := by decide +kernel
theorem dX3_unitsIn_56 : decode cX3_unitsIn 56 = .ok (.goto 5, 3) := by decide +kernel
theorem dX3_unitsIn_59 : decode cX3_unitsIn 59 = .ok (.bipush 99, 2) := by decide +kernel
theorem dX3_unitsIn_61 : decode cX3_unitsIn 61 = .ok (.ireturn, 1) := by decide +kernel
theorem dX3_unitsIn_62 : decode cX3_unitsIn 62 = .ok (.lload_n 1, 1) := by decide +kernel
theorem dX3_unitsIn_63 : decode cX3_unitsIn 63 = .ok (.invokestatic 73, 3) := by decide +kernel
theorem dX3_unitsIn_66 : decode cX3_unitsIn 66 = .ok (.invokestatic 177, 3) := by decide +kernel
theorem dX3_unitsIn_69 : decode cX3_unitsIn 69 = .ok (.ireturn, 1) := by decide +kernel
theorem dX3_unitsIn_70 : decode cX3_unitsIn 70 = .ok (.iconst 1, 1) := by decide +kernel
theorem dX3_unitsIn_71 : decode cX3_unitsIn 71 = .ok (.iconst 2, 1) := by decide +kernel
theorem dX3_unitsIn_72 : decode cX3_unitsIn 72 = .ok (.lload_n 1, 1) := by decide +kernel
theorem dX3_unitsIn_73 : decode cX3_unitsIn 73 = .ok (.invokestatic 77, 3) := by decide +kernel
theorem dX3_unitsIn_76 : decode cX3_unitsIn 76 = .ok (.imul, 1) := by decide +kernel
theorem dX3_unitsIn_77 : decode cX3_unitsIn 77 = .ok (.iadd, 1) := by decide +kernel
theorem dX3_unitsIn_78 : decode cX3_unitsIn 78 = .ok (.ireturn, 1) := by decide +kernel
theorem dX3_unitsIn_79 : decode cX3_unitsIn 79 = .ok (.bipush 17, 2) := by decide +kernel
theorem dX3_unitsIn_81 : decode cX3_unitsIn 81 = .ok (.ireturn, 1) := by decide +kernel
theorem dX3_unitsByColours_0 : decode cX3_unitsByColours 0 = .ok (.iload_n 0, 1) := by decide +kernel
theorem dX3_unitsByColours_1 : decode cX3_unitsByColours 1 = .ok (.tableswitch 36 2 4 #[27, 30, 33], 27) := by decide +kernel
theorem dX3_unitsByColours_28 : decode cX3_unitsByColours 28 = .ok (.bipush 10, 2) := by decide +kernel
theorem dX3_unitsByColours_30 : decode cX3_unitsByColours 30 = .ok (.ireturn, 1) := by decide +kernel
theorem dX3_unitsByColours_31 : decode cX3_unitsByColours 31 = .ok (.bipush 15, 2) := by decide +kernel
theorem dX3_unitsByColours_33 : decode cX3_unitsByColours 33 = .ok (.ireturn, 1) := by decide +kernel
theorem dX3_unitsByColours_34 : decode cX3_unitsByColours 34 = .ok (.bipush 16, 2) := by decide +kernel
theorem dX3_unitsByColours_36 : decode cX3_unitsByColours 36 = .ok (.ireturn, 1) := by decide +kernel
theorem dX3_unitsByColours_37 : decode cX3_unitsByColours 37 = .ok (.bipush 99, 2) := by decide +kernel
theorem dX3_unitsByColours_39 : decode cX3_unitsByColours 39 = .ok (.ireturn, 1) := by decide +kernel
theorem dX3_cellAt_0 : decode cX3_cellAt 0 = .ok (.lload_n 0, 1) := by decide +kernel
theorem dX3_cellAt_1 : decode cX3_cellAt 1 = .ok (.iconst 4, 1) := by decide +kernel
theorem dX3_cellAt_2 : decode cX3_cellAt 2 = .ok (.iload_n 2, 1) := by decide +kernel
theorem dX3_cellAt_3 : decode cX3_cellAt 3 = .ok (.imul, 1) := by decide +kernel
theorem dX3_cellAt_4 : decode cX3_cellAt 4 = .ok (.lushr, 1) := by decide +kernel
theorem dX3_cellAt_5 : decode cX3_cellAt 5 = .ok (.ldc2_w 180, 3) := by decide +kernel
theorem dX3_cellAt_8 : decode cX3_cellAt 8 = .ok (.land, 1) := by decide +kernel
theorem dX3_cellAt_9 : decode cX3_cellAt 9 = .ok (.l2i, 1) := by decide +kernel
theorem dX3_cellAt_10 : decode cX3_cellAt 10 = .ok (.ireturn, 1) := by decide +kernel
set_option maxRecDepth 20000 in
theorem ggX3_countColours_X3_cellAt : GoodIn wsX3_countColours wsX3_cellAt := goodIn_r _ [4, 5] (by decide +kernel) (by decide +kernel)
set_option maxRecDepth 20000 in
theorem gX3_countColours_X3_cellAt : GoodIn wsX3_countColours (va_wsS RX3 182 yX3_cellAt wsX3_cellAt) := goodIn_app (goodIn_of _ (by decide +kernel)) ggX3_countColours_X3_cellAt
set_option maxRecDepth 20000 in
theorem ggX3_countColours_J6_bitCount_0f7a4 : GoodIn wsX3_countColours wsJ6_bitCount_0f7a4 := goodIn_r _ [9, 10, 11, 12] (by decide +kernel) (by decide +kernel)
set_option maxRecDepth 20000 in
theorem gX3_countColours_J6_bitCount_0f7a4 : GoodIn wsX3_countColours (va_wsS RX3 186 yJ6_bitCount_0f7a4 wsJ6_bitCount_0f7a4) := goodIn_app (goodIn_of _ (by decide +kernel)) ggX3_countColours_J6_bitCount_0f7a4
theorem dX3_countColours_0 : decode cX3_countColours 0 = .ok (.iconst 0, 1) := by decide +kernel
theorem dX3_countColours_1 : decode cX3_countColours 1 = .ok (.istore_n 2, 1) := by decide +kernel
theorem dX3_countColours_2 : decode cX3_countColours 2 = .ok (.iconst 0, 1) := by decide +kernel
theorem dX3_countColours_3 : decode cX3_countColours 3 = .ok (.istore_n 3, 1) := by decide +kernel
theorem dX3_countColours_4 : decode cX3_countColours 4 = .ok (.iload_n 3, 1) := by decide +kernel
theorem dX3_countColours_5 : decode cX3_countColours 5 = .ok (.bipush 16, 2) := by decide +kernel
theorem dX3_countColours_7 : decode cX3_countColours 7 = .ok (.if_icmp .ge 19, 3) := by decide +kernel
theorem dX3_countColours_10 : decode cX3_countColours 10 = .ok (.iload_n 2, 1) := by decide +kernel
theorem dX3_countColours_11 : decode cX3_countColours 11 = .ok (.iconst 1, 1) := by decide +kernel
theorem dX3_countColours_12 : decode cX3_countColours 12 = .ok (.lload_n 0, 1) := by decide +kernel
theorem dX3_countColours_13 : decode cX3_countColours 13 = .ok (.iload_n 3, 1) := by decide +kernel
theorem dX3_countColours_14 : decode cX3_countColours 14 = .ok (.invokestatic 182, 3) := by decide +kernel
theorem dX3_countColours_17 : decode cX3_countColours 17 = .ok (.ishl, 1) := by decide +kernel
theorem dX3_countColours_18 : decode cX3_countColours 18 = .ok (.ior, 1) := by decide +kernel
theorem dX3_countColours_19 : decode cX3_countColours 19 = .ok (.istore_n 2, 1) := by decide +kernel
theorem dX3_countColours_20 : decode cX3_countColours 20 = .ok (.iinc 3 1, 3) := by decide +kernel
theorem dX3_countColours_23 : decode cX3_countColours 23 = .ok (.goto (-19), 3) := by decide +kernel
theorem dX3_countColours_26 : decode cX3_countColours 26 = .ok (.iload_n 2, 1) := by decide +kernel
theorem dX3_countColours_27 : decode cX3_countColours 27 = .ok (.invokestatic 186, 3) := by decide +kernel
theorem dX3_countColours_30 : decode cX3_countColours 30 = .ok (.ireturn, 1) := by decide +kernel
set_option maxRecDepth 20000 in
theorem ggX3_countRuns_X3_cellAt : GoodIn wsX3_countRuns wsX3_cellAt := goodIn_r _ [4, 5] (by decide +kernel) (by decide +kernel)
set_option maxRecDepth 20000 in
theorem gX3_countRuns_X3_cellAt : GoodIn wsX3_countRuns (va_wsS RX3 182 yX3_cellAt wsX3_cellAt) := goodIn_app (goodIn_of _ (by decide +kernel)) ggX3_countRuns_X3_cellAt
theorem dX3_countRuns_0 : decode cX3_countRuns 0 = .ok (.iconst 1, 1) := by decide +kernel
theorem dX3_countRuns_1 : decode cX3_countRuns 1 = .ok (.istore_n 2, 1) := by decide +kernel
theorem dX3_countRuns_2 : decode cX3_countRuns 2 = .ok (.iconst 1, 1) := by decide +kernel
theorem dX3_countRuns_3 : decode cX3_countRuns 3 = .ok (.istore_n 3, 1) := by decide +kernel
theorem dX3_countRuns_4 : decode cX3_countRuns 4 = .ok (.iload_n 3, 1) := by decide +kernel
theorem dX3_countRuns_5 : decode cX3_countRuns 5 = .ok (.bipush 16, 2) := by decide +kernel
theorem dX3_countRuns_7 : decode cX3_countRuns 7 = .ok (.if_icmp .ge 27, 3) := by decide +kernel
theorem dX3_countRuns_10 : decode cX3_countRuns 10 = .ok (.lload_n 0, 1) := by decide +kernel
theorem dX3_countRuns_11 : decode cX3_countRuns 11 = .ok (.iload_n 3, 1) := by decide +kernel
theorem dX3_countRuns_12 : decode cX3_countRuns 12 = .ok (.invokestatic 182, 3) := by decide +kernel
theorem dX3_countRuns_15 : decode cX3_countRuns 15 = .ok (.lload_n 0, 1) := by decide +kernel
theorem dX3_countRuns_16 : decode cX3_countRuns 16 = .ok (.iload_n 3, 1) := by decide +kernel
theorem dX3_countRuns_17 : decode cX3_countRuns 17 = .ok (.iconst 1, 1) := by decide +kernel
theorem dX3_countRuns_18 : decode cX3_countRuns 18 = .ok (.isub, 1) := by decide +kernel
theorem dX3_countRuns_19 : decode cX3_countRuns 19 = .ok (.invokestatic 182, 3) := by decide +kernel
theorem dX3_countRuns_22 : decode cX3_countRuns 22 = .ok (.if_icmp .eq 6, 3) := by decide +kernel
theorem dX3_countRuns_25 : decode cX3_countRuns 25 = .ok (.iinc 2 1, 3) := by decide +kernel
theorem dX3_countRuns_28 : decode cX3_countRuns 28 = .ok (.iinc 3 1, 3) := by decide +kernel
theorem dX3_countRuns_31 : decode cX3_countRuns 31 = .ok (.goto (-27), 3) := by decide +kernel
theorem dX3_countRuns_34 : decode cX3_countRuns 34 = .ok (.iload_n 2, 1) := by decide +kernel
theorem dX3_countRuns_35 : decode cX3_countRuns 35 = .ok (.ireturn, 1) := by decide +kernel
set_option maxRecDepth 20000 in
theorem ggX3_countDifferent_X3_cellAt : GoodIn wsX3_countDifferent wsX3_cellAt := goodIn_r _ [4, 5] (by decide +kernel) (by decide +kernel)
set_option maxRecDepth 20000 in
theorem gX3_countDifferent_X3_cellAt : GoodIn wsX3_countDifferent (va_wsS RX3 182 yX3_cellAt wsX3_cellAt) := goodIn_app (goodIn_of _ (by decide +kernel)) ggX3_countDifferent_X3_cellAt
theorem dX3_countDifferent_0 : decode cX3_countDifferent 0 = .ok (.iconst 0, 1) := by decide +kernel
theorem dX3_countDifferent_1 : decode cX3_countDifferent 1 = .ok (.istore 4, 2) := by decide +kernel
theorem dX3_countDifferent_3 : decode cX3_countDifferent 3 = .ok (.iconst 0, 1) := by decide +kernel
theorem dX3_countDifferent_4 : decode cX3_countDifferent 4 = .ok (.istore 5, 2) := by decide +kernel
theorem dX3_countDifferent_6 : decode cX3_countDifferent 6 = .ok (.iload 5, 2) := by decide +kernel
theorem dX3_countDifferent_8 : decode cX3_countDifferent 8 = .ok (.bipush 16, 2) := by decide +kernel
theorem dX3_countDifferent_10 : decode cX3_countDifferent 10 = .ok (.if_icmp .ge 27, 3) := by decide +kernel
theorem dX3_countDifferent_13 : decode cX3_countDifferent 13 = .ok (.lload_n 0, 1) := by decide +kernel
theorem dX3_countDifferent_14 : decode cX3_countDifferent 14 = .ok (.iload 5, 2) := by decide +kernel
theorem dX3_countDifferent_16 : decode cX3_countDifferent 16 = .ok (.invokestatic 182, 3) := by decide +kernel
theorem dX3_countDifferent_19 : decode cX3_countDifferent 19 = .ok (.lload_n 2, 1) := by decide +kernel
theorem dX3_countDifferent_20 : decode cX3_countDifferent 20 = .ok (.iload 5, 2) := by decide +kernel
theorem dX3_countDifferent_22 : decode cX3_countDifferent 22 = .ok (.invokestatic 182, 3) := by decide +kernel
theorem dX3_countDifferent_25 : decode cX3_countDifferent 25 = .ok (.if_icmp .eq 6, 3) := by decide +kernel
theorem dX3_countDifferent_28 : decode cX3_countDifferent 28 = .ok (.iinc 4 1, 3) := by decide +kernel
theorem dX3_countDifferent_31 : decode cX3_countDifferent 31 = .ok (.iinc 5 1, 3) := by decide +kernel
theorem dX3_countDifferent_34 : decode cX3_countDifferent 34 = .ok (.goto (-28), 3) := by decide +kernel
theorem dX3_countDifferent_37 : decode cX3_countDifferent 37 = .ok (.iload 4, 2) := by decide +kernel
theorem dX3_countDifferent_39 : decode cX3_countDifferent 39 = .ok (.ireturn, 1) := by decide +kernel
