theorem dX0_init_0 : decode cX0_init 0 = .ok (.aload_n 0, 1) := by decide +kernel
theorem dX0_init_1 : decode cX0_init 1 = .ok (.invokespecial 3, 3) := by decide +kernel
theorem dX0_init_4 : decode cX0_init 4 = .ok (.aload_n 0, 1) := by decide +kernel
theorem dX0_init_5 : decode cX0_init 5 = .ok (.bipush 8, 2) := by decide +kernel
theorem dX0_init_7 : decode cX0_init 7 = .ok (.bipush 8, 2) := by decide +kernel
theorem dX0_init_9 : decode cX0_init 9 = .ok (.multianewarray 9 2, 4) := by decide +kernel
theorem dX0_init_13 : decode cX0_init 13 = .ok (.putfield 11, 3) := by decide +kernel
theorem dX0_init_16 : decode cX0_init 16 = .ok (.aload_n 0, 1) := by decide +kernel
theorem dX0_init_17 : decode cX0_init 17 = .ok (.bipush 8, 2) := by decide +kernel
theorem dX0_init_19 : decode cX0_init 19 = .ok (.newarray .int, 2) := by decide +kernel
theorem dX0_init_21 : decode cX0_init 21 = .ok (.putfield 16, 3) := by decide +kernel
theorem dX0_init_24 : decode cX0_init 24 = .ok (.aload_n 0, 1) := by decide +kernel
theorem dX0_init_25 : decode cX0_init 25 = .ok (.bipush 8, 2) := by decide +kernel
theorem dX0_init_27 : decode cX0_init 27 = .ok (.newarray .int, 2) := by decide +kernel
theorem dX0_init_29 : decode cX0_init 29 = .ok (.putfield 20, 3) := by decide +kernel
theorem dX0_init_32 : decode cX0_init 32 = .ok (.return_, 1) := by decide +kernel
theorem dX0_copyFrom_0 : decode cX0_copyFrom 0 = .ok (.iconst 0, 1) := by decide +kernel
theorem dX0_copyFrom_1 : decode cX0_copyFrom 1 = .ok (.istore_n 2, 1) := by decide +kernel
theorem dX0_copyFrom_2 : decode cX0_copyFrom 2 = .ok (.iload_n 2, 1) := by decide +kernel
theorem dX0_copyFrom_3 : decode cX0_copyFrom 3 = .ok (.bipush 8, 2) := by decide +kernel
theorem dX0_copyFrom_5 : decode cX0_copyFrom 5 = .ok (.if_icmp .ge 28, 3) := by decide +kernel
theorem dX0_copyFrom_8 : decode cX0_copyFrom 8 = .ok (.aload_n 1, 1) := by decide +kernel
theorem dX0_copyFrom_9 : decode cX0_copyFrom 9 = .ok (.getfield 11, 3) := by decide +kernel
theorem dX0_copyFrom_12 : decode cX0_copyFrom 12 = .ok (.iload_n 2, 1) := by decide +kernel
theorem dX0_copyFrom_13 : decode cX0_copyFrom 13 = .ok (.aaload, 1) := by decide +kernel
theorem dX0_copyFrom_14 : decode cX0_copyFrom 14 = .ok (.iconst 0, 1) := by decide +kernel
theorem dX0_copyFrom_15 : decode cX0_copyFrom 15 = .ok (.aload_n 0, 1) := by decide +kernel
theorem dX0_copyFrom_16 : decode cX0_copyFrom 16 = .ok (.getfield 11, 3) := by decide +kernel
theorem dX0_copyFrom_19 : decode cX0_copyFrom 19 = .ok (.iload_n 2, 1) := by decide +kernel
theorem dX0_copyFrom_20 : decode cX0_copyFrom 20 = .ok (.aaload, 1) := by decide +kernel
theorem dX0_copyFrom_21 : decode cX0_copyFrom 21 = .ok (.iconst 0, 1) := by decide +kernel
theorem dX0_copyFrom_22 : decode cX0_copyFrom 22 = .ok (.bipush 8, 2) := by decide +kernel
theorem dX0_copyFrom_24 : decode cX0_copyFrom 24 = .ok (.invokestatic 23, 3) := by decide +kernel
theorem dX0_copyFrom_27 : decode cX0_copyFrom 27 = .ok (.iinc 2 1, 3) := by decide +kernel
theorem dX0_copyFrom_30 : decode cX0_copyFrom 30 = .ok (.goto (-28), 3) := by decide +kernel
theorem dX0_copyFrom_33 : decode cX0_copyFrom 33 = .ok (.aload_n 1, 1) := by decide +kernel
theorem dX0_copyFrom_34 : decode cX0_copyFrom 34 = .ok (.getfield 16, 3) := by decide +kernel
theorem dX0_copyFrom_37 : decode cX0_copyFrom 37 = .ok (.iconst 0, 1) := by decide +kernel
theorem dX0_copyFrom_38 : decode cX0_copyFrom 38 = .ok (.aload_n 0, 1) := by decide +kernel
theorem dX0_copyFrom_39 : decode cX0_copyFrom 39 = .ok (.getfield 16, 3) := by decide +kernel
theorem dX0_copyFrom_42 : decode cX0_copyFrom 42 = .ok (.iconst 0, 1) := by decide +kernel
theorem dX0_copyFrom_43 : decode cX0_copyFrom 43 = .ok (.bipush 8, 2) := by decide +kernel
theorem dX0_copyFrom_45 : decode cX0_copyFrom 45 = .ok (.invokestatic 23, 3) := by decide +kernel
theorem dX0_copyFrom_48 : decode cX0_copyFrom 48 = .ok (.aload_n 1, 1) := by decide +kernel
theorem dX0_copyFrom_49 : decode cX0_copyFrom 49 = .ok (.getfield 20, 3) := by decide +kernel
theorem dX0_copyFrom_52 : decode cX0_copyFrom 52 = .ok (.iconst 0, 1) := by decide +kernel
theorem dX0_copyFrom_53 : decode cX0_copyFrom 53 = .ok (.aload_n 0, 1) := by decide +kernel
theorem dX0_copyFrom_54 : decode cX0_copyFrom 54 = .ok (.getfield 20, 3) := by decide +kernel
theorem dX0_copyFrom_57 : decode cX0_copyFrom 57 = .ok (.iconst 0, 1) := by decide +kernel
theorem dX0_copyFrom_58 : decode cX0_copyFrom 58 = .ok (.bipush 8, 2) := by decide +kernel
theorem dX0_copyFrom_60 : decode cX0_copyFrom 60 = .ok (.invokestatic 23, 3) := by decide +kernel
theorem dX0_copyFrom_63 : decode cX0_copyFrom 63 = .ok (.aload_n 0, 1) := by decide +kernel
theorem dX0_copyFrom_64 : decode cX0_copyFrom 64 = .ok (.aload_n 1, 1) := by decide +kernel
theorem dX0_copyFrom_65 : decode cX0_copyFrom 65 = .ok (.getfield 29, 3) := by decide +kernel
theorem dX0_copyFrom_68 : decode cX0_copyFrom 68 = .ok (.putfield 29, 3) := by decide +kernel
theorem dX0_copyFrom_71 : decode cX0_copyFrom 71 = .ok (.aload_n 0, 1) := by decide +kernel
theorem dX0_copyFrom_72 : decode cX0_copyFrom 72 = .ok (.aload_n 1, 1) := by decide +kernel
theorem dX0_copyFrom_73 : decode cX0_copyFrom 73 = .ok (.getfield 33, 3) := by decide +kernel
theorem dX0_copyFrom_76 : decode cX0_copyFrom 76 = .ok (.putfield 33, 3) := by decide +kernel
theorem dX0_copyFrom_79 : decode cX0_copyFrom 79 = .ok (.aload_n 0, 1) := by decide +kernel
theorem dX0_copyFrom_80 : decode cX0_copyFrom 80 = .ok (.aload_n 1, 1) := by decide +kernel
theorem dX0_copyFrom_81 : decode cX0_copyFrom 81 = .ok (.getfield 36, 3) := by decide +kernel
theorem dX0_copyFrom_84 : decode cX0_copyFrom 84 = .ok (.putfield 36, 3) := by decide +kernel
theorem dX0_copyFrom_87 : decode cX0_copyFrom 87 = .ok (.aload_n 0, 1) := by decide +kernel
theorem dX0_copyFrom_88 : decode cX0_copyFrom 88 = .ok (.aload_n 1, 1) := by decide +kernel
theorem dX0_copyFrom_89 : decode cX0_copyFrom 89 = .ok (.getfield 39, 3) := by decide +kernel
theorem dX0_copyFrom_92 : decode cX0_copyFrom 92 = .ok (.putfield 39, 3) := by decide +kernel
theorem dX0_copyFrom_95 : decode cX0_copyFrom 95 = .ok (.return_, 1) := by decide +kernel
theorem dX0_firstPlaceFor_0 : decode cX0_firstPlaceFor 0 = .ok (.iload_n 0, 1) := by decide +kernel
theorem dX0_firstPlaceFor_1 : decode cX0_firstPlaceFor 1 = .ok (.iconst 4, 1) := by decide +kernel
theorem dX0_firstPlaceFor_2 : decode cX0_firstPlaceFor 2 = .ok (.irem, 1) := by decide +kernel
theorem dX0_firstPlaceFor_3 : decode cX0_firstPlaceFor 3 = .ok (.iconst 2, 1) := by decide +kernel
theorem dX0_firstPlaceFor_4 : decode cX0_firstPlaceFor 4 = .ok (.imul, 1) := by decide +kernel
theorem dX0_firstPlaceFor_5 : decode cX0_firstPlaceFor 5 = .ok (.ireturn, 1) := by decide +kernel
theorem dX0_use_0 : decode cX0_use 0 = .ok (.aload_n 0, 1) := by decide +kernel
theorem dX0_use_1 : decode cX0_use 1 = .ok (.dup, 1) := by decide +kernel
theorem dX0_use_2 : decode cX0_use 2 = .ok (.getfield 29, 3) := by decide +kernel
theorem dX0_use_5 : decode cX0_use 5 = .ok (.iconst 1, 1) := by decide +kernel
theorem dX0_use_6 : decode cX0_use 6 = .ok (.iadd, 1) := by decide +kernel
theorem dX0_use_7 : decode cX0_use 7 = .ok (.putfield 29, 3) := by decide +kernel
theorem dX0_use_10 : decode cX0_use 10 = .ok (.aload_n 0, 1) := by decide +kernel
theorem dX0_use_11 : decode cX0_use 11 = .ok (.getfield 20, 3) := by decide +kernel
theorem dX0_use_14 : decode cX0_use 14 = .ok (.iload_n 1, 1) := by decide +kernel
theorem dX0_use_15 : decode cX0_use 15 = .ok (.aload_n 0, 1) := by decide +kernel
theorem dX0_use_16 : decode cX0_use 16 = .ok (.getfield 29, 3) := by decide +kernel
theorem dX0_use_19 : decode cX0_use 19 = .ok (.iastore, 1) := by decide +kernel
theorem dX0_use_20 : decode cX0_use 20 = .ok (.return_, 1) := by decide +kernel
theorem dX0_addressAt_0 : decode cX0_addressAt 0 = .ok (.iload_n 2, 1) := by decide +kernel
theorem dX0_addressAt_1 : decode cX0_addressAt 1 = .ok (.aload_n 0, 1) := by decide +kernel
theorem dX0_addressAt_2 : decode cX0_addressAt 2 = .ok (.getfield 16, 3) := by decide +kernel
theorem dX0_addressAt_5 : decode cX0_addressAt 5 = .ok (.iload_n 1, 1) := by decide +kernel
theorem dX0_addressAt_6 : decode cX0_addressAt 6 = .ok (.iaload, 1) := by decide +kernel
theorem dX0_addressAt_7 : decode cX0_addressAt 7 = .ok (.if_icmp .ge 14, 3) := by decide +kernel
theorem dX0_addressAt_10 : decode cX0_addressAt 10 = .ok (.aload_n 0, 1) := by decide +kernel
theorem dX0_addressAt_11 : decode cX0_addressAt 11 = .ok (.getfield 11, 3) := by decide +kernel
theorem dX0_addressAt_14 : decode cX0_addressAt 14 = .ok (.iload_n 1, 1) := by decide +kernel
theorem dX0_addressAt_15 : decode cX0_addressAt 15 = .ok (.aaload, 1) := by decide +kernel
theorem dX0_addressAt_16 : decode cX0_addressAt 16 = .ok (.iload_n 2, 1) := by decide +kernel
theorem dX0_addressAt_17 : decode cX0_addressAt 17 = .ok (.iaload, 1) := by decide +kernel
theorem dX0_addressAt_18 : decode cX0_addressAt 18 = .ok (.goto 4, 3) := by decide +kernel
theorem dX0_addressAt_21 : decode cX0_addressAt 21 = .ok (.iconst (-1), 1) := by decide +kernel
theorem dX0_addressAt_22 : decode cX0_addressAt 22 = .ok (.ireturn, 1) := by decide +kernel
set_option maxRecDepth 20000 in
theorem ggX0_usableSize_X4_predictedSuccessor : GoodIn wsX0_usableSize wsX4_predictedSuccessor := goodIn_r _ [6, 7, 8, 9, 4, 10, 11, 12, 13, 14, 15, 16, 17, 25, 26, 27, 28, 29, 30, 31] (by decide +kernel) (by decide +kernel)
set_option maxRecDepth 20000 in
theorem gX0_usableSize_X4_predictedSuccessor_n42 : GoodIn wsX0_usableSize (wsX4_predictedSuccessor) := ggX0_usableSize_X4_predictedSuccessor
theorem dX0_usableSize_0 : decode cX0_usableSize 0 = .ok (.aload_n 0, 1) := by decide +kernel
theorem dX0_usableSize_1 : decode cX0_usableSize 1 = .ok (.getfield 11, 3) := by decide +kernel
theorem dX0_usableSize_4 : decode cX0_usableSize 4 = .ok (.iload_n 1, 1) := by decide +kernel
theorem dX0_usableSize_5 : decode cX0_usableSize 5 = .ok (.aaload, 1) := by decide +kernel
theorem dX0_usableSize_6 : decode cX0_usableSize 6 = .ok (.astore_n 3, 1) := by decide +kernel
theorem dX0_usableSize_7 : decode cX0_usableSize 7 = .ok (.aload_n 0, 1) := by decide +kernel
theorem dX0_usableSize_8 : decode cX0_usableSize 8 = .ok (.getfield 16, 3) := by decide +kernel
theorem dX0_usableSize_11 : decode cX0_usableSize 11 = .ok (.iload_n 1, 1) := by decide +kernel
theorem dX0_usableSize_12 : decode cX0_usableSize 12 = .ok (.iaload, 1) := by decide +kernel
theorem dX0_usableSize_13 : decode cX0_usableSize 13 = .ok (.istore 4, 2) := by decide +kernel
theorem dX0_usableSize_15 : decode cX0_usableSize 15 = .ok (.iconst 1, 1) := by decide +kernel
theorem dX0_usableSize_16 : decode cX0_usableSize 16 = .ok (.istore 5, 2) := by decide +kernel
theorem dX0_usableSize_18 : decode cX0_usableSize 18 = .ok (.iload 5, 2) := by decide +kernel
theorem dX0_usableSize_20 : decode cX0_usableSize 20 = .ok (.iload 4, 2) := by decide +kernel
theorem dX0_usableSize_22 : decode cX0_usableSize 22 = .ok (.if_icmp .ge 29, 3) := by decide +kernel
theorem dX0_usableSize_25 : decode cX0_usableSize 25 = .ok (.aload_n 3, 1) := by decide +kernel
theorem dX0_usableSize_26 : decode cX0_usableSize 26 = .ok (.iload 5, 2) := by decide +kernel
theorem dX0_usableSize_28 : decode cX0_usableSize 28 = .ok (.iaload, 1) := by decide +kernel
theorem dX0_usableSize_29 : decode cX0_usableSize 29 = .ok (.aload_n 2, 1) := by decide +kernel
theorem dX0_usableSize_30 : decode cX0_usableSize 30 = .ok (.aload_n 3, 1) := by decide +kernel
theorem dX0_usableSize_31 : decode cX0_usableSize 31 = .ok (.iload 5, 2) := by decide +kernel
theorem dX0_usableSize_33 : decode cX0_usableSize 33 = .ok (.iconst 1, 1) := by decide +kernel
theorem dX0_usableSize_34 : decode cX0_usableSize 34 = .ok (.isub, 1) := by decide +kernel
theorem dX0_usableSize_35 : decode cX0_usableSize 35 = .ok (.iaload, 1) := by decide +kernel
theorem dX0_usableSize_36 : decode cX0_usableSize 36 = .ok (.invokevirtual 42, 3) := by decide +kernel
theorem dX0_usableSize_39 : decode cX0_usableSize 39 = .ok (.if_icmp .eq 6, 3) := by decide +kernel
theorem dX0_usableSize_42 : decode cX0_usableSize 42 = .ok (.iload 5, 2) := by decide +kernel
theorem dX0_usableSize_44 : decode cX0_usableSize 44 = .ok (.ireturn, 1) := by decide +kernel
theorem dX0_usableSize_45 : decode cX0_usableSize 45 = .ok (.iinc 5 1, 3) := by decide +kernel
theorem dX0_usableSize_48 : decode cX0_usableSize 48 = .ok (.goto (-30), 3) := by decide +kernel
theorem dX0_usableSize_51 : decode cX0_usableSize 51 = .ok (.iload 4, 2) := by decide +kernel
theorem dX0_usableSize_53 : decode cX0_usableSize 53 = .ok (.ireturn, 1) := by decide +kernel
set_option maxRecDepth 20000 in
theorem ggX0_store_X0_firstPlaceFor : GoodIn wsX0_store wsX0_firstPlaceFor := goodIn_r _ [12] (by decide +kernel) (by decide +kernel)
set_option maxRecDepth 20000 in
theorem gX0_store_X0_firstPlaceFor : GoodIn wsX0_store (va_wsS RX0 48 yX0_firstPlaceFor wsX0_firstPlaceFor) := goodIn_app (goodIn_of _ (by decide +kernel)) ggX0_store_X0_firstPlaceFor
set_option maxRecDepth 20000 in
theorem ggX0_store_X0_isSame : GoodIn wsX0_store wsX0_isSame := goodIn_r _ [16, 1, 3, 27, 28, 29, 30, 31, 32, 33] (by decide +kernel) (by decide +kernel)
set_option maxRecDepth 20000 in
theorem gX0_store_X0_isSame : GoodIn wsX0_store (wsV RX0 51 RX0 yX0_isSame wsX0_isSame) := goodIn_app (goodIn_of _ (by decide +kernel)) ggX0_store_X0_isSame
set_option maxRecDepth 20000 in
theorem ggX0_store_X0_use : GoodIn wsX0_store wsX0_use := goodIn_r _ [20, 21, 22, 27, 28, 29, 30, 31, 32, 33] (by decide +kernel) (by decide +kernel)
set_option maxRecDepth 20000 in
theorem gX0_store_X0_use : GoodIn wsX0_store (wsV RX0 55 RX0 yX0_use wsX0_use) := goodIn_app (goodIn_of _ (by decide +kernel)) ggX0_store_X0_use
set_option maxRecDepth 20000 in
theorem ggX0_store_X0_placeToFill : GoodIn wsX0_store wsX0_placeToFill := goodIn_r _ [26, 1, 22, 27, 28, 29, 30, 31, 32, 33] (by decide +kernel) (by decide +kernel)
set_option maxRecDepth 20000 in
theorem gX0_store_X0_placeToFill : GoodIn wsX0_store (wsV RX0 59 RX0 yX0_placeToFill wsX0_placeToFill) := goodIn_app (goodIn_of _ (by decide +kernel)) ggX0_store_X0_placeToFill
theorem dX0_store_0 : decode cX0_store 0 = .ok (.aload_n 1, 1) := by decide +kernel
theorem dX0_store_1 : decode cX0_store 1 = .ok (.iconst 0, 1) := by decide +kernel
theorem dX0_store_2 : decode cX0_store 2 = .ok (.iaload, 1) := by decide +kernel
theorem dX0_store_3 : decode cX0_store 3 = .ok (.invokestatic 48, 3) := by decide +kernel
theorem dX0_store_6 : decode cX0_store 6 = .ok (.istore_n 3, 1) := by decide +kernel
theorem dX0_store_7 : decode cX0_store 7 = .ok (.iload_n 3, 1) := by decide +kernel
theorem dX0_store_8 : decode cX0_store 8 = .ok (.istore 4, 2) := by decide +kernel
theorem dX0_store_10 : decode cX0_store 10 = .ok (.iload 4, 2) := by decide +kernel
theorem dX0_store_12 : decode cX0_store 12 = .ok (.iload_n 3, 1) := by decide +kernel
theorem dX0_store_13 : decode cX0_store 13 = .ok (.iconst 2, 1) := by decide +kernel
theorem dX0_store_14 : decode cX0_store 14 = .ok (.iadd, 1) := by decide +kernel
theorem dX0_store_15 : decode cX0_store 15 = .ok (.if_icmp .ge 27, 3) := by decide +kernel
theorem dX0_store_18 : decode cX0_store 18 = .ok (.aload_n 0, 1) := by decide +kernel
theorem dX0_store_19 : decode cX0_store 19 = .ok (.iload 4, 2) := by decide +kernel
theorem dX0_store_21 : decode cX0_store 21 = .ok (.aload_n 1, 1) := by decide +kernel
theorem dX0_store_22 : decode cX0_store 22 = .ok (.iload_n 2, 1) := by decide +kernel
theorem dX0_store_23 : decode cX0_store 23 = .ok (.invokevirtual 51, 3) := by decide +kernel
theorem dX0_store_26 : decode cX0_store 26 = .ok (.ifCond .eq 10, 3) := by decide +kernel
theorem dX0_store_29 : decode cX0_store 29 = .ok (.aload_n 0, 1) := by decide +kernel
theorem dX0_store_30 : decode cX0_store 30 = .ok (.iload 4, 2) := by decide +kernel
theorem dX0_store_32 : decode cX0_store 32 = .ok (.invokevirtual 55, 3) := by decide +kernel
theorem dX0_store_35 : decode cX0_store 35 = .ok (.return_, 1) := by decide +kernel
theorem dX0_store_36 : decode cX0_store 36 = .ok (.iinc 4 1, 3) := by decide +kernel
theorem dX0_store_39 : decode cX0_store 39 = .ok (.goto (-29), 3) := by decide +kernel
theorem dX0_store_42 : decode cX0_store 42 = .ok (.aload_n 0, 1) := by decide +kernel
theorem dX0_store_43 : decode cX0_store 43 = .ok (.iload_n 3, 1) := by decide +kernel
theorem dX0_store_44 : decode cX0_store 44 = .ok (.invokevirtual 59, 3) := by decide +kernel
theorem dX0_store_47 : decode cX0_store 47 = .ok (.istore 4, 2) := by decide +kernel
theorem dX0_store_49 : decode cX0_store 49 = .ok (.aload_n 0, 1) := by decide +kernel
theorem dX0_store_50 : decode cX0_store 50 = .ok (.getfield 16, 3) := by decide +kernel
theorem dX0_store_53 : decode cX0_store 53 = .ok (.iload 4, 2) := by decide +kernel
theorem dX0_store_55 : decode cX0_store 55 = .ok (.iaload, 1) := by decide +kernel
theorem dX0_store_56 : decode cX0_store 56 = .ok (.ifCond .le 13, 3) := by decide +kernel
theorem dX0_store_59 : decode cX0_store 59 = .ok (.aload_n 0, 1) := by decide +kernel
theorem dX0_store_60 : decode cX0_store 60 = .ok (.dup, 1) := by decide +kernel
theorem dX0_store_61 : decode cX0_store 61 = .ok (.getfield 36, 3) := by decide +kernel
theorem dX0_store_64 : decode cX0_store 64 = .ok (.iconst 1, 1) := by decide +kernel
theorem dX0_store_65 : decode cX0_store 65 = .ok (.iadd, 1) := by decide +kernel
theorem dX0_store_66 : decode cX0_store 66 = .ok (.putfield 36, 3) := by decide +kernel
theorem dX0_store_69 : decode cX0_store 69 = .ok (.aload_n 1, 1) := by decide +kernel
theorem dX0_store_70 : decode cX0_store 70 = .ok (.iconst 0, 1) := by decide +kernel
theorem dX0_store_71 : decode cX0_store 71 = .ok (.aload_n 0, 1) := by decide +kernel
theorem dX0_store_72 : decode cX0_store 72 = .ok (.getfield 11, 3) := by decide +kernel
theorem dX0_store_75 : decode cX0_store 75 = .ok (.iload 4, 2) := by decide +kernel
theorem dX0_store_77 : decode cX0_store 77 = .ok (.aaload, 1) := by decide +kernel
theorem dX0_store_78 : decode cX0_store 78 = .ok (.iconst 0, 1) := by decide +kernel
theorem dX0_store_79 : decode cX0_store 79 = .ok (.iload_n 2, 1) := by decide +kernel
theorem dX0_store_80 : decode cX0_store 80 = .ok (.invokestatic 23, 3) := by decide +kernel
theorem dX0_store_83 : decode cX0_store 83 = .ok (.aload_n 0, 1) := by decide +kernel
theorem dX0_store_84 : decode cX0_store 84 = .ok (.getfield 16, 3) := by decide +kernel
theorem dX0_store_87 : decode cX0_store 87 = .ok (.iload 4, 2) := by decide +kernel
theorem dX0_store_89 : decode cX0_store 89 = .ok (.iload_n 2, 1) := by decide +kernel
theorem dX0_store_90 : decode cX0_store 90 = .ok (.iastore, 1) := by decide +kernel
theorem dX0_store_91 : decode cX0_store 91 = .ok (.aload_n 0, 1) := by decide +kernel
theorem dX0_store_92 : decode cX0_store 92 = .ok (.dup, 1) := by decide +kernel
theorem dX0_store_93 : decode cX0_store 93 = .ok (.getfield 33, 3) := by decide +kernel
theorem dX0_store_96 : decode cX0_store 96 = .ok (.iconst 1, 1) := by decide +kernel
theorem dX0_store_97 : decode cX0_store 97 = .ok (.iadd, 1) := by decide +kernel
theorem dX0_store_98 : decode cX0_store 98 = .ok (.putfield 33, 3) := by decide +kernel
theorem dX0_store_101 : decode cX0_store 101 = .ok (.aload_n 0, 1) := by decide +kernel
theorem dX0_store_102 : decode cX0_store 102 = .ok (.iload 4, 2) := by decide +kernel
theorem dX0_store_104 : decode cX0_store 104 = .ok (.invokevirtual 55, 3) := by decide +kernel
theorem dX0_store_107 : decode cX0_store 107 = .ok (.return_, 1) := by decide +kernel
theorem dX0_isSame_0 : decode cX0_isSame 0 = .ok (.aload_n 0, 1) := by decide +kernel
theorem dX0_isSame_1 : decode cX0_isSame 1 = .ok (.getfield 16, 3) := by decide +kernel
theorem dX0_isSame_4 : decode cX0_isSame 4 = .ok (.iload_n 1, 1) := by decide +kernel
theorem dX0_isSame_5 : decode cX0_isSame 5 = .ok (.iaload, 1) := by decide +kernel
theorem dX0_isSame_6 : decode cX0_isSame 6 = .ok (.iload_n 3, 1) := by decide +kernel
theorem dX0_isSame_7 : decode cX0_isSame 7 = .ok (.if_icmp .eq 5, 3) := by decide +kernel
theorem dX0_isSame_10 : decode cX0_isSame 10 = .ok (.iconst 0, 1) := by decide +kernel
theorem dX0_isSame_11 : decode cX0_isSame 11 = .ok (.ireturn, 1) := by decide +kernel
theorem dX0_isSame_12 : decode cX0_isSame 12 = .ok (.iconst 0, 1) := by decide +kernel
theorem dX0_isSame_13 : decode cX0_isSame 13 = .ok (.istore 4, 2) := by decide +kernel
theorem dX0_isSame_15 : decode cX0_isSame 15 = .ok (.iload 4, 2) := by decide +kernel
theorem dX0_isSame_17 : decode cX0_isSame 17 = .ok (.iload_n 3, 1) := by decide +kernel
theorem dX0_isSame_18 : decode cX0_isSame 18 = .ok (.if_icmp .ge 27, 3) := by decide +kernel
theorem dX0_isSame_21 : decode cX0_isSame 21 = .ok (.aload_n 0, 1) := by decide +kernel
theorem dX0_isSame_22 : decode cX0_isSame 22 = .ok (.getfield 11, 3) := by decide +kernel
theorem dX0_isSame_25 : decode cX0_isSame 25 = .ok (.iload_n 1, 1) := by decide +kernel
theorem dX0_isSame_26 : decode cX0_isSame 26 = .ok (.aaload, 1) := by decide +kernel
theorem dX0_isSame_27 : decode cX0_isSame 27 = .ok (.iload 4, 2) := by decide +kernel
theorem dX0_isSame_29 : decode cX0_isSame 29 = .ok (.iaload, 1) := by decide +kernel
theorem dX0_isSame_30 : decode cX0_isSame 30 = .ok (.aload_n 2, 1) := by decide +kernel
theorem dX0_isSame_31 : decode cX0_isSame 31 = .ok (.iload 4, 2) := by decide +kernel
theorem dX0_isSame_33 : decode cX0_isSame 33 = .ok (.iaload, 1) := by decide +kernel
theorem dX0_isSame_34 : decode cX0_isSame 34 = .ok (.if_icmp .eq 5, 3) := by decide +kernel
theorem dX0_isSame_37 : decode cX0_isSame 37 = .ok (.iconst 0, 1) := by decide +kernel
theorem dX0_isSame_38 : decode cX0_isSame 38 = .ok (.ireturn, 1) := by decide +kernel
theorem dX0_isSame_39 : decode cX0_isSame 39 = .ok (.iinc 4 1, 3) := by decide +kernel
theorem dX0_isSame_42 : decode cX0_isSame 42 = .ok (.goto (-27), 3) := by decide +kernel
theorem dX0_isSame_45 : decode cX0_isSame 45 = .ok (.iconst 1, 1) := by decide +kernel
theorem dX0_isSame_46 : decode cX0_isSame 46 = .ok (.ireturn, 1) := by decide +kernel
theorem dX0_placeToFill_0 : decode cX0_placeToFill 0 = .ok (.iload_n 1, 1) := by decide +kernel
theorem dX0_placeToFill_1 : decode cX0_placeToFill 1 = .ok (.istore_n 2, 1) := by decide +kernel
theorem dX0_placeToFill_2 : decode cX0_placeToFill 2 = .ok (.iload_n 1, 1) := by decide +kernel
theorem dX0_placeToFill_3 : decode cX0_placeToFill 3 = .ok (.istore_n 3, 1) := by decide +kernel
theorem dX0_placeToFill_4 : decode cX0_placeToFill 4 = .ok (.iload_n 3, 1) := by decide +kernel
theorem dX0_placeToFill_5 : decode cX0_placeToFill 5 = .ok (.iload_n 1, 1) := by decide +kernel
theorem dX0_placeToFill_6 : decode cX0_placeToFill 6 = .ok (.iconst 2, 1) := by decide +kernel
theorem dX0_placeToFill_7 : decode cX0_placeToFill 7 = .ok (.iadd, 1) := by decide +kernel
theorem dX0_placeToFill_8 : decode cX0_placeToFill 8 = .ok (.if_icmp .ge 37, 3) := by decide +kernel
theorem dX0_placeToFill_11 : decode cX0_placeToFill 11 = .ok (.aload_n 0, 1) := by decide +kernel
theorem dX0_placeToFill_12 : decode cX0_placeToFill 12 = .ok (.getfield 16, 3) := by decide +kernel
theorem dX0_placeToFill_15 : decode cX0_placeToFill 15 = .ok (.iload_n 3, 1) := by decide +kernel
theorem dX0_placeToFill_16 : decode cX0_placeToFill 16 = .ok (.iaload, 1) := by decide +kernel
theorem dX0_placeToFill_17 : decode cX0_placeToFill 17 = .ok (.ifCond .ne 5, 3) := by decide +kernel
theorem dX0_placeToFill_20 : decode cX0_placeToFill 20 = .ok (.iload_n 3, 1) := by decide +kernel
theorem dX0_placeToFill_21 : decode cX0_placeToFill 21 = .ok (.ireturn, 1) := by decide +kernel
theorem dX0_placeToFill_22 : decode cX0_placeToFill 22 = .ok (.aload_n 0, 1) := by decide +kernel
theorem dX0_placeToFill_23 : decode cX0_placeToFill 23 = .ok (.getfield 20, 3) := by decide +kernel
theorem dX0_placeToFill_26 : decode cX0_placeToFill 26 = .ok (.iload_n 3, 1) := by decide +kernel
theorem dX0_placeToFill_27 : decode cX0_placeToFill 27 = .ok (.iaload, 1) := by decide +kernel
theorem dX0_placeToFill_28 : decode cX0_placeToFill 28 = .ok (.aload_n 0, 1) := by decide +kernel
theorem dX0_placeToFill_29 : decode cX0_placeToFill 29 = .ok (.getfield 20, 3) := by decide +kernel
theorem dX0_placeToFill_32 : decode cX0_placeToFill 32 = .ok (.iload_n 2, 1) := by decide +kernel
theorem dX0_placeToFill_33 : decode cX0_placeToFill 33 = .ok (.iaload, 1) := by decide +kernel
theorem dX0_placeToFill_34 : decode cX0_placeToFill 34 = .ok (.if_icmp .ge 5, 3) := by decide +kernel
theorem dX0_placeToFill_37 : decode cX0_placeToFill 37 = .ok (.iload_n 3, 1) := by decide +kernel
theorem dX0_placeToFill_38 : decode cX0_placeToFill 38 = .ok (.istore_n 2, 1) := by decide +kernel
theorem dX0_placeToFill_39 : decode cX0_placeToFill 39 = .ok (.iinc 3 1, 3) := by decide +kernel
theorem dX0_placeToFill_42 : decode cX0_placeToFill 42 = .ok (.goto (-38), 3) := by decide +kernel
theorem dX0_placeToFill_45 : decode cX0_placeToFill 45 = .ok (.iload_n 2, 1) := by decide +kernel
theorem dX0_placeToFill_46 : decode cX0_placeToFill 46 = .ok (.ireturn, 1) := by decide +kernel
theorem dX0_holds_0 : decode cX0_holds 0 = .ok (.iconst 0, 1) := by decide +kernel
theorem dX0_holds_1 : decode cX0_holds 1 = .ok (.istore_n 3, 1) := by decide +kernel
theorem dX0_holds_2 : decode cX0_holds 2 = .ok (.iload_n 3, 1) := by decide +kernel
theorem dX0_holds_3 : decode cX0_holds 3 = .ok (.aload_n 0, 1) := by decide +kernel
theorem dX0_holds_4 : decode cX0_holds 4 = .ok (.getfield 16, 3) := by decide +kernel
theorem dX0_holds_7 : decode cX0_holds 7 = .ok (.iload_n 1, 1) := by decide +kernel
theorem dX0_holds_8 : decode cX0_holds 8 = .ok (.iaload, 1) := by decide +kernel
theorem dX0_holds_9 : decode cX0_holds 9 = .ok (.if_icmp .ge 23, 3) := by decide +kernel
theorem dX0_holds_12 : decode cX0_holds 12 = .ok (.aload_n 0, 1) := by decide +kernel
theorem dX0_holds_13 : decode cX0_holds 13 = .ok (.getfield 11, 3) := by decide +kernel
theorem dX0_holds_16 : decode cX0_holds 16 = .ok (.iload_n 1, 1) := by decide +kernel
theorem dX0_holds_17 : decode cX0_holds 17 = .ok (.aaload, 1) := by decide +kernel
theorem dX0_holds_18 : decode cX0_holds 18 = .ok (.iload_n 3, 1) := by decide +kernel
theorem dX0_holds_19 : decode cX0_holds 19 = .ok (.iaload, 1) := by decide +kernel
theorem dX0_holds_20 : decode cX0_holds 20 = .ok (.iload_n 2, 1) := by decide +kernel
theorem dX0_holds_21 : decode cX0_holds 21 = .ok (.if_icmp .ne 5, 3) := by decide +kernel
theorem dX0_holds_24 : decode cX0_holds 24 = .ok (.iconst 1, 1) := by decide +kernel
theorem dX0_holds_25 : decode cX0_holds 25 = .ok (.ireturn, 1) := by decide +kernel
theorem dX0_holds_26 : decode cX0_holds 26 = .ok (.iinc 3 1, 3) := by decide +kernel
theorem dX0_holds_29 : decode cX0_holds 29 = .ok (.goto (-27), 3) := by decide +kernel
theorem dX0_holds_32 : decode cX0_holds 32 = .ok (.iconst 0, 1) := by decide +kernel
theorem dX0_holds_33 : decode cX0_holds 33 = .ok (.ireturn, 1) := by decide +kernel
theorem dX0_filled_0 : decode cX0_filled 0 = .ok (.iconst 0, 1) := by decide +kernel
theorem dX0_filled_1 : decode cX0_filled 1 = .ok (.istore_n 1, 1) := by decide +kernel
theorem dX0_filled_2 : decode cX0_filled 2 = .ok (.iconst 0, 1) := by decide +kernel
theorem dX0_filled_3 : decode cX0_filled 3 = .ok (.istore_n 2, 1) := by decide +kernel
theorem dX0_filled_4 : decode cX0_filled 4 = .ok (.iload_n 2, 1) := by decide +kernel
theorem dX0_filled_5 : decode cX0_filled 5 = .ok (.bipush 8, 2) := by decide +kernel
theorem dX0_filled_7 : decode cX0_filled 7 = .ok (.if_icmp .ge 21, 3) := by decide +kernel
theorem dX0_filled_10 : decode cX0_filled 10 = .ok (.aload_n 0, 1) := by decide +kernel
theorem dX0_filled_11 : decode cX0_filled 11 = .ok (.getfield 16, 3) := by decide +kernel
theorem dX0_filled_14 : decode cX0_filled 14 = .ok (.iload_n 2, 1) := by decide +kernel
theorem dX0_filled_15 : decode cX0_filled 15 = .ok (.iaload, 1) := by decide +kernel
theorem dX0_filled_16 : decode cX0_filled 16 = .ok (.ifCond .le 6, 3) := by decide +kernel
theorem dX0_filled_19 : decode cX0_filled 19 = .ok (.iinc 1 1, 3) := by decide +kernel
theorem dX0_filled_22 : decode cX0_filled 22 = .ok (.iinc 2 1, 3) := by decide +kernel
theorem dX0_filled_25 : decode cX0_filled 25 = .ok (.goto (-21), 3) := by decide +kernel
theorem dX0_filled_28 : decode cX0_filled 28 = .ok (.iload_n 1, 1) := by decide +kernel
theorem dX0_filled_29 : decode cX0_filled 29 = .ok (.ireturn, 1) := by decide +kernel
set_option maxRecDepth 20000 in
theorem ggX0_holding_X0_holds : GoodIn wsX0_holding wsX0_holds := goodIn_r _ [5, 6, 7, 8, 9, 10, 11, 12, 13, 14] (by decide +kernel) (by decide +kernel)
set_option maxRecDepth 20000 in
theorem gX0_holding_X0_holds : GoodIn wsX0_holding (wsV RX0 62 RX0 yX0_holds wsX0_holds) := goodIn_app (goodIn_of _ (by decide +kernel)) ggX0_holding_X0_holds
theorem dX0_holding_0 : decode cX0_holding 0 = .ok (.iconst 0, 1) := by decide +kernel
theorem dX0_holding_1 : decode cX0_holding 1 = .ok (.istore_n 2, 1) := by decide +kernel
theorem dX0_holding_2 : decode cX0_holding 2 = .ok (.iconst 0, 1) := by decide +kernel
theorem dX0_holding_3 : decode cX0_holding 3 = .ok (.istore_n 3, 1) := by decide +kernel
theorem dX0_holding_4 : decode cX0_holding 4 = .ok (.iload_n 3, 1) := by decide +kernel
theorem dX0_holding_5 : decode cX0_holding 5 = .ok (.bipush 8, 2) := by decide +kernel
theorem dX0_holding_7 : decode cX0_holding 7 = .ok (.if_icmp .ge 21, 3) := by decide +kernel
theorem dX0_holding_10 : decode cX0_holding 10 = .ok (.aload_n 0, 1) := by decide +kernel
theorem dX0_holding_11 : decode cX0_holding 11 = .ok (.iload_n 3, 1) := by decide +kernel
theorem dX0_holding_12 : decode cX0_holding 12 = .ok (.iload_n 1, 1) := by decide +kernel
theorem dX0_holding_13 : decode cX0_holding 13 = .ok (.invokevirtual 62, 3) := by decide +kernel
theorem dX0_holding_16 : decode cX0_holding 16 = .ok (.ifCond .eq 6, 3) := by decide +kernel
theorem dX0_holding_19 : decode cX0_holding 19 = .ok (.iinc 2 1, 3) := by decide +kernel
theorem dX0_holding_22 : decode cX0_holding 22 = .ok (.iinc 3 1, 3) := by decide +kernel
theorem dX0_holding_25 : decode cX0_holding 25 = .ok (.goto (-21), 3) := by decide +kernel
theorem dX0_holding_28 : decode cX0_holding 28 = .ok (.iload_n 2, 1) := by decide +kernel
theorem dX0_holding_29 : decode cX0_holding 29 = .ok (.ireturn, 1) := by decide +kernel
set_option maxRecDepth 20000 in
theorem ggX0_dropHolding_X0_holds : GoodIn wsX0_dropHolding wsX0_holds := goodIn_r _ [7, 1, 8, 9, 10, 11, 12, 13, 14, 15] (by decide +kernel) (by decide +kernel)
set_option maxRecDepth 20000 in
theorem gX0_dropHolding_X0_holds : GoodIn wsX0_dropHolding (wsV RX0 62 RX0 yX0_holds wsX0_holds) := goodIn_app (goodIn_of _ (by decide +kernel)) ggX0_dropHolding_X0_holds
theorem dX0_dropHolding_0 : decode cX0_dropHolding 0 = .ok (.iconst 0, 1) := by decide +kernel
theorem dX0_dropHolding_1 : decode cX0_dropHolding 1 = .ok (.istore_n 2, 1) := by decide +kernel
theorem dX0_dropHolding_2 : decode cX0_dropHolding 2 = .ok (.iconst 0, 1) := by decide +kernel
theorem dX0_dropHolding_3 : decode cX0_dropHolding 3 = .ok (.istore_n 3, 1) := by decide +kernel
theorem dX0_dropHolding_4 : decode cX0_dropHolding 4 = .ok (.iload_n 3, 1) := by decide +kernel
theorem dX0_dropHolding_5 : decode cX0_dropHolding 5 = .ok (.bipush 8, 2) := by decide +kernel
theorem dX0_dropHolding_7 : decode cX0_dropHolding 7 = .ok (.if_icmp .ge 28, 3) := by decide +kernel
theorem dX0_dropHolding_10 : decode cX0_dropHolding 10 = .ok (.aload_n 0, 1) := by decide +kernel
theorem dX0_dropHolding_11 : decode cX0_dropHolding 11 = .ok (.iload_n 3, 1) := by decide +kernel
theorem dX0_dropHolding_12 : decode cX0_dropHolding 12 = .ok (.iload_n 1, 1) := by decide +kernel
theorem dX0_dropHolding_13 : decode cX0_dropHolding 13 = .ok (.invokevirtual 62, 3) := by decide +kernel
theorem dX0_dropHolding_16 : decode cX0_dropHolding 16 = .ok (.ifCond .eq 13, 3) := by decide +kernel
theorem dX0_dropHolding_19 : decode cX0_dropHolding 19 = .ok (.aload_n 0, 1) := by decide +kernel
theorem dX0_dropHolding_20 : decode cX0_dropHolding 20 = .ok (.getfield 16, 3) := by decide +kernel
theorem dX0_dropHolding_23 : decode cX0_dropHolding 23 = .ok (.iload_n 3, 1) := by decide +kernel
theorem dX0_dropHolding_24 : decode cX0_dropHolding 24 = .ok (.iconst 0, 1) := by decide +kernel
theorem dX0_dropHolding_25 : decode cX0_dropHolding 25 = .ok (.iastore, 1) := by decide +kernel
theorem dX0_dropHolding_26 : decode cX0_dropHolding 26 = .ok (.iinc 2 1, 3) := by decide +kernel
theorem dX0_dropHolding_29 : decode cX0_dropHolding 29 = .ok (.iinc 3 1, 3) := by decide +kernel
theorem dX0_dropHolding_32 : decode cX0_dropHolding 32 = .ok (.goto (-28), 3) := by decide +kernel
theorem dX0_dropHolding_35 : decode cX0_dropHolding 35 = .ok (.aload_n 0, 1) := by decide +kernel
theorem dX0_dropHolding_36 : decode cX0_dropHolding 36 = .ok (.dup, 1) := by decide +kernel
theorem dX0_dropHolding_37 : decode cX0_dropHolding 37 = .ok (.getfield 39, 3) := by decide +kernel
theorem dX0_dropHolding_40 : decode cX0_dropHolding 40 = .ok (.iload_n 2, 1) := by decide +kernel
theorem dX0_dropHolding_41 : decode cX0_dropHolding 41 = .ok (.iadd, 1) := by decide +kernel
theorem dX0_dropHolding_42 : decode cX0_dropHolding 42 = .ok (.putfield 39, 3) := by decide +kernel
theorem dX0_dropHolding_45 : decode cX0_dropHolding 45 = .ok (.iload_n 2, 1) := by decide +kernel
theorem dX0_dropHolding_46 : decode cX0_dropHolding 46 = .ok (.ireturn, 1) := by decide +kernel
set_option maxRecDepth 20000 in
theorem ggX0_dropEvery_X0_filled : GoodIn wsX0_dropEvery wsX0_filled := goodIn_r _ [7, 1, 8, 9, 10, 11, 12, 13, 14] (by decide +kernel) (by decide +kernel)
set_option maxRecDepth 20000 in
theorem gX0_dropEvery_X0_filled : GoodIn wsX0_dropEvery (wsV RX0 66 RX0 yX0_filled wsX0_filled) := goodIn_app (goodIn_of _ (by decide +kernel)) ggX0_dropEvery_X0_filled
theorem dX0_dropEvery_0 : decode cX0_dropEvery 0 = .ok (.aload_n 0, 1) := by decide +kernel
theorem dX0_dropEvery_1 : decode cX0_dropEvery 1 = .ok (.invokevirtual 66, 3) := by decide +kernel
theorem dX0_dropEvery_4 : decode cX0_dropEvery 4 = .ok (.istore_n 1, 1) := by decide +kernel
theorem dX0_dropEvery_5 : decode cX0_dropEvery 5 = .ok (.iconst 0, 1) := by decide +kernel
theorem dX0_dropEvery_6 : decode cX0_dropEvery 6 = .ok (.istore_n 2, 1) := by decide +kernel
theorem dX0_dropEvery_7 : decode cX0_dropEvery 7 = .ok (.iload_n 2, 1) := by decide +kernel
theorem dX0_dropEvery_8 : decode cX0_dropEvery 8 = .ok (.bipush 8, 2) := by decide +kernel
theorem dX0_dropEvery_10 : decode cX0_dropEvery 10 = .ok (.if_icmp .ge 16, 3) := by decide +kernel
theorem dX0_dropEvery_13 : decode cX0_dropEvery 13 = .ok (.aload_n 0, 1) := by decide +kernel
theorem dX0_dropEvery_14 : decode cX0_dropEvery 14 = .ok (.getfield 16, 3) := by decide +kernel
theorem dX0_dropEvery_17 : decode cX0_dropEvery 17 = .ok (.iload_n 2, 1) := by decide +kernel
theorem dX0_dropEvery_18 : decode cX0_dropEvery 18 = .ok (.iconst 0, 1) := by decide +kernel
theorem dX0_dropEvery_19 : decode cX0_dropEvery 19 = .ok (.iastore, 1) := by decide +kernel
theorem dX0_dropEvery_20 : decode cX0_dropEvery 20 = .ok (.iinc 2 1, 3) := by decide +kernel
theorem dX0_dropEvery_23 : decode cX0_dropEvery 23 = .ok (.goto (-16), 3) := by decide +kernel
theorem dX0_dropEvery_26 : decode cX0_dropEvery 26 = .ok (.aload_n 0, 1) := by decide +kernel
theorem dX0_dropEvery_27 : decode cX0_dropEvery 27 = .ok (.dup, 1) := by decide +kernel
theorem dX0_dropEvery_28 : decode cX0_dropEvery 28 = .ok (.getfield 39, 3) := by decide +kernel
theorem dX0_dropEvery_31 : decode cX0_dropEvery 31 = .ok (.iload_n 1, 1) := by decide +kernel
theorem dX0_dropEvery_32 : decode cX0_dropEvery 32 = .ok (.iadd, 1) := by decide +kernel
theorem dX0_dropEvery_33 : decode cX0_dropEvery 33 = .ok (.putfield 39, 3) := by decide +kernel
theorem dX0_dropEvery_36 : decode cX0_dropEvery 36 = .ok (.iload_n 1, 1) := by decide +kernel
theorem dX0_dropEvery_37 : decode cX0_dropEvery 37 = .ok (.ireturn, 1) := by decide +kernel
theorem dX1_init_0 : decode cX1_init 0 = .ok (.aload_n 0, 1) := by decide +kernel
theorem dX1_init_1 : decode cX1_init 1 = .ok (.invokespecial 3, 3) := by decide +kernel
theorem dX1_init_4 : decode cX1_init 4 = .ok (.aload_n 0, 1) := by decide +kernel
theorem dX1_init_5 : decode cX1_init 5 = .ok (.bipush 8, 2) := by decide +kernel
theorem dX1_init_7 : decode cX1_init 7 = .ok (.newarray .int, 2) := by decide +kernel
theorem dX1_init_9 : decode cX1_init 9 = .ok (.putfield 9, 3) := by decide +kernel
theorem dX1_init_12 : decode cX1_init 12 = .ok (.aload_n 0, 1) := by decide +kernel
theorem dX1_init_13 : decode cX1_init 13 = .ok (.bipush 8, 2) := by decide +kernel
theorem dX1_init_15 : decode cX1_init 15 = .ok (.newarray .boolean, 2) := by decide +kernel
theorem dX1_init_17 : decode cX1_init 17 = .ok (.putfield 15, 3) := by decide +kernel
theorem dX1_init_20 : decode cX1_init 20 = .ok (.return_, 1) := by decide +kernel
set_option maxRecDepth 20000 in
theorem ggX1_choose_X0_firstPlaceFor : GoodIn wsX1_choose wsX0_firstPlaceFor := goodIn_r _ [11] (by decide +kernel) (by decide +kernel)
set_option maxRecDepth 20000 in
theorem gX1_choose_X0_firstPlaceFor_n25 : GoodIn wsX1_choose (wsX0_firstPlaceFor) := ggX1_choose_X0_firstPlaceFor
set_option maxRecDepth 20000 in
theorem ggX1_choose_X0_addressAt : GoodIn wsX1_choose wsX0_addressAt := goodIn_r _ [14, 15, 16, 53, 54, 55, 56, 57, 58, 59] (by decide +kernel) (by decide +kernel)
set_option maxRecDepth 20000 in
theorem gX1_choose_X0_addressAt_n37 : GoodIn wsX1_choose (wsX0_addressAt) := ggX1_choose_X0_addressAt
set_option maxRecDepth 20000 in
theorem ggX1_choose_X0_usableSize : GoodIn wsX1_choose wsX0_usableSize := goodIn_r _ [19, 16, 15, 20, 21, 22, 23, 24, 25, 26, 27, 28, 29, 30, 31, 32, 33, 34, 53, 54, 55, 56, 57, 58, 59, 40, 41, 42, 43, 44, 45, 46] (by decide +kernel) (by decide +kernel)
set_option maxRecDepth 20000 in
theorem gX1_choose_X0_usableSize_n41 : GoodIn wsX1_choose (wsX0_usableSize) := ggX1_choose_X0_usableSize
set_option maxRecDepth 20000 in
theorem ggX1_choose_X1_fillFromMemory : GoodIn wsX1_choose wsX1_fillFromMemory := goodIn_r _ [39, 3, 2, 25, 21, 26, 27, 28, 29, 40, 41, 42, 43, 44, 45, 46, 47, 48, 49, 50, 51, 52] (by decide +kernel) (by decide +kernel)
set_option maxRecDepth 20000 in
theorem gX1_choose_X1_fillFromMemory : GoodIn wsX1_choose (wsV RX1 45 RX1 yX1_fillFromMemory wsX1_fillFromMemory) := goodIn_app (goodIn_of _ (by decide +kernel)) ggX1_choose_X1_fillFromMemory
set_option maxRecDepth 20000 in
theorem ggX1_choose_X4_predictsTaken : GoodIn wsX1_choose wsX4_predictsTaken := goodIn_r _ [27, 28, 29, 40, 41, 42, 43, 44, 45, 46] (by decide +kernel) (by decide +kernel)
set_option maxRecDepth 20000 in
theorem gX1_choose_X4_predictsTaken_n58 : GoodIn wsX1_choose (wsX4_predictsTaken) := ggX1_choose_X4_predictsTaken
theorem dX1_choose_0 : decode cX1_choose 0 = .ok (.aload_n 1, 1) := by decide +kernel
theorem dX1_choose_1 : decode cX1_choose 1 = .ok (.getfield 19, 3) := by decide +kernel
theorem dX1_choose_4 : decode cX1_choose 4 = .ok (.istore_n 3, 1) := by decide +kernel
theorem dX1_choose_5 : decode cX1_choose 5 = .ok (.iload_n 3, 1) := by decide +kernel
theorem dX1_choose_6 : decode cX1_choose 6 = .ok (.invokestatic 25, 3) := by decide +kernel
theorem dX1_choose_9 : decode cX1_choose 9 = .ok (.istore 4, 2) := by decide +kernel
theorem dX1_choose_11 : decode cX1_choose 11 = .ok (.aload_n 0, 1) := by decide +kernel
theorem dX1_choose_12 : decode cX1_choose 12 = .ok (.iconst (-1), 1) := by decide +kernel
theorem dX1_choose_13 : decode cX1_choose 13 = .ok (.putfield 31, 3) := by decide +kernel
theorem dX1_choose_16 : decode cX1_choose 16 = .ok (.aload_n 0, 1) := by decide +kernel
theorem dX1_choose_17 : decode cX1_choose 17 = .ok (.iconst 0, 1) := by decide +kernel
theorem dX1_choose_18 : decode cX1_choose 18 = .ok (.putfield 34, 3) := by decide +kernel
theorem dX1_choose_21 : decode cX1_choose 21 = .ok (.iload 4, 2) := by decide +kernel
theorem dX1_choose_23 : decode cX1_choose 23 = .ok (.istore 5, 2) := by decide +kernel
theorem dX1_choose_25 : decode cX1_choose 25 = .ok (.iload 5, 2) := by decide +kernel
theorem dX1_choose_27 : decode cX1_choose 27 = .ok (.iload 4, 2) := by decide +kernel
theorem dX1_choose_29 : decode cX1_choose 29 = .ok (.iconst 2, 1) := by decide +kernel
theorem dX1_choose_30 : decode cX1_choose 30 = .ok (.iadd, 1) := by decide +kernel
theorem dX1_choose_31 : decode cX1_choose 31 = .ok (.if_icmp .ge 50, 3) := by decide +kernel
theorem dX1_choose_34 : decode cX1_choose 34 = .ok (.aload_n 2, 1) := by decide +kernel
theorem dX1_choose_35 : decode cX1_choose 35 = .ok (.iload 5, 2) := by decide +kernel
theorem dX1_choose_37 : decode cX1_choose 37 = .ok (.iconst 0, 1) := by decide +kernel
theorem dX1_choose_38 : decode cX1_choose 38 = .ok (.invokevirtual 37, 3) := by decide +kernel
theorem dX1_choose_41 : decode cX1_choose 41 = .ok (.iload_n 3, 1) := by decide +kernel
theorem dX1_choose_42 : decode cX1_choose 42 = .ok (.if_icmp .ne 33, 3) := by decide +kernel
theorem dX1_choose_45 : decode cX1_choose 45 = .ok (.aload_n 2, 1) := by decide +kernel
theorem dX1_choose_46 : decode cX1_choose 46 = .ok (.iload 5, 2) := by decide +kernel
theorem dX1_choose_48 : decode cX1_choose 48 = .ok (.aload_n 1, 1) := by decide +kernel
theorem dX1_choose_49 : decode cX1_choose 49 = .ok (.invokevirtual 41, 3) := by decide +kernel
theorem dX1_choose_52 : decode cX1_choose 52 = .ok (.istore 6, 2) := by decide +kernel
theorem dX1_choose_54 : decode cX1_choose 54 = .ok (.iload 6, 2) := by decide +kernel
theorem dX1_choose_56 : decode cX1_choose 56 = .ok (.aload_n 0, 1) := by decide +kernel
theorem dX1_choose_57 : decode cX1_choose 57 = .ok (.getfield 34, 3) := by decide +kernel
theorem dX1_choose_60 : decode cX1_choose 60 = .ok (.if_icmp .le 15, 3) := by decide +kernel
theorem dX1_choose_63 : decode cX1_choose 63 = .ok (.aload_n 0, 1) := by decide +kernel
theorem dX1_choose_64 : decode cX1_choose 64 = .ok (.iload 5, 2) := by decide +kernel
theorem dX1_choose_66 : decode cX1_choose 66 = .ok (.putfield 31, 3) := by decide +kernel
theorem dX1_choose_69 : decode cX1_choose 69 = .ok (.aload_n 0, 1) := by decide +kernel
theorem dX1_choose_70 : decode cX1_choose 70 = .ok (.iload 6, 2) := by decide +kernel
theorem dX1_choose_72 : decode cX1_choose 72 = .ok (.putfield 34, 3) := by decide +kernel
theorem dX1_choose_75 : decode cX1_choose 75 = .ok (.iinc 5 1, 3) := by decide +kernel
theorem dX1_choose_78 : decode cX1_choose 78 = .ok (.goto (-53), 3) := by decide +kernel
theorem dX1_choose_81 : decode cX1_choose 81 = .ok (.aload_n 0, 1) := by decide +kernel
theorem dX1_choose_82 : decode cX1_choose 82 = .ok (.getfield 31, 3) := by decide +kernel
theorem dX1_choose_85 : decode cX1_choose 85 = .ok (.iconst (-1), 1) := by decide +kernel
theorem dX1_choose_86 : decode cX1_choose 86 = .ok (.if_icmp .ne 11, 3) := by decide +kernel
theorem dX1_choose_89 : decode cX1_choose 89 = .ok (.aload_n 0, 1) := by decide +kernel
theorem dX1_choose_90 : decode cX1_choose 90 = .ok (.aload_n 1, 1) := by decide +kernel
theorem dX1_choose_91 : decode cX1_choose 91 = .ok (.invokevirtual 45, 3) := by decide +kernel
theorem dX1_choose_94 : decode cX1_choose 94 = .ok (.goto 25, 3) := by decide +kernel
theorem dX1_choose_97 : decode cX1_choose 97 = .ok (.aload_n 2, 1) := by decide +kernel
theorem dX1_choose_98 : decode cX1_choose 98 = .ok (.getfield 49, 3) := by decide +kernel
theorem dX1_choose_101 : decode cX1_choose 101 = .ok (.aload_n 0, 1) := by decide +kernel
theorem dX1_choose_102 : decode cX1_choose 102 = .ok (.getfield 31, 3) := by decide +kernel
theorem dX1_choose_105 : decode cX1_choose 105 = .ok (.aaload, 1) := by decide +kernel
theorem dX1_choose_106 : decode cX1_choose 106 = .ok (.iconst 0, 1) := by decide +kernel
theorem dX1_choose_107 : decode cX1_choose 107 = .ok (.aload_n 0, 1) := by decide +kernel
theorem dX1_choose_108 : decode cX1_choose 108 = .ok (.getfield 9, 3) := by decide +kernel
theorem dX1_choose_111 : decode cX1_choose 111 = .ok (.iconst 0, 1) := by decide +kernel
theorem dX1_choose_112 : decode cX1_choose 112 = .ok (.aload_n 0, 1) := by decide +kernel
theorem dX1_choose_113 : decode cX1_choose 113 = .ok (.getfield 34, 3) := by decide +kernel
theorem dX1_choose_116 : decode cX1_choose 116 = .ok (.invokestatic 52, 3) := by decide +kernel
theorem dX1_choose_119 : decode cX1_choose 119 = .ok (.iconst 0, 1) := by decide +kernel
theorem dX1_choose_120 : decode cX1_choose 120 = .ok (.istore 5, 2) := by decide +kernel
theorem dX1_choose_122 : decode cX1_choose 122 = .ok (.iload 5, 2) := by decide +kernel
theorem dX1_choose_124 : decode cX1_choose 124 = .ok (.aload_n 0, 1) := by decide +kernel
theorem dX1_choose_125 : decode cX1_choose 125 = .ok (.getfield 34, 3) := by decide +kernel
theorem dX1_choose_128 : decode cX1_choose 128 = .ok (.if_icmp .ge 27, 3) := by decide +kernel
theorem dX1_choose_131 : decode cX1_choose 131 = .ok (.aload_n 0, 1) := by decide +kernel
theorem dX1_choose_132 : decode cX1_choose 132 = .ok (.getfield 15, 3) := by decide +kernel
theorem dX1_choose_135 : decode cX1_choose 135 = .ok (.iload 5, 2) := by decide +kernel
theorem dX1_choose_137 : decode cX1_choose 137 = .ok (.aload_n 1, 1) := by decide +kernel
theorem dX1_choose_138 : decode cX1_choose 138 = .ok (.aload_n 0, 1) := by decide +kernel
theorem dX1_choose_139 : decode cX1_choose 139 = .ok (.getfield 9, 3) := by decide +kernel
theorem dX1_choose_142 : decode cX1_choose 142 = .ok (.iload 5, 2) := by decide +kernel
theorem dX1_choose_144 : decode cX1_choose 144 = .ok (.iaload, 1) := by decide +kernel
theorem dX1_choose_145 : decode cX1_choose 145 = .ok (.invokevirtual 58, 3) := by decide +kernel
theorem dX1_choose_148 : decode cX1_choose 148 = .ok (.bastore, 1) := by decide +kernel
theorem dX1_choose_149 : decode cX1_choose 149 = .ok (.iinc 5 1, 3) := by decide +kernel
theorem dX1_choose_152 : decode cX1_choose 152 = .ok (.goto (-30), 3) := by decide +kernel
theorem dX1_choose_155 : decode cX1_choose 155 = .ok (.return_, 1) := by decide +kernel
set_option maxRecDepth 20000 in
theorem ggX1_fillFromMemory_X4_predictsTaken : GoodIn wsX1_fillFromMemory wsX4_predictsTaken := goodIn_r _ [6, 7, 8, 9, 10, 11, 12, 13, 14, 15] (by decide +kernel) (by decide +kernel)
set_option maxRecDepth 20000 in
theorem gX1_fillFromMemory_X4_predictsTaken_n58 : GoodIn wsX1_fillFromMemory (wsX4_predictsTaken) := ggX1_fillFromMemory_X4_predictsTaken
theorem dX1_fillFromMemory_0 : decode cX1_fillFromMemory 0 = .ok (.aload_n 1, 1) := by decide +kernel
theorem dX1_fillFromMemory_1 : decode cX1_fillFromMemory 1 = .ok (.getfield 19, 3) := by decide +kernel
theorem dX1_fillFromMemory_4 : decode cX1_fillFromMemory 4 = .ok (.istore_n 2, 1) := by decide +kernel
theorem dX1_fillFromMemory_5 : decode cX1_fillFromMemory 5 = .ok (.iconst 0, 1) := by decide +kernel
theorem dX1_fillFromMemory_6 : decode cX1_fillFromMemory 6 = .ok (.istore_n 3, 1) := by decide +kernel
theorem dX1_fillFromMemory_7 : decode cX1_fillFromMemory 7 = .ok (.iconst 0, 1) := by decide +kernel
theorem dX1_fillFromMemory_8 : decode cX1_fillFromMemory 8 = .ok (.istore 4, 2) := by decide +kernel
theorem dX1_fillFromMemory_10 : decode cX1_fillFromMemory 10 = .ok (.iload 4, 2) := by decide +kernel
theorem dX1_fillFromMemory_12 : decode cX1_fillFromMemory 12 = .ok (.iconst 4, 1) := by decide +kernel
theorem dX1_fillFromMemory_13 : decode cX1_fillFromMemory 13 = .ok (.if_icmp .ge 60, 3) := by decide +kernel
theorem dX1_fillFromMemory_16 : decode cX1_fillFromMemory 16 = .ok (.iload_n 3, 1) := by decide +kernel
theorem dX1_fillFromMemory_17 : decode cX1_fillFromMemory 17 = .ok (.ifCond .ne 56, 3) := by decide +kernel
theorem dX1_fillFromMemory_20 : decode cX1_fillFromMemory 20 = .ok (.aload_n 0, 1) := by decide +kernel
theorem dX1_fillFromMemory_21 : decode cX1_fillFromMemory 21 = .ok (.getfield 9, 3) := by decide +kernel
theorem dX1_fillFromMemory_24 : decode cX1_fillFromMemory 24 = .ok (.iload 4, 2) := by decide +kernel
theorem dX1_fillFromMemory_26 : decode cX1_fillFromMemory 26 = .ok (.iload_n 2, 1) := by decide +kernel
theorem dX1_fillFromMemory_27 : decode cX1_fillFromMemory 27 = .ok (.iastore, 1) := by decide +kernel
theorem dX1_fillFromMemory_28 : decode cX1_fillFromMemory 28 = .ok (.aload_n 0, 1) := by decide +kernel
theorem dX1_fillFromMemory_29 : decode cX1_fillFromMemory 29 = .ok (.iload 4, 2) := by decide +kernel
theorem dX1_fillFromMemory_31 : decode cX1_fillFromMemory 31 = .ok (.iconst 1, 1) := by decide +kernel
theorem dX1_fillFromMemory_32 : decode cX1_fillFromMemory 32 = .ok (.iadd, 1) := by decide +kernel
theorem dX1_fillFromMemory_33 : decode cX1_fillFromMemory 33 = .ok (.putfield 34, 3) := by decide +kernel
theorem dX1_fillFromMemory_36 : decode cX1_fillFromMemory 36 = .ok (.aload_n 1, 1) := by decide +kernel
theorem dX1_fillFromMemory_37 : decode cX1_fillFromMemory 37 = .ok (.getfield 62, 3) := by decide +kernel
theorem dX1_fillFromMemory_40 : decode cX1_fillFromMemory 40 = .ok (.iload_n 2, 1) := by decide +kernel
theorem dX1_fillFromMemory_41 : decode cX1_fillFromMemory 41 = .ok (.iaload, 1) := by decide +kernel
theorem dX1_fillFromMemory_42 : decode cX1_fillFromMemory 42 = .ok (.iconst 1, 1) := by decide +kernel
theorem dX1_fillFromMemory_43 : decode cX1_fillFromMemory 43 = .ok (.if_icmp .eq 11, 3) := by decide +kernel
theorem dX1_fillFromMemory_46 : decode cX1_fillFromMemory 46 = .ok (.aload_n 1, 1) := by decide +kernel
theorem dX1_fillFromMemory_47 : decode cX1_fillFromMemory 47 = .ok (.iload_n 2, 1) := by decide +kernel
theorem dX1_fillFromMemory_48 : decode cX1_fillFromMemory 48 = .ok (.invokevirtual 58, 3) := by decide +kernel
theorem dX1_fillFromMemory_51 : decode cX1_fillFromMemory 51 = .ok (.ifCond .eq 7, 3) := by decide +kernel
theorem dX1_fillFromMemory_54 : decode cX1_fillFromMemory 54 = .ok (.iconst 1, 1) := by decide +kernel
theorem dX1_fillFromMemory_55 : decode cX1_fillFromMemory 55 = .ok (.goto 4, 3) := by decide +kernel
theorem dX1_fillFromMemory_58 : decode cX1_fillFromMemory 58 = .ok (.iconst 0, 1) := by decide +kernel
theorem dX1_fillFromMemory_59 : decode cX1_fillFromMemory 59 = .ok (.istore_n 3, 1) := by decide +kernel
theorem dX1_fillFromMemory_60 : decode cX1_fillFromMemory 60 = .ok (.iload_n 2, 1) := by decide +kernel
theorem dX1_fillFromMemory_61 : decode cX1_fillFromMemory 61 = .ok (.iconst 1, 1) := by decide +kernel
theorem dX1_fillFromMemory_62 : decode cX1_fillFromMemory 62 = .ok (.iadd, 1) := by decide +kernel
theorem dX1_fillFromMemory_63 : decode cX1_fillFromMemory 63 = .ok (.bipush 48, 2) := by decide +kernel
theorem dX1_fillFromMemory_65 : decode cX1_fillFromMemory 65 = .ok (.irem, 1) := by decide +kernel
theorem dX1_fillFromMemory_66 : decode cX1_fillFromMemory 66 = .ok (.istore_n 2, 1) := by decide +kernel
theorem dX1_fillFromMemory_67 : decode cX1_fillFromMemory 67 = .ok (.iinc 4 1, 3) := by decide +kernel
theorem dX1_fillFromMemory_70 : decode cX1_fillFromMemory 70 = .ok (.goto (-60), 3) := by decide +kernel
theorem dX1_fillFromMemory_73 : decode cX1_fillFromMemory 73 = .ok (.return_, 1) := by decide +kernel
set_option maxRecDepth 20000 in
theorem ggX1_execute_X4_step : GoodIn wsX1_execute wsX4_step := goodIn_r _ [9, 10, 11, 12, 13, 14, 7, 15, 16, 17, 18, 19, 20, 21, 22, 23, 24, 31, 32, 33, 34, 35, 36, 37] (by decide +kernel) (by decide +kernel)
set_option maxRecDepth 20000 in
theorem gX1_execute_X4_step_n71 : GoodIn wsX1_execute (wsX4_step) := ggX1_execute_X4_step
theorem dX1_execute_0 : decode cX1_execute 0 = .ok (.aload_n 0, 1) := by decide +kernel
theorem dX1_execute_1 : decode cX1_execute 1 = .ok (.iconst 0, 1) := by decide +kernel
theorem dX1_execute_2 : decode cX1_execute 2 = .ok (.putfield 65, 3) := by decide +kernel
theorem dX1_execute_5 : decode cX1_execute 5 = .ok (.aload_n 0, 1) := by decide +kernel
theorem dX1_execute_6 : decode cX1_execute 6 = .ok (.iconst 0, 1) := by decide +kernel
theorem dX1_execute_7 : decode cX1_execute 7 = .ok (.putfield 68, 3) := by decide +kernel
theorem dX1_execute_10 : decode cX1_execute 10 = .ok (.iconst 0, 1) := by decide +kernel
theorem dX1_execute_11 : decode cX1_execute 11 = .ok (.istore_n 2, 1) := by decide +kernel
theorem dX1_execute_12 : decode cX1_execute 12 = .ok (.iload_n 2, 1) := by decide +kernel
theorem dX1_execute_13 : decode cX1_execute 13 = .ok (.aload_n 0, 1) := by decide +kernel
theorem dX1_execute_14 : decode cX1_execute 14 = .ok (.getfield 34, 3) := by decide +kernel
theorem dX1_execute_17 : decode cX1_execute 17 = .ok (.if_icmp .ge 55, 3) := by decide +kernel
theorem dX1_execute_20 : decode cX1_execute 20 = .ok (.aload_n 0, 1) := by decide +kernel
theorem dX1_execute_21 : decode cX1_execute 21 = .ok (.getfield 9, 3) := by decide +kernel
theorem dX1_execute_24 : decode cX1_execute 24 = .ok (.iload_n 2, 1) := by decide +kernel
theorem dX1_execute_25 : decode cX1_execute 25 = .ok (.iaload, 1) := by decide +kernel
theorem dX1_execute_26 : decode cX1_execute 26 = .ok (.aload_n 1, 1) := by decide +kernel
theorem dX1_execute_27 : decode cX1_execute 27 = .ok (.getfield 19, 3) := by decide +kernel
theorem dX1_execute_30 : decode cX1_execute 30 = .ok (.if_icmp .ne 42, 3) := by decide +kernel
theorem dX1_execute_33 : decode cX1_execute 33 = .ok (.aload_n 1, 1) := by decide +kernel
theorem dX1_execute_34 : decode cX1_execute 34 = .ok (.invokevirtual 71, 3) := by decide +kernel
theorem dX1_execute_37 : decode cX1_execute 37 = .ok (.aload_n 0, 1) := by decide +kernel
theorem dX1_execute_38 : decode cX1_execute 38 = .ok (.getfield 15, 3) := by decide +kernel
theorem dX1_execute_41 : decode cX1_execute 41 = .ok (.iload_n 2, 1) := by decide +kernel
theorem dX1_execute_42 : decode cX1_execute 42 = .ok (.baload, 1) := by decide +kernel
theorem dX1_execute_43 : decode cX1_execute 43 = .ok (.if_icmp .eq 13, 3) := by decide +kernel
theorem dX1_execute_46 : decode cX1_execute 46 = .ok (.aload_n 0, 1) := by decide +kernel
theorem dX1_execute_47 : decode cX1_execute 47 = .ok (.dup, 1) := by decide +kernel
theorem dX1_execute_48 : decode cX1_execute 48 = .ok (.getfield 68, 3) := by decide +kernel
theorem dX1_execute_51 : decode cX1_execute 51 = .ok (.iconst 1, 1) := by decide +kernel
theorem dX1_execute_52 : decode cX1_execute 52 = .ok (.iadd, 1) := by decide +kernel
theorem dX1_execute_53 : decode cX1_execute 53 = .ok (.putfield 68, 3) := by decide +kernel
theorem dX1_execute_56 : decode cX1_execute 56 = .ok (.aload_n 0, 1) := by decide +kernel
theorem dX1_execute_57 : decode cX1_execute 57 = .ok (.dup, 1) := by decide +kernel
theorem dX1_execute_58 : decode cX1_execute 58 = .ok (.getfield 65, 3) := by decide +kernel
theorem dX1_execute_61 : decode cX1_execute 61 = .ok (.iconst 1, 1) := by decide +kernel
theorem dX1_execute_62 : decode cX1_execute 62 = .ok (.iadd, 1) := by decide +kernel
theorem dX1_execute_63 : decode cX1_execute 63 = .ok (.putfield 65, 3) := by decide +kernel
theorem dX1_execute_66 : decode cX1_execute 66 = .ok (.iinc 2 1, 3) := by decide +kernel
theorem dX1_execute_69 : decode cX1_execute 69 = .ok (.goto (-57), 3) := by decide +kernel
theorem dX1_execute_72 : decode cX1_execute 72 = .ok (.return_, 1) := by decide +kernel
set_option maxRecDepth 20000 in
theorem ggX2_init_X3_init : GoodIn wsX2_init wsX3_init := goodIn_r _ [9, 10, 2, 3, 11, 12, 13, 14, 15, 16, 17, 18, 19, 20, 21, 22, 23, 24, 25, 26, 27, 28, 29, 30, 31, 32, 33, 34, 35, 36, 51, 52, 53, 54, 55, 56, 57, 40, 41, 42, 43, 44, 45, 46, 47, 48, 49, 50, 58, 59, 60, 61, 62, 63, 64] (by decide +kernel) (by decide +kernel)
set_option maxRecDepth 20000 in
theorem gX2_init_X3_init_n17 : GoodIn wsX2_init (wsX3_init) := ggX2_init_X3_init
theorem dX2_init_0 : decode cX2_init 0 = .ok (.aload_n 0, 1) := by decide +kernel
theorem dX2_init_1 : decode cX2_init 1 = .ok (.invokespecial 3, 3) := by decide +kernel
theorem dX2_init_4 : decode cX2_init 4 = .ok (.aload_n 0, 1) := by decide +kernel
theorem dX2_init_5 : decode cX2_init 5 = .ok (.bipush 6, 2) := by decide +kernel
theorem dX2_init_7 : decode cX2_init 7 = .ok (.anewarray 9, 3) := by decide +kernel
theorem dX2_init_10 : decode cX2_init 10 = .ok (.putfield 11, 3) := by decide +kernel
theorem dX2_init_13 : decode cX2_init 13 = .ok (.iconst 0, 1) := by decide +kernel
theorem dX2_init_14 : decode cX2_init 14 = .ok (.istore_n 1, 1) := by decide +kernel
theorem dX2_init_15 : decode cX2_init 15 = .ok (.iload_n 1, 1) := by decide +kernel
theorem dX2_init_16 : decode cX2_init 16 = .ok (.bipush 6, 2) := by decide +kernel
theorem dX2_init_18 : decode cX2_init 18 = .ok (.if_icmp .ge 22, 3) := by decide +kernel
theorem dX2_init_21 : decode cX2_init 21 = .ok (.aload_n 0, 1) := by decide +kernel
theorem dX2_init_22 : decode cX2_init 22 = .ok (.getfield 11, 3) := by decide +kernel
theorem dX2_init_25 : decode cX2_init 25 = .ok (.iload_n 1, 1) := by decide +kernel
theorem dX2_init_26 : decode cX2_init 26 = .ok (.new 9, 3) := by decide +kernel
theorem dX2_init_29 : decode cX2_init 29 = .ok (.dup, 1) := by decide +kernel
theorem dX2_init_30 : decode cX2_init 30 = .ok (.invokespecial 17, 3) := by decide +kernel
theorem dX2_init_33 : decode cX2_init 33 = .ok (.aastore, 1) := by decide +kernel
theorem dX2_init_34 : decode cX2_init 34 = .ok (.iinc 1 1, 3) := by decide +kernel
theorem dX2_init_37 : decode cX2_init 37 = .ok (.goto (-22), 3) := by decide +kernel
theorem dX2_init_40 : decode cX2_init 40 = .ok (.return_, 1) := by decide +kernel
set_option maxRecDepth 20000 in
theorem ggX2_save_X3_copyFrom : GoodIn wsX2_save wsX3_copyFrom := goodIn_r _ [7, 8, 9, 10, 11, 12, 13, 14, 15, 16, 17, 18, 19, 20, 21, 22, 23, 24, 25, 26, 27, 28, 29, 30, 31, 32, 33, 34, 35, 36, 37, 38, 39, 40, 41, 42, 43, 44, 45, 46, 50, 51, 52, 53, 54, 55, 56, 57, 58, 59, 60, 61, 62, 63, 64, 65, 66, 67, 68, 69, 70, 71, 72, 73, 74] (by decide +kernel) (by decide +kernel)
set_option maxRecDepth 20000 in
theorem gX2_save_X3_copyFrom_n25 : GoodIn wsX2_save (wsX3_copyFrom) := ggX2_save_X3_copyFrom
theorem dX2_save_0 : decode cX2_save 0 = .ok (.aload_n 0, 1) := by decide +kernel
theorem dX2_save_1 : decode cX2_save 1 = .ok (.getfield 11, 3) := by decide +kernel
theorem dX2_save_4 : decode cX2_save 4 = .ok (.aload_n 0, 1) := by decide +kernel
theorem dX2_save_5 : decode cX2_save 5 = .ok (.getfield 18, 3) := by decide +kernel
theorem dX2_save_8 : decode cX2_save 8 = .ok (.aload_n 0, 1) := by decide +kernel
theorem dX2_save_9 : decode cX2_save 9 = .ok (.getfield 22, 3) := by decide +kernel
theorem dX2_save_12 : decode cX2_save 12 = .ok (.iadd, 1) := by decide +kernel
theorem dX2_save_13 : decode cX2_save 13 = .ok (.bipush 6, 2) := by decide +kernel
theorem dX2_save_15 : decode cX2_save 15 = .ok (.irem, 1) := by decide +kernel
theorem dX2_save_16 : decode cX2_save 16 = .ok (.aaload, 1) := by decide +kernel
theorem dX2_save_17 : decode cX2_save 17 = .ok (.aload_n 1, 1) := by decide +kernel
theorem dX2_save_18 : decode cX2_save 18 = .ok (.invokevirtual 25, 3) := by decide +kernel
theorem dX2_save_21 : decode cX2_save 21 = .ok (.aload_n 0, 1) := by decide +kernel
theorem dX2_save_22 : decode cX2_save 22 = .ok (.getfield 22, 3) := by decide +kernel
theorem dX2_save_25 : decode cX2_save 25 = .ok (.bipush 6, 2) := by decide +kernel
theorem dX2_save_27 : decode cX2_save 27 = .ok (.if_icmp .ge 16, 3) := by decide +kernel
theorem dX2_save_30 : decode cX2_save 30 = .ok (.aload_n 0, 1) := by decide +kernel
theorem dX2_save_31 : decode cX2_save 31 = .ok (.dup, 1) := by decide +kernel
theorem dX2_save_32 : decode cX2_save 32 = .ok (.getfield 22, 3) := by decide +kernel
theorem dX2_save_35 : decode cX2_save 35 = .ok (.iconst 1, 1) := by decide +kernel
theorem dX2_save_36 : decode cX2_save 36 = .ok (.iadd, 1) := by decide +kernel
theorem dX2_save_37 : decode cX2_save 37 = .ok (.putfield 22, 3) := by decide +kernel
theorem dX2_save_40 : decode cX2_save 40 = .ok (.goto 16, 3) := by decide +kernel
theorem dX2_save_43 : decode cX2_save 43 = .ok (.aload_n 0, 1) := by decide +kernel
theorem dX2_save_44 : decode cX2_save 44 = .ok (.aload_n 0, 1) := by decide +kernel
theorem dX2_save_45 : decode cX2_save 45 = .ok (.getfield 18, 3) := by decide +kernel
theorem dX2_save_48 : decode cX2_save 48 = .ok (.iconst 1, 1) := by decide +kernel
theorem dX2_save_49 : decode cX2_save 49 = .ok (.iadd, 1) := by decide +kernel
theorem dX2_save_50 : decode cX2_save 50 = .ok (.bipush 6, 2) := by decide +kernel
theorem dX2_save_52 : decode cX2_save 52 = .ok (.irem, 1) := by decide +kernel
theorem dX2_save_53 : decode cX2_save 53 = .ok (.putfield 18, 3) := by decide +kernel
theorem dX2_save_56 : decode cX2_save 56 = .ok (.return_, 1) := by decide +kernel
set_option maxRecDepth 20000 in
theorem ggX2_restore_X3_copyFrom : GoodIn wsX2_restore wsX3_copyFrom := goodIn_r _ [7, 8, 9, 10, 11, 12, 13, 14, 15, 16, 17, 18, 19, 20, 21, 22, 23, 24, 25, 26, 27, 28, 29, 30, 31, 32, 33, 34, 35, 36, 37, 38, 39, 40, 41, 42, 43, 44, 45, 46, 50, 51, 52, 53, 54, 55, 56, 57, 58, 59, 60, 61, 62, 63, 64, 65, 66, 67, 68, 69, 70, 71, 72, 73, 74] (by decide +kernel) (by decide +kernel)
set_option maxRecDepth 20000 in
theorem gX2_restore_X3_copyFrom_n25 : GoodIn wsX2_restore (wsX3_copyFrom) := ggX2_restore_X3_copyFrom
theorem dX2_restore_0 : decode cX2_restore 0 = .ok (.aload_n 0, 1) := by decide +kernel
theorem dX2_restore_1 : decode cX2_restore 1 = .ok (.dup, 1) := by decide +kernel
theorem dX2_restore_2 : decode cX2_restore 2 = .ok (.getfield 22, 3) := by decide +kernel
theorem dX2_restore_5 : decode cX2_restore 5 = .ok (.iconst 1, 1) := by decide +kernel
theorem dX2_restore_6 : decode cX2_restore 6 = .ok (.isub, 1) := by decide +kernel
theorem dX2_restore_7 : decode cX2_restore 7 = .ok (.putfield 22, 3) := by decide +kernel
theorem dX2_restore_10 : decode cX2_restore 10 = .ok (.aload_n 1, 1) := by decide +kernel
theorem dX2_restore_11 : decode cX2_restore 11 = .ok (.aload_n 0, 1) := by decide +kernel
theorem dX2_restore_12 : decode cX2_restore 12 = .ok (.getfield 11, 3) := by decide +kernel
theorem dX2_restore_15 : decode cX2_restore 15 = .ok (.aload_n 0, 1) := by decide +kernel
theorem dX2_restore_16 : decode cX2_restore 16 = .ok (.getfield 18, 3) := by decide +kernel
theorem dX2_restore_19 : decode cX2_restore 19 = .ok (.aload_n 0, 1) := by decide +kernel
theorem dX2_restore_20 : decode cX2_restore 20 = .ok (.getfield 22, 3) := by decide +kernel
theorem dX2_restore_23 : decode cX2_restore 23 = .ok (.iadd, 1) := by decide +kernel
theorem dX2_restore_24 : decode cX2_restore 24 = .ok (.bipush 6, 2) := by decide +kernel
theorem dX2_restore_26 : decode cX2_restore 26 = .ok (.irem, 1) := by decide +kernel
theorem dX2_restore_27 : decode cX2_restore 27 = .ok (.aaload, 1) := by decide +kernel
theorem dX2_restore_28 : decode cX2_restore 28 = .ok (.invokevirtual 25, 3) := by decide +kernel
theorem dX2_restore_31 : decode cX2_restore 31 = .ok (.return_, 1) := by decide +kernel
set_option maxRecDepth 20000 in
theorem ggX3_init_X4_init : GoodIn wsX3_init wsX4_init := goodIn_r _ [15, 16, 2, 3, 12, 17, 18, 19, 20, 21, 22, 30, 31, 32, 33, 34, 35, 36] (by decide +kernel) (by decide +kernel)
set_option maxRecDepth 20000 in
theorem gX3_init_X4_init_n11 : GoodIn wsX3_init (wsX4_init) := ggX3_init_X4_init
set_option maxRecDepth 20000 in
theorem ggX3_init_X0_init : GoodIn wsX3_init wsX0_init := goodIn_r _ [24, 25, 2, 3, 26, 12, 27, 28, 29, 48, 49, 50, 51, 52, 53, 54] (by decide +kernel) (by decide +kernel)
set_option maxRecDepth 20000 in
theorem gX3_init_X0_init_n20 : GoodIn wsX3_init (wsX0_init) := ggX3_init_X0_init
theorem dX3_init_0 : decode cX3_init 0 = .ok (.aload_n 0, 1) := by decide +kernel
theorem dX3_init_1 : decode cX3_init 1 = .ok (.invokespecial 3, 3) := by decide +kernel
theorem dX3_init_4 : decode cX3_init 4 = .ok (.aload_n 0, 1) := by decide +kernel
theorem dX3_init_5 : decode cX3_init 5 = .ok (.new 9, 3) := by decide +kernel
theorem dX3_init_8 : decode cX3_init 8 = .ok (.dup, 1) := by decide +kernel
theorem dX3_init_9 : decode cX3_init 9 = .ok (.invokespecial 11, 3) := by decide +kernel
theorem dX3_init_12 : decode cX3_init 12 = .ok (.putfield 12, 3) := by decide +kernel
theorem dX3_init_15 : decode cX3_init 15 = .ok (.aload_n 0, 1) := by decide +kernel
theorem dX3_init_16 : decode cX3_init 16 = .ok (.new 18, 3) := by decide +kernel
theorem dX3_init_19 : decode cX3_init 19 = .ok (.dup, 1) := by decide +kernel
theorem dX3_init_20 : decode cX3_init 20 = .ok (.invokespecial 20, 3) := by decide +kernel
theorem dX3_init_23 : decode cX3_init 23 = .ok (.putfield 21, 3) := by decide +kernel
theorem dX3_init_26 : decode cX3_init 26 = .ok (.aload_n 0, 1) := by decide +kernel
theorem dX3_init_27 : decode cX3_init 27 = .ok (.bipush 8, 2) := by decide +kernel
theorem dX3_init_29 : decode cX3_init 29 = .ok (.newarray .int, 2) := by decide +kernel
theorem dX3_init_31 : decode cX3_init 31 = .ok (.putfield 25, 3) := by decide +kernel
theorem dX3_init_34 : decode cX3_init 34 = .ok (.return_, 1) := by decide +kernel
set_option maxRecDepth 20000 in
theorem ggX3_copyFrom_X4_copyFrom : GoodIn wsX3_copyFrom wsX4_copyFrom := goodIn_r _ [19, 20, 21, 5, 6, 7, 22, 23, 24, 25, 26, 27, 51, 52, 53, 54, 55, 56, 57] (by decide +kernel) (by decide +kernel)
set_option maxRecDepth 20000 in
theorem gX3_copyFrom_X4_copyFrom_n29 : GoodIn wsX3_copyFrom (wsX4_copyFrom) := ggX3_copyFrom_X4_copyFrom
set_option maxRecDepth 20000 in
theorem ggX3_copyFrom_X0_copyFrom : GoodIn wsX3_copyFrom wsX0_copyFrom := goodIn_r _ [31, 32, 33, 5, 6, 7, 34, 35, 36, 37, 38, 39, 58, 59, 60, 61, 62, 63, 64] (by decide +kernel) (by decide +kernel)
set_option maxRecDepth 20000 in
theorem gX3_copyFrom_X0_copyFrom_n33 : GoodIn wsX3_copyFrom (wsX0_copyFrom) := ggX3_copyFrom_X0_copyFrom
theorem dX3_copyFrom_0 : decode cX3_copyFrom 0 = .ok (.aload_n 0, 1) := by decide +kernel
theorem dX3_copyFrom_1 : decode cX3_copyFrom 1 = .ok (.getfield 12, 3) := by decide +kernel
theorem dX3_copyFrom_4 : decode cX3_copyFrom 4 = .ok (.aload_n 1, 1) := by decide +kernel
theorem dX3_copyFrom_5 : decode cX3_copyFrom 5 = .ok (.getfield 12, 3) := by decide +kernel
theorem dX3_copyFrom_8 : decode cX3_copyFrom 8 = .ok (.invokevirtual 29, 3) := by decide +kernel
theorem dX3_copyFrom_11 : decode cX3_copyFrom 11 = .ok (.aload_n 0, 1) := by decide +kernel
theorem dX3_copyFrom_12 : decode cX3_copyFrom 12 = .ok (.getfield 21, 3) := by decide +kernel
theorem dX3_copyFrom_15 : decode cX3_copyFrom 15 = .ok (.aload_n 1, 1) := by decide +kernel
theorem dX3_copyFrom_16 : decode cX3_copyFrom 16 = .ok (.getfield 21, 3) := by decide +kernel
theorem dX3_copyFrom_19 : decode cX3_copyFrom 19 = .ok (.invokevirtual 33, 3) := by decide +kernel
theorem dX3_copyFrom_22 : decode cX3_copyFrom 22 = .ok (.aload_n 1, 1) := by decide +kernel
theorem dX3_copyFrom_23 : decode cX3_copyFrom 23 = .ok (.getfield 25, 3) := by decide +kernel
theorem dX3_copyFrom_26 : decode cX3_copyFrom 26 = .ok (.iconst 0, 1) := by decide +kernel
theorem dX3_copyFrom_27 : decode cX3_copyFrom 27 = .ok (.aload_n 0, 1) := by decide +kernel
theorem dX3_copyFrom_28 : decode cX3_copyFrom 28 = .ok (.getfield 25, 3) := by decide +kernel
theorem dX3_copyFrom_31 : decode cX3_copyFrom 31 = .ok (.iconst 0, 1) := by decide +kernel
theorem dX3_copyFrom_32 : decode cX3_copyFrom 32 = .ok (.bipush 8, 2) := by decide +kernel
theorem dX3_copyFrom_34 : decode cX3_copyFrom 34 = .ok (.invokestatic 36, 3) := by decide +kernel
theorem dX3_copyFrom_37 : decode cX3_copyFrom 37 = .ok (.aload_n 0, 1) := by decide +kernel
theorem dX3_copyFrom_38 : decode cX3_copyFrom 38 = .ok (.aload_n 1, 1) := by decide +kernel
theorem dX3_copyFrom_39 : decode cX3_copyFrom 39 = .ok (.getfield 42, 3) := by decide +kernel
theorem dX3_copyFrom_42 : decode cX3_copyFrom 42 = .ok (.putfield 42, 3) := by decide +kernel
theorem dX3_copyFrom_45 : decode cX3_copyFrom 45 = .ok (.aload_n 0, 1) := by decide +kernel
theorem dX3_copyFrom_46 : decode cX3_copyFrom 46 = .ok (.aload_n 1, 1) := by decide +kernel
theorem dX3_copyFrom_47 : decode cX3_copyFrom 47 = .ok (.getfield 46, 3) := by decide +kernel
theorem dX3_copyFrom_50 : decode cX3_copyFrom 50 = .ok (.putfield 46, 3) := by decide +kernel
theorem dX3_copyFrom_53 : decode cX3_copyFrom 53 = .ok (.aload_n 0, 1) := by decide +kernel
theorem dX3_copyFrom_54 : decode cX3_copyFrom 54 = .ok (.aload_n 1, 1) := by decide +kernel
theorem dX3_copyFrom_55 : decode cX3_copyFrom 55 = .ok (.getfield 49, 3) := by decide +kernel
theorem dX3_copyFrom_58 : decode cX3_copyFrom 58 = .ok (.putfield 49, 3) := by decide +kernel
theorem dX3_copyFrom_61 : decode cX3_copyFrom 61 = .ok (.aload_n 0, 1) := by decide +kernel
theorem dX3_copyFrom_62 : decode cX3_copyFrom 62 = .ok (.aload_n 1, 1) := by decide +kernel
theorem dX3_copyFrom_63 : decode cX3_copyFrom 63 = .ok (.getfield 52, 3) := by decide +kernel
theorem dX3_copyFrom_66 : decode cX3_copyFrom 66 = .ok (.putfield 52, 3) := by decide +kernel
theorem dX3_copyFrom_69 : decode cX3_copyFrom 69 = .ok (.aload_n 0, 1) := by decide +kernel
theorem dX3_copyFrom_70 : decode cX3_copyFrom 70 = .ok (.aload_n 1, 1) := by decide +kernel
theorem dX3_copyFrom_71 : decode cX3_copyFrom 71 = .ok (.getfield 55, 3) := by decide +kernel
theorem dX3_copyFrom_74 : decode cX3_copyFrom 74 = .ok (.putfield 55, 3) := by decide +kernel
theorem dX3_copyFrom_77 : decode cX3_copyFrom 77 = .ok (.aload_n 0, 1) := by decide +kernel
theorem dX3_copyFrom_78 : decode cX3_copyFrom 78 = .ok (.aload_n 1, 1) := by decide +kernel
theorem dX3_copyFrom_79 : decode cX3_copyFrom 79 = .ok (.getfield 58, 3) := by decide +kernel
theorem dX3_copyFrom_82 : decode cX3_copyFrom 82 = .ok (.putfield 58, 3) := by decide +kernel
theorem dX3_copyFrom_85 : decode cX3_copyFrom 85 = .ok (.aload_n 0, 1) := by decide +kernel
theorem dX3_copyFrom_86 : decode cX3_copyFrom 86 = .ok (.aload_n 1, 1) := by decide +kernel
theorem dX3_copyFrom_87 : decode cX3_copyFrom 87 = .ok (.getfield 61, 3) := by decide +kernel
theorem dX3_copyFrom_90 : decode cX3_copyFrom 90 = .ok (.putfield 61, 3) := by decide +kernel
theorem dX3_copyFrom_93 : decode cX3_copyFrom 93 = .ok (.aload_n 0, 1) := by decide +kernel
theorem dX3_copyFrom_94 : decode cX3_copyFrom 94 = .ok (.aload_n 1, 1) := by decide +kernel
theorem dX3_copyFrom_95 : decode cX3_copyFrom 95 = .ok (.getfield 64, 3) := by decide +kernel
theorem dX3_copyFrom_98 : decode cX3_copyFrom 98 = .ok (.putfield 64, 3) := by decide +kernel
theorem dX3_copyFrom_101 : decode cX3_copyFrom 101 = .ok (.return_, 1) := by decide +kernel
set_option maxRecDepth 20000 in
theorem ggX3_put_X3_pendingHolds : GoodIn wsX3_put wsX3_pendingHolds := goodIn_r _ [8, 2, 9, 21, 22, 23, 24, 25, 26, 27, 28, 29, 30, 31] (by decide +kernel) (by decide +kernel)
set_option maxRecDepth 20000 in
theorem gX3_put_X3_pendingHolds : GoodIn wsX3_put (wsV RX3 73 RX3 yX3_pendingHolds wsX3_pendingHolds) := goodIn_app (goodIn_of _ (by decide +kernel)) ggX3_put_X3_pendingHolds
set_option maxRecDepth 20000 in
theorem ggX3_put_X0_dropHolding : GoodIn wsX3_put wsX0_dropHolding := goodIn_r _ [13, 14, 15, 16, 17, 18, 11, 19, 20, 39, 40, 41, 42, 43, 44, 45] (by decide +kernel) (by decide +kernel)
set_option maxRecDepth 20000 in
theorem gX3_put_X0_dropHolding_n77 : GoodIn wsX3_put (wsX0_dropHolding) := ggX3_put_X0_dropHolding
theorem dX3_put_0 : decode cX3_put 0 = .ok (.aload_n 0, 1) := by decide +kernel
theorem dX3_put_1 : decode cX3_put 1 = .ok (.getfield 12, 3) := by decide +kernel
theorem dX3_put_4 : decode cX3_put 4 = .ok (.getfield 67, 3) := by decide +kernel
theorem dX3_put_7 : decode cX3_put 7 = .ok (.iload_n 1, 1) := by decide +kernel
theorem dX3_put_8 : decode cX3_put 8 = .ok (.iload_n 2, 1) := by decide +kernel
theorem dX3_put_9 : decode cX3_put 9 = .ok (.iastore, 1) := by decide +kernel
theorem dX3_put_10 : decode cX3_put 10 = .ok (.aload_n 0, 1) := by decide +kernel
theorem dX3_put_11 : decode cX3_put 11 = .ok (.getfield 12, 3) := by decide +kernel
theorem dX3_put_14 : decode cX3_put 14 = .ok (.getfield 70, 3) := by decide +kernel
theorem dX3_put_17 : decode cX3_put 17 = .ok (.iload_n 1, 1) := by decide +kernel
theorem dX3_put_18 : decode cX3_put 18 = .ok (.iload_n 3, 1) := by decide +kernel
theorem dX3_put_19 : decode cX3_put 19 = .ok (.iastore, 1) := by decide +kernel
theorem dX3_put_20 : decode cX3_put 20 = .ok (.aload_n 0, 1) := by decide +kernel
theorem dX3_put_21 : decode cX3_put 21 = .ok (.iload_n 1, 1) := by decide +kernel
theorem dX3_put_22 : decode cX3_put 22 = .ok (.invokevirtual 73, 3) := by decide +kernel
theorem dX3_put_25 : decode cX3_put 25 = .ok (.ifCond .eq 8, 3) := by decide +kernel
theorem dX3_put_28 : decode cX3_put 28 = .ok (.aload_n 0, 1) := by decide +kernel
theorem dX3_put_29 : decode cX3_put 29 = .ok (.iconst 0, 1) := by decide +kernel
theorem dX3_put_30 : decode cX3_put 30 = .ok (.putfield 42, 3) := by decide +kernel
theorem dX3_put_33 : decode cX3_put 33 = .ok (.aload_n 0, 1) := by decide +kernel
theorem dX3_put_34 : decode cX3_put 34 = .ok (.getfield 21, 3) := by decide +kernel
theorem dX3_put_37 : decode cX3_put 37 = .ok (.iload_n 1, 1) := by decide +kernel
theorem dX3_put_38 : decode cX3_put 38 = .ok (.invokevirtual 77, 3) := by decide +kernel
theorem dX3_put_41 : decode cX3_put 41 = .ok (.ireturn, 1) := by decide +kernel
theorem dX3_pendingHolds_0 : decode cX3_pendingHolds 0 = .ok (.iconst 0, 1) := by decide +kernel
theorem dX3_pendingHolds_1 : decode cX3_pendingHolds 1 = .ok (.istore_n 2, 1) := by decide +kernel
theorem dX3_pendingHolds_2 : decode cX3_pendingHolds 2 = .ok (.iload_n 2, 1) := by decide +kernel
theorem dX3_pendingHolds_3 : decode cX3_pendingHolds 3 = .ok (.aload_n 0, 1) := by decide +kernel
theorem dX3_pendingHolds_4 : decode cX3_pendingHolds 4 = .ok (.getfield 42, 3) := by decide +kernel
theorem dX3_pendingHolds_7 : decode cX3_pendingHolds 7 = .ok (.if_icmp .ge 21, 3) := by decide +kernel
theorem dX3_pendingHolds_10 : decode cX3_pendingHolds 10 = .ok (.aload_n 0, 1) := by decide +kernel
theorem dX3_pendingHolds_11 : decode cX3_pendingHolds 11 = .ok (.getfield 25, 3) := by decide +kernel
theorem dX3_pendingHolds_14 : decode cX3_pendingHolds 14 = .ok (.iload_n 2, 1) := by decide +kernel
theorem dX3_pendingHolds_15 : decode cX3_pendingHolds 15 = .ok (.iaload, 1) := by decide +kernel
theorem dX3_pendingHolds_16 : decode cX3_pendingHolds 16 = .ok (.iload_n 1, 1) := by decide +kernel
theorem dX3_pendingHolds_17 : decode cX3_pendingHolds 17 = .ok (.if_icmp .ne 5, 3) := by decide +kernel
theorem dX3_pendingHolds_20 : decode cX3_pendingHolds 20 = .ok (.iconst 1, 1) := by decide +kernel
theorem dX3_pendingHolds_21 : decode cX3_pendingHolds 21 = .ok (.ireturn, 1) := by decide +kernel
theorem dX3_pendingHolds_22 : decode cX3_pendingHolds 22 = .ok (.iinc 2 1, 3) := by decide +kernel
theorem dX3_pendingHolds_25 : decode cX3_pendingHolds 25 = .ok (.goto (-23), 3) := by decide +kernel
theorem dX3_pendingHolds_28 : decode cX3_pendingHolds 28 = .ok (.iconst 0, 1) := by decide +kernel
theorem dX3_pendingHolds_29 : decode cX3_pendingHolds 29 = .ok (.ireturn, 1) := by decide +kernel
theorem dX3_moveTo_0 : decode cX3_moveTo 0 = .ok (.aload_n 0, 1) := by decide +kernel
theorem dX3_moveTo_1 : decode cX3_moveTo 1 = .ok (.getfield 12, 3) := by decide +kernel
theorem dX3_moveTo_4 : decode cX3_moveTo 4 = .ok (.getfield 81, 3) := by decide +kernel
theorem dX3_moveTo_7 : decode cX3_moveTo 7 = .ok (.istore_n 2, 1) := by decide +kernel
theorem dX3_moveTo_8 : decode cX3_moveTo 8 = .ok (.aload_n 0, 1) := by decide +kernel
theorem dX3_moveTo_9 : decode cX3_moveTo 9 = .ok (.getfield 12, 3) := by decide +kernel
theorem dX3_moveTo_12 : decode cX3_moveTo 12 = .ok (.iload_n 1, 1) := by decide +kernel
theorem dX3_moveTo_13 : decode cX3_moveTo 13 = .ok (.putfield 81, 3) := by decide +kernel
theorem dX3_moveTo_16 : decode cX3_moveTo 16 = .ok (.aload_n 0, 1) := by decide +kernel
theorem dX3_moveTo_17 : decode cX3_moveTo 17 = .ok (.iconst 0, 1) := by decide +kernel
theorem dX3_moveTo_18 : decode cX3_moveTo 18 = .ok (.putfield 42, 3) := by decide +kernel
theorem dX3_moveTo_21 : decode cX3_moveTo 21 = .ok (.iload_n 2, 1) := by decide +kernel
theorem dX3_moveTo_22 : decode cX3_moveTo 22 = .ok (.ireturn, 1) := by decide +kernel
set_option maxRecDepth 20000 in
theorem ggX3_dropAll_X0_dropEvery : GoodIn wsX3_dropAll wsX0_dropEvery := goodIn_r _ [6, 7, 8, 9, 10, 11, 4, 12, 24, 25, 26, 27, 28, 29, 30] (by decide +kernel) (by decide +kernel)
set_option maxRecDepth 20000 in
theorem gX3_dropAll_X0_dropEvery_n84 : GoodIn wsX3_dropAll (wsX0_dropEvery) := ggX3_dropAll_X0_dropEvery
theorem dX3_dropAll_0 : decode cX3_dropAll 0 = .ok (.aload_n 0, 1) := by decide +kernel
theorem dX3_dropAll_1 : decode cX3_dropAll 1 = .ok (.iconst 0, 1) := by decide +kernel
theorem dX3_dropAll_2 : decode cX3_dropAll 2 = .ok (.putfield 42, 3) := by decide +kernel
theorem dX3_dropAll_5 : decode cX3_dropAll 5 = .ok (.aload_n 0, 1) := by decide +kernel
theorem dX3_dropAll_6 : decode cX3_dropAll 6 = .ok (.getfield 21, 3) := by decide +kernel
theorem dX3_dropAll_9 : decode cX3_dropAll 9 = .ok (.invokevirtual 84, 3) := by decide +kernel
theorem dX3_dropAll_12 : decode cX3_dropAll 12 = .ok (.ireturn, 1) := by decide +kernel
theorem dX3_pendingAt_0 : decode cX3_pendingAt 0 = .ok (.iload_n 1, 1) := by decide +kernel
theorem dX3_pendingAt_1 : decode cX3_pendingAt 1 = .ok (.aload_n 0, 1) := by decide +kernel
theorem dX3_pendingAt_2 : decode cX3_pendingAt 2 = .ok (.getfield 42, 3) := by decide +kernel
theorem dX3_pendingAt_5 : decode cX3_pendingAt 5 = .ok (.if_icmp .ge 12, 3) := by decide +kernel
theorem dX3_pendingAt_8 : decode cX3_pendingAt 8 = .ok (.aload_n 0, 1) := by decide +kernel
theorem dX3_pendingAt_9 : decode cX3_pendingAt 9 = .ok (.getfield 25, 3) := by decide +kernel
theorem dX3_pendingAt_12 : decode cX3_pendingAt 12 = .ok (.iload_n 1, 1) := by decide +kernel
theorem dX3_pendingAt_13 : decode cX3_pendingAt 13 = .ok (.iaload, 1) := by decide +kernel
theorem dX3_pendingAt_14 : decode cX3_pendingAt 14 = .ok (.goto 4, 3) := by decide +kernel
theorem dX3_pendingAt_17 : decode cX3_pendingAt 17 = .ok (.iconst (-1), 1) := by decide +kernel
theorem dX3_pendingAt_18 : decode cX3_pendingAt 18 = .ok (.ireturn, 1) := by decide +kernel
set_option maxRecDepth 20000 in
theorem ggX3_runFetches_X1_choose : GoodIn wsX3_runFetches wsX1_choose := goodIn_r _ [7, 8, 9, 10, 11, 12, 13, 14, 15, 16, 17, 18, 19, 20, 21, 22, 23, 24, 25, 26, 27, 28, 29, 30, 31, 32, 33, 34, 35, 36, 37, 38, 39, 40, 41, 42, 43, 44, 5, 45, 121, 122, 123, 124, 125, 126, 127, 115, 116, 117, 118, 119, 120, 128, 129, 130, 131, 132, 133, 134] (by decide +kernel) (by decide +kernel)
set_option maxRecDepth 20000 in
theorem gX3_runFetches_X1_choose_n88 : GoodIn wsX3_runFetches (wsX1_choose) := ggX3_runFetches_X1_choose
set_option maxRecDepth 20000 in
theorem ggX3_runFetches_X0_use : GoodIn wsX3_runFetches wsX0_use := goodIn_r _ [48, 49, 50, 128, 129, 130, 131, 132, 133, 134] (by decide +kernel) (by decide +kernel)
set_option maxRecDepth 20000 in
theorem gX3_runFetches_X0_use_n97 : GoodIn wsX3_runFetches (wsX0_use) := ggX3_runFetches_X0_use
set_option maxRecDepth 20000 in
theorem ggX3_runFetches_X1_execute : GoodIn wsX3_runFetches wsX1_execute := goodIn_r _ [53, 54, 55, 9, 10, 15, 56, 28, 57, 58, 59, 35, 60, 61, 62, 63, 64, 65, 66, 36, 37, 38, 39, 40, 41, 115, 116, 117, 118, 119, 120, 121, 122, 123, 124, 125, 126, 127] (by decide +kernel) (by decide +kernel)
set_option maxRecDepth 20000 in
theorem gX3_runFetches_X1_execute_n101 : GoodIn wsX3_runFetches (wsX1_execute) := ggX3_runFetches_X1_execute
set_option maxRecDepth 20000 in
theorem ggX3_runFetches_X3_tally : GoodIn wsX3_runFetches wsX3_tally := goodIn_r _ [71, 72, 73, 1, 74, 75, 76, 77, 104, 105, 106, 107, 108, 109, 110, 111, 112, 113, 114, 115, 116, 117, 118, 119, 120] (by decide +kernel) (by decide +kernel)
set_option maxRecDepth 20000 in
theorem gX3_runFetches_X3_tally : GoodIn wsX3_runFetches (wsV RX3 104 RX3 yX3_tally wsX3_tally) := goodIn_app (goodIn_of _ (by decide +kernel)) ggX3_runFetches_X3_tally
set_option maxRecDepth 20000 in
theorem ggX3_runFetches_X3_collect : GoodIn wsX3_runFetches wsX3_collect := goodIn_r _ [81, 82, 83, 3, 84, 85, 86, 70, 87, 2, 88, 17, 89, 90, 22, 91, 23, 92, 12, 13, 14, 93, 94, 16, 18, 95, 96, 97, 98, 99, 46, 47, 48, 49, 50, 100, 101, 102, 103, 104, 105, 106, 107, 108, 109, 110, 111, 112, 113, 114, 121, 122, 123, 124, 125, 126, 127, 128, 129, 130, 131, 132, 133, 134] (by decide +kernel) (by decide +kernel)
set_option maxRecDepth 20000 in
theorem gX3_runFetches_X3_collect : GoodIn wsX3_runFetches (wsV RX3 112 RX3 yX3_collect wsX3_collect) := goodIn_app (goodIn_of _ (by decide +kernel)) ggX3_runFetches_X3_collect
theorem dX3_runFetches_0 : decode cX3_runFetches 0 = .ok (.aload_n 0, 1) := by decide +kernel
theorem dX3_runFetches_1 : decode cX3_runFetches 1 = .ok (.getfield 52, 3) := by decide +kernel
theorem dX3_runFetches_4 : decode cX3_runFetches 4 = .ok (.istore_n 3, 1) := by decide +kernel
theorem dX3_runFetches_5 : decode cX3_runFetches 5 = .ok (.iconst 0, 1) := by decide +kernel
theorem dX3_runFetches_6 : decode cX3_runFetches 6 = .ok (.istore 4, 2) := by decide +kernel
theorem dX3_runFetches_8 : decode cX3_runFetches 8 = .ok (.iload 4, 2) := by decide +kernel
theorem dX3_runFetches_10 : decode cX3_runFetches 10 = .ok (.iload_n 1, 1) := by decide +kernel
theorem dX3_runFetches_11 : decode cX3_runFetches 11 = .ok (.if_icmp .ge 82, 3) := by decide +kernel
theorem dX3_runFetches_14 : decode cX3_runFetches 14 = .ok (.aload_n 2, 1) := by decide +kernel
theorem dX3_runFetches_15 : decode cX3_runFetches 15 = .ok (.aload_n 0, 1) := by decide +kernel
theorem dX3_runFetches_16 : decode cX3_runFetches 16 = .ok (.getfield 12, 3) := by decide +kernel
theorem dX3_runFetches_19 : decode cX3_runFetches 19 = .ok (.aload_n 0, 1) := by decide +kernel
theorem dX3_runFetches_20 : decode cX3_runFetches 20 = .ok (.getfield 21, 3) := by decide +kernel
theorem dX3_runFetches_23 : decode cX3_runFetches 23 = .ok (.invokevirtual 88, 3) := by decide +kernel
theorem dX3_runFetches_26 : decode cX3_runFetches 26 = .ok (.aload_n 2, 1) := by decide +kernel
theorem dX3_runFetches_27 : decode cX3_runFetches 27 = .ok (.getfield 94, 3) := by decide +kernel
theorem dX3_runFetches_30 : decode cX3_runFetches 30 = .ok (.iconst (-1), 1) := by decide +kernel
theorem dX3_runFetches_31 : decode cX3_runFetches 31 = .ok (.if_icmp .eq 14, 3) := by decide +kernel
theorem dX3_runFetches_34 : decode cX3_runFetches 34 = .ok (.aload_n 0, 1) := by decide +kernel
theorem dX3_runFetches_35 : decode cX3_runFetches 35 = .ok (.getfield 21, 3) := by decide +kernel
theorem dX3_runFetches_38 : decode cX3_runFetches 38 = .ok (.aload_n 2, 1) := by decide +kernel
theorem dX3_runFetches_39 : decode cX3_runFetches 39 = .ok (.getfield 94, 3) := by decide +kernel
theorem dX3_runFetches_42 : decode cX3_runFetches 42 = .ok (.invokevirtual 97, 3) := by decide +kernel
theorem dX3_runFetches_45 : decode cX3_runFetches 45 = .ok (.aload_n 2, 1) := by decide +kernel
theorem dX3_runFetches_46 : decode cX3_runFetches 46 = .ok (.aload_n 0, 1) := by decide +kernel
theorem dX3_runFetches_47 : decode cX3_runFetches 47 = .ok (.getfield 12, 3) := by decide +kernel
theorem dX3_runFetches_50 : decode cX3_runFetches 50 = .ok (.invokevirtual 101, 3) := by decide +kernel
theorem dX3_runFetches_53 : decode cX3_runFetches 53 = .ok (.aload_n 0, 1) := by decide +kernel
theorem dX3_runFetches_54 : decode cX3_runFetches 54 = .ok (.aload_n 2, 1) := by decide +kernel
theorem dX3_runFetches_55 : decode cX3_runFetches 55 = .ok (.invokevirtual 104, 3) := by decide +kernel
theorem dX3_runFetches_58 : decode cX3_runFetches 58 = .ok (.iconst 0, 1) := by decide +kernel
theorem dX3_runFetches_59 : decode cX3_runFetches 59 = .ok (.istore 5, 2) := by decide +kernel
theorem dX3_runFetches_61 : decode cX3_runFetches 61 = .ok (.iload 5, 2) := by decide +kernel
theorem dX3_runFetches_63 : decode cX3_runFetches 63 = .ok (.aload_n 2, 1) := by decide +kernel
theorem dX3_runFetches_64 : decode cX3_runFetches 64 = .ok (.getfield 108, 3) := by decide +kernel
theorem dX3_runFetches_67 : decode cX3_runFetches 67 = .ok (.if_icmp .ge 20, 3) := by decide +kernel
theorem dX3_runFetches_70 : decode cX3_runFetches 70 = .ok (.aload_n 0, 1) := by decide +kernel
theorem dX3_runFetches_71 : decode cX3_runFetches 71 = .ok (.aload_n 2, 1) := by decide +kernel
theorem dX3_runFetches_72 : decode cX3_runFetches 72 = .ok (.getfield 109, 3) := by decide +kernel
theorem dX3_runFetches_75 : decode cX3_runFetches 75 = .ok (.iload 5, 2) := by decide +kernel
theorem dX3_runFetches_77 : decode cX3_runFetches 77 = .ok (.iaload, 1) := by decide +kernel
theorem dX3_runFetches_78 : decode cX3_runFetches 78 = .ok (.invokevirtual 112, 3) := by decide +kernel
theorem dX3_runFetches_81 : decode cX3_runFetches 81 = .ok (.iinc 5 1, 3) := by decide +kernel
theorem dX3_runFetches_84 : decode cX3_runFetches 84 = .ok (.goto (-23), 3) := by decide +kernel
theorem dX3_runFetches_87 : decode cX3_runFetches 87 = .ok (.iinc 4 1, 3) := by decide +kernel
theorem dX3_runFetches_90 : decode cX3_runFetches 90 = .ok (.goto (-82), 3) := by decide +kernel
theorem dX3_runFetches_93 : decode cX3_runFetches 93 = .ok (.aload_n 0, 1) := by decide +kernel
theorem dX3_runFetches_94 : decode cX3_runFetches 94 = .ok (.getfield 52, 3) := by decide +kernel
theorem dX3_runFetches_97 : decode cX3_runFetches 97 = .ok (.iload_n 3, 1) := by decide +kernel
theorem dX3_runFetches_98 : decode cX3_runFetches 98 = .ok (.isub, 1) := by decide +kernel
theorem dX3_runFetches_99 : decode cX3_runFetches 99 = .ok (.ireturn, 1) := by decide +kernel
theorem dX3_tally_0 : decode cX3_tally 0 = .ok (.aload_n 0, 1) := by decide +kernel
theorem dX3_tally_1 : decode cX3_tally 1 = .ok (.dup, 1) := by decide +kernel
theorem dX3_tally_2 : decode cX3_tally 2 = .ok (.getfield 46, 3) := by decide +kernel
theorem dX3_tally_5 : decode cX3_tally 5 = .ok (.iconst 1, 1) := by decide +kernel
theorem dX3_tally_6 : decode cX3_tally 6 = .ok (.iconst 3, 1) := by decide +kernel
theorem dX3_tally_7 : decode cX3_tally 7 = .ok (.aload_n 1, 1) := by decide +kernel
theorem dX3_tally_8 : decode cX3_tally 8 = .ok (.getfield 115, 3) := by decide +kernel
theorem dX3_tally_11 : decode cX3_tally 11 = .ok (.imul, 1) := by decide +kernel
theorem dX3_tally_12 : decode cX3_tally 12 = .ok (.iadd, 1) := by decide +kernel
theorem dX3_tally_13 : decode cX3_tally 13 = .ok (.iadd, 1) := by decide +kernel
theorem dX3_tally_14 : decode cX3_tally 14 = .ok (.putfield 46, 3) := by decide +kernel
theorem dX3_tally_17 : decode cX3_tally 17 = .ok (.aload_n 0, 1) := by decide +kernel
theorem dX3_tally_18 : decode cX3_tally 18 = .ok (.dup, 1) := by decide +kernel
theorem dX3_tally_19 : decode cX3_tally 19 = .ok (.getfield 49, 3) := by decide +kernel
theorem dX3_tally_22 : decode cX3_tally 22 = .ok (.iconst 1, 1) := by decide +kernel
theorem dX3_tally_23 : decode cX3_tally 23 = .ok (.iadd, 1) := by decide +kernel
theorem dX3_tally_24 : decode cX3_tally 24 = .ok (.putfield 49, 3) := by decide +kernel
theorem dX3_tally_27 : decode cX3_tally 27 = .ok (.aload_n 0, 1) := by decide +kernel
theorem dX3_tally_28 : decode cX3_tally 28 = .ok (.dup, 1) := by decide +kernel
theorem dX3_tally_29 : decode cX3_tally 29 = .ok (.getfield 52, 3) := by decide +kernel
theorem dX3_tally_32 : decode cX3_tally 32 = .ok (.aload_n 1, 1) := by decide +kernel
theorem dX3_tally_33 : decode cX3_tally 33 = .ok (.getfield 108, 3) := by decide +kernel
theorem dX3_tally_36 : decode cX3_tally 36 = .ok (.iadd, 1) := by decide +kernel
theorem dX3_tally_37 : decode cX3_tally 37 = .ok (.putfield 52, 3) := by decide +kernel
theorem dX3_tally_40 : decode cX3_tally 40 = .ok (.aload_n 0, 1) := by decide +kernel
theorem dX3_tally_41 : decode cX3_tally 41 = .ok (.dup, 1) := by decide +kernel
theorem dX3_tally_42 : decode cX3_tally 42 = .ok (.getfield 55, 3) := by decide +kernel
theorem dX3_tally_45 : decode cX3_tally 45 = .ok (.aload_n 1, 1) := by decide +kernel
theorem dX3_tally_46 : decode cX3_tally 46 = .ok (.getfield 116, 3) := by decide +kernel
theorem dX3_tally_49 : decode cX3_tally 49 = .ok (.aload_n 1, 1) := by decide +kernel
theorem dX3_tally_50 : decode cX3_tally 50 = .ok (.getfield 108, 3) := by decide +kernel
theorem dX3_tally_53 : decode cX3_tally 53 = .ok (.isub, 1) := by decide +kernel
theorem dX3_tally_54 : decode cX3_tally 54 = .ok (.iadd, 1) := by decide +kernel
theorem dX3_tally_55 : decode cX3_tally 55 = .ok (.putfield 55, 3) := by decide +kernel
theorem dX3_tally_58 : decode cX3_tally 58 = .ok (.aload_n 0, 1) := by decide +kernel
theorem dX3_tally_59 : decode cX3_tally 59 = .ok (.dup, 1) := by decide +kernel
theorem dX3_tally_60 : decode cX3_tally 60 = .ok (.getfield 58, 3) := by decide +kernel
theorem dX3_tally_63 : decode cX3_tally 63 = .ok (.aload_n 1, 1) := by decide +kernel
theorem dX3_tally_64 : decode cX3_tally 64 = .ok (.getfield 115, 3) := by decide +kernel
theorem dX3_tally_67 : decode cX3_tally 67 = .ok (.iadd, 1) := by decide +kernel
theorem dX3_tally_68 : decode cX3_tally 68 = .ok (.putfield 58, 3) := by decide +kernel
theorem dX3_tally_71 : decode cX3_tally 71 = .ok (.aload_n 1, 1) := by decide +kernel
theorem dX3_tally_72 : decode cX3_tally 72 = .ok (.getfield 94, 3) := by decide +kernel
theorem dX3_tally_75 : decode cX3_tally 75 = .ok (.iconst (-1), 1) := by decide +kernel
theorem dX3_tally_76 : decode cX3_tally 76 = .ok (.if_icmp .eq 26, 3) := by decide +kernel
theorem dX3_tally_79 : decode cX3_tally 79 = .ok (.aload_n 0, 1) := by decide +kernel
theorem dX3_tally_80 : decode cX3_tally 80 = .ok (.dup, 1) := by decide +kernel
theorem dX3_tally_81 : decode cX3_tally 81 = .ok (.getfield 61, 3) := by decide +kernel
theorem dX3_tally_84 : decode cX3_tally 84 = .ok (.aload_n 1, 1) := by decide +kernel
theorem dX3_tally_85 : decode cX3_tally 85 = .ok (.getfield 108, 3) := by decide +kernel
theorem dX3_tally_88 : decode cX3_tally 88 = .ok (.iadd, 1) := by decide +kernel
theorem dX3_tally_89 : decode cX3_tally 89 = .ok (.putfield 61, 3) := by decide +kernel
theorem dX3_tally_92 : decode cX3_tally 92 = .ok (.aload_n 0, 1) := by decide +kernel
theorem dX3_tally_93 : decode cX3_tally 93 = .ok (.dup, 1) := by decide +kernel
theorem dX3_tally_94 : decode cX3_tally 94 = .ok (.getfield 64, 3) := by decide +kernel
theorem dX3_tally_97 : decode cX3_tally 97 = .ok (.iconst 1, 1) := by decide +kernel
theorem dX3_tally_98 : decode cX3_tally 98 = .ok (.iadd, 1) := by decide +kernel
theorem dX3_tally_99 : decode cX3_tally 99 = .ok (.putfield 64, 3) := by decide +kernel
theorem dX3_tally_102 : decode cX3_tally 102 = .ok (.return_, 1) := by decide +kernel
set_option maxRecDepth 20000 in
theorem ggX3_collect_X3_pendingBranches : GoodIn wsX3_collect wsX3_pendingBranches := goodIn_r _ [8, 1, 9, 2, 39, 40, 41, 42, 43, 44, 45, 46, 47, 48, 49, 50, 51, 52, 53, 54, 55, 56] (by decide +kernel) (by decide +kernel)
set_option maxRecDepth 20000 in
theorem gX3_collect_X3_pendingBranches : GoodIn wsX3_collect (wsV RX3 119 RX3 yX3_pendingBranches wsX3_pendingBranches) := goodIn_app (goodIn_of _ (by decide +kernel)) ggX3_collect_X3_pendingBranches
set_option maxRecDepth 20000 in
theorem ggX3_collect_X0_store : GoodIn wsX3_collect wsX0_store := goodIn_r _ [13, 14, 15, 16, 17, 18, 19, 20, 21, 22, 23, 11, 24, 25, 26, 27, 28, 29, 30, 31, 32, 33, 34, 35, 36, 37, 38, 57, 58, 59, 60, 61, 62, 63] (by decide +kernel) (by decide +kernel)
set_option maxRecDepth 20000 in
theorem gX3_collect_X0_store_n122 : GoodIn wsX3_collect (wsX0_store) := ggX3_collect_X0_store
theorem dX3_collect_0 : decode cX3_collect 0 = .ok (.aload_n 0, 1) := by decide +kernel
theorem dX3_collect_1 : decode cX3_collect 1 = .ok (.getfield 42, 3) := by decide +kernel
theorem dX3_collect_4 : decode cX3_collect 4 = .ok (.bipush 8, 2) := by decide +kernel
theorem dX3_collect_6 : decode cX3_collect 6 = .ok (.if_icmp .ge 23, 3) := by decide +kernel
theorem dX3_collect_9 : decode cX3_collect 9 = .ok (.aload_n 0, 1) := by decide +kernel
theorem dX3_collect_10 : decode cX3_collect 10 = .ok (.getfield 25, 3) := by decide +kernel
theorem dX3_collect_13 : decode cX3_collect 13 = .ok (.aload_n 0, 1) := by decide +kernel
theorem dX3_collect_14 : decode cX3_collect 14 = .ok (.getfield 42, 3) := by decide +kernel
theorem dX3_collect_17 : decode cX3_collect 17 = .ok (.iload_n 1, 1) := by decide +kernel
theorem dX3_collect_18 : decode cX3_collect 18 = .ok (.iastore, 1) := by decide +kernel
theorem dX3_collect_19 : decode cX3_collect 19 = .ok (.aload_n 0, 1) := by decide +kernel
theorem dX3_collect_20 : decode cX3_collect 20 = .ok (.dup, 1) := by decide +kernel
theorem dX3_collect_21 : decode cX3_collect 21 = .ok (.getfield 42, 3) := by decide +kernel
theorem dX3_collect_24 : decode cX3_collect 24 = .ok (.iconst 1, 1) := by decide +kernel
theorem dX3_collect_25 : decode cX3_collect 25 = .ok (.iadd, 1) := by decide +kernel
theorem dX3_collect_26 : decode cX3_collect 26 = .ok (.putfield 42, 3) := by decide +kernel
theorem dX3_collect_29 : decode cX3_collect 29 = .ok (.aload_n 0, 1) := by decide +kernel
theorem dX3_collect_30 : decode cX3_collect 30 = .ok (.getfield 42, 3) := by decide +kernel
theorem dX3_collect_33 : decode cX3_collect 33 = .ok (.bipush 8, 2) := by decide +kernel
theorem dX3_collect_35 : decode cX3_collect 35 = .ok (.if_icmp .eq 11, 3) := by decide +kernel
theorem dX3_collect_38 : decode cX3_collect 38 = .ok (.aload_n 0, 1) := by decide +kernel
theorem dX3_collect_39 : decode cX3_collect 39 = .ok (.invokevirtual 119, 3) := by decide +kernel
theorem dX3_collect_42 : decode cX3_collect 42 = .ok (.iconst 3, 1) := by decide +kernel
theorem dX3_collect_43 : decode cX3_collect 43 = .ok (.if_icmp .ne 23, 3) := by decide +kernel
theorem dX3_collect_46 : decode cX3_collect 46 = .ok (.aload_n 0, 1) := by decide +kernel
theorem dX3_collect_47 : decode cX3_collect 47 = .ok (.getfield 21, 3) := by decide +kernel
theorem dX3_collect_50 : decode cX3_collect 50 = .ok (.aload_n 0, 1) := by decide +kernel
theorem dX3_collect_51 : decode cX3_collect 51 = .ok (.getfield 25, 3) := by decide +kernel
theorem dX3_collect_54 : decode cX3_collect 54 = .ok (.aload_n 0, 1) := by decide +kernel
theorem dX3_collect_55 : decode cX3_collect 55 = .ok (.getfield 42, 3) := by decide +kernel
theorem dX3_collect_58 : decode cX3_collect 58 = .ok (.invokevirtual 122, 3) := by decide +kernel
theorem dX3_collect_61 : decode cX3_collect 61 = .ok (.aload_n 0, 1) := by decide +kernel
theorem dX3_collect_62 : decode cX3_collect 62 = .ok (.iconst 0, 1) := by decide +kernel
theorem dX3_collect_63 : decode cX3_collect 63 = .ok (.putfield 42, 3) := by decide +kernel
theorem dX3_collect_66 : decode cX3_collect 66 = .ok (.return_, 1) := by decide +kernel
theorem dX3_pendingBranches_0 : decode cX3_pendingBranches 0 = .ok (.iconst 0, 1) := by decide +kernel
theorem dX3_pendingBranches_1 : decode cX3_pendingBranches 1 = .ok (.istore_n 1, 1) := by decide +kernel
theorem dX3_pendingBranches_2 : decode cX3_pendingBranches 2 = .ok (.iconst 0, 1) := by decide +kernel
theorem dX3_pendingBranches_3 : decode cX3_pendingBranches 3 = .ok (.istore_n 2, 1) := by decide +kernel
theorem dX3_pendingBranches_4 : decode cX3_pendingBranches 4 = .ok (.iload_n 2, 1) := by decide +kernel
theorem dX3_pendingBranches_5 : decode cX3_pendingBranches 5 = .ok (.aload_n 0, 1) := by decide +kernel
theorem dX3_pendingBranches_6 : decode cX3_pendingBranches 6 = .ok (.getfield 42, 3) := by decide +kernel
theorem dX3_pendingBranches_9 : decode cX3_pendingBranches 9 = .ok (.if_icmp .ge 30, 3) := by decide +kernel
theorem dX3_pendingBranches_12 : decode cX3_pendingBranches 12 = .ok (.aload_n 0, 1) := by decide +kernel
theorem dX3_pendingBranches_13 : decode cX3_pendingBranches 13 = .ok (.getfield 12, 3) := by decide +kernel
theorem dX3_pendingBranches_16 : decode cX3_pendingBranches 16 = .ok (.getfield 67, 3) := by decide +kernel
theorem dX3_pendingBranches_19 : decode cX3_pendingBranches 19 = .ok (.aload_n 0, 1) := by decide +kernel
theorem dX3_pendingBranches_20 : decode cX3_pendingBranches 20 = .ok (.getfield 25, 3) := by decide +kernel
theorem dX3_pendingBranches_23 : decode cX3_pendingBranches 23 = .ok (.iload_n 2, 1) := by decide +kernel
theorem dX3_pendingBranches_24 : decode cX3_pendingBranches 24 = .ok (.iaload, 1) := by decide +kernel
theorem dX3_pendingBranches_25 : decode cX3_pendingBranches 25 = .ok (.iaload, 1) := by decide +kernel
theorem dX3_pendingBranches_26 : decode cX3_pendingBranches 26 = .ok (.iconst 2, 1) := by decide +kernel
theorem dX3_pendingBranches_27 : decode cX3_pendingBranches 27 = .ok (.if_icmp .ne 6, 3) := by decide +kernel
theorem dX3_pendingBranches_30 : decode cX3_pendingBranches 30 = .ok (.iinc 1 1, 3) := by decide +kernel
theorem dX3_pendingBranches_33 : decode cX3_pendingBranches 33 = .ok (.iinc 2 1, 3) := by decide +kernel
theorem dX3_pendingBranches_36 : decode cX3_pendingBranches 36 = .ok (.goto (-32), 3) := by decide +kernel
theorem dX3_pendingBranches_39 : decode cX3_pendingBranches 39 = .ok (.iload_n 1, 1) := by decide +kernel
theorem dX3_pendingBranches_40 : decode cX3_pendingBranches 40 = .ok (.ireturn, 1) := by decide +kernel
