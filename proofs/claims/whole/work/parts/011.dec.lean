theorem dX11_init_0 : decode cX11_init 0 = .ok (.aload_n 0, 1) := by decide +kernel
theorem dX11_init_1 : decode cX11_init 1 = .ok (.invokespecial 1, 3) := by decide +kernel
theorem dX11_init_4 : decode cX11_init 4 = .ok (.aload_n 0, 1) := by decide +kernel
theorem dX11_init_5 : decode cX11_init 5 = .ok (.new 7, 3) := by decide +kernel
theorem dX11_init_8 : decode cX11_init 8 = .ok (.dup, 1) := by decide +kernel
theorem dX11_init_9 : decode cX11_init 9 = .ok (.invokespecial 9, 3) := by decide +kernel
theorem dX11_init_12 : decode cX11_init 12 = .ok (.putfield 10, 3) := by decide +kernel
theorem dX11_init_15 : decode cX11_init 15 = .ok (.aload_n 0, 1) := by decide +kernel
theorem dX11_init_16 : decode cX11_init 16 = .ok (.new 7, 3) := by decide +kernel
theorem dX11_init_19 : decode cX11_init 19 = .ok (.dup, 1) := by decide +kernel
theorem dX11_init_20 : decode cX11_init 20 = .ok (.invokespecial 9, 3) := by decide +kernel
theorem dX11_init_23 : decode cX11_init 23 = .ok (.putfield 16, 3) := by decide +kernel
theorem dX11_init_26 : decode cX11_init 26 = .ok (.aload_n 0, 1) := by decide +kernel
theorem dX11_init_27 : decode cX11_init 27 = .ok (.iconst 2, 1) := by decide +kernel
theorem dX11_init_28 : decode cX11_init 28 = .ok (.anewarray 7, 3) := by decide +kernel
theorem dX11_init_31 : decode cX11_init 31 = .ok (.putfield 19, 3) := by decide +kernel
theorem dX11_init_34 : decode cX11_init 34 = .ok (.aload_n 0, 1) := by decide +kernel
theorem dX11_init_35 : decode cX11_init 35 = .ok (.new 23, 3) := by decide +kernel
theorem dX11_init_38 : decode cX11_init 38 = .ok (.dup, 1) := by decide +kernel
theorem dX11_init_39 : decode cX11_init 39 = .ok (.invokespecial 25, 3) := by decide +kernel
theorem dX11_init_42 : decode cX11_init 42 = .ok (.putfield 26, 3) := by decide +kernel
theorem dX11_init_45 : decode cX11_init 45 = .ok (.aload_n 0, 1) := by decide +kernel
theorem dX11_init_46 : decode cX11_init 46 = .ok (.new 30, 3) := by decide +kernel
theorem dX11_init_49 : decode cX11_init 49 = .ok (.dup, 1) := by decide +kernel
theorem dX11_init_50 : decode cX11_init 50 = .ok (.invokespecial 32, 3) := by decide +kernel
theorem dX11_init_53 : decode cX11_init 53 = .ok (.putfield 33, 3) := by decide +kernel
theorem dX11_init_56 : decode cX11_init 56 = .ok (.aload_n 0, 1) := by decide +kernel
theorem dX11_init_57 : decode cX11_init 57 = .ok (.new 37, 3) := by decide +kernel
theorem dX11_init_60 : decode cX11_init 60 = .ok (.dup, 1) := by decide +kernel
theorem dX11_init_61 : decode cX11_init 61 = .ok (.invokespecial 39, 3) := by decide +kernel
theorem dX11_init_64 : decode cX11_init 64 = .ok (.putfield 40, 3) := by decide +kernel
theorem dX11_init_67 : decode cX11_init 67 = .ok (.aload_n 0, 1) := by decide +kernel
theorem dX11_init_68 : decode cX11_init 68 = .ok (.new 44, 3) := by decide +kernel
theorem dX11_init_71 : decode cX11_init 71 = .ok (.dup, 1) := by decide +kernel
theorem dX11_init_72 : decode cX11_init 72 = .ok (.invokespecial 46, 3) := by decide +kernel
theorem dX11_init_75 : decode cX11_init 75 = .ok (.putfield 47, 3) := by decide +kernel
theorem dX11_init_78 : decode cX11_init 78 = .ok (.aload_n 0, 1) := by decide +kernel
theorem dX11_init_79 : decode cX11_init 79 = .ok (.new 51, 3) := by decide +kernel
theorem dX11_init_82 : decode cX11_init 82 = .ok (.dup, 1) := by decide +kernel
theorem dX11_init_83 : decode cX11_init 83 = .ok (.invokespecial 53, 3) := by decide +kernel
theorem dX11_init_86 : decode cX11_init 86 = .ok (.putfield 54, 3) := by decide +kernel
theorem dX11_init_89 : decode cX11_init 89 = .ok (.return_, 1) := by decide +kernel
theorem dX11_setLayout_0 : decode cX11_setLayout 0 = .ok (.iload_n 1, 1) := by decide +kernel
theorem dX11_setLayout_1 : decode cX11_setLayout 1 = .ok (.iconst 1, 1) := by decide +kernel
theorem dX11_setLayout_2 : decode cX11_setLayout 2 = .ok (.bipush 6, 2) := by decide +kernel
theorem dX11_setLayout_4 : decode cX11_setLayout 4 = .ok (.invokestatic 58, 3) := by decide +kernel
theorem dX11_setLayout_7 : decode cX11_setLayout 7 = .ok (.iload_n 2, 1) := by decide +kernel
theorem dX11_setLayout_8 : decode cX11_setLayout 8 = .ok (.iconst 2, 1) := by decide +kernel
theorem dX11_setLayout_9 : decode cX11_setLayout 9 = .ok (.bipush 20, 2) := by decide +kernel
theorem dX11_setLayout_11 : decode cX11_setLayout 11 = .ok (.invokestatic 58, 3) := by decide +kernel
theorem dX11_setLayout_14 : decode cX11_setLayout 14 = .ok (.iload_n 3, 1) := by decide +kernel
theorem dX11_setLayout_15 : decode cX11_setLayout 15 = .ok (.iconst 1, 1) := by decide +kernel
theorem dX11_setLayout_16 : decode cX11_setLayout 16 = .ok (.bipush 9, 2) := by decide +kernel
theorem dX11_setLayout_18 : decode cX11_setLayout 18 = .ok (.invokestatic 58, 3) := by decide +kernel
theorem dX11_setLayout_21 : decode cX11_setLayout 21 = .ok (.aload_n 0, 1) := by decide +kernel
theorem dX11_setLayout_22 : decode cX11_setLayout 22 = .ok (.getfield 10, 3) := by decide +kernel
theorem dX11_setLayout_25 : decode cX11_setLayout 25 = .ok (.getfield 62, 3) := by decide +kernel
theorem dX11_setLayout_28 : decode cX11_setLayout 28 = .ok (.getfield 66, 3) := by decide +kernel
theorem dX11_setLayout_31 : decode cX11_setLayout 31 = .ok (.ifCond .le 13, 3) := by decide +kernel
theorem dX11_setLayout_34 : decode cX11_setLayout 34 = .ok (.new 72, 3) := by decide +kernel
theorem dX11_setLayout_37 : decode cX11_setLayout 37 = .ok (.dup, 1) := by decide +kernel
theorem dX11_setLayout_38 : decode cX11_setLayout 38 = .ok (.ldc 74, 2) := by decide +kernel
theorem dX11_setLayout_40 : decode cX11_setLayout 40 = .ok (.invokespecial 76, 3) := by decide +kernel
theorem dX11_setLayout_43 : decode cX11_setLayout 43 = .ok (.athrow, 1) := by decide +kernel
theorem dX11_setLayout_44 : decode cX11_setLayout 44 = .ok (.aload_n 0, 1) := by decide +kernel
theorem dX11_setLayout_45 : decode cX11_setLayout 45 = .ok (.getfield 10, 3) := by decide +kernel
theorem dX11_setLayout_48 : decode cX11_setLayout 48 = .ok (.getfield 79, 3) := by decide +kernel
theorem dX11_setLayout_51 : decode cX11_setLayout 51 = .ok (.iload_n 1, 1) := by decide +kernel
theorem dX11_setLayout_52 : decode cX11_setLayout 52 = .ok (.iload_n 2, 1) := by decide +kernel
theorem dX11_setLayout_53 : decode cX11_setLayout 53 = .ok (.iload_n 3, 1) := by decide +kernel
theorem dX11_setLayout_54 : decode cX11_setLayout 54 = .ok (.invokevirtual 83, 3) := by decide +kernel
theorem dX11_setLayout_57 : decode cX11_setLayout 57 = .ok (.iload_n 1, 1) := by decide +kernel
theorem dX11_setLayout_58 : decode cX11_setLayout 58 = .ok (.iload_n 2, 1) := by decide +kernel
theorem dX11_setLayout_59 : decode cX11_setLayout 59 = .ok (.imul, 1) := by decide +kernel
theorem dX11_setLayout_60 : decode cX11_setLayout 60 = .ok (.ireturn, 1) := by decide +kernel
theorem dX11_aisleCount_0 : decode cX11_aisleCount 0 = .ok (.aload_n 0, 1) := by decide +kernel
theorem dX11_aisleCount_1 : decode cX11_aisleCount 1 = .ok (.getfield 10, 3) := by decide +kernel
theorem dX11_aisleCount_4 : decode cX11_aisleCount 4 = .ok (.getfield 79, 3) := by decide +kernel
theorem dX11_aisleCount_7 : decode cX11_aisleCount 7 = .ok (.getfield 88, 3) := by decide +kernel
theorem dX11_aisleCount_10 : decode cX11_aisleCount 10 = .ok (.ireturn, 1) := by decide +kernel
theorem dX11_addItem_0 : decode cX11_addItem 0 = .ok (.aload_n 0, 1) := by decide +kernel
theorem dX11_addItem_1 : decode cX11_addItem 1 = .ok (.iload_n 1, 1) := by decide +kernel
theorem dX11_addItem_2 : decode cX11_addItem 2 = .ok (.invokevirtual 91, 3) := by decide +kernel
theorem dX11_addItem_5 : decode cX11_addItem 5 = .ok (.iload_n 2, 1) := by decide +kernel
theorem dX11_addItem_6 : decode cX11_addItem 6 = .ok (.iconst 1, 1) := by decide +kernel
theorem dX11_addItem_7 : decode cX11_addItem 7 = .ok (.isub, 1) := by decide +kernel
theorem dX11_addItem_8 : decode cX11_addItem 8 = .ok (.aload_n 0, 1) := by decide +kernel
theorem dX11_addItem_9 : decode cX11_addItem 9 = .ok (.getfield 10, 3) := by decide +kernel
theorem dX11_addItem_12 : decode cX11_addItem 12 = .ok (.getfield 79, 3) := by decide +kernel
theorem dX11_addItem_15 : decode cX11_addItem 15 = .ok (.getfield 95, 3) := by decide +kernel
theorem dX11_addItem_18 : decode cX11_addItem 18 = .ok (.invokestatic 98, 3) := by decide +kernel
theorem dX11_addItem_21 : decode cX11_addItem 21 = .ok (.iload_n 3, 1) := by decide +kernel
theorem dX11_addItem_22 : decode cX11_addItem 22 = .ok (.iconst 1, 1) := by decide +kernel
theorem dX11_addItem_23 : decode cX11_addItem 23 = .ok (.bipush 50, 2) := by decide +kernel
theorem dX11_addItem_25 : decode cX11_addItem 25 = .ok (.invokestatic 58, 3) := by decide +kernel
theorem dX11_addItem_28 : decode cX11_addItem 28 = .ok (.iload 4, 2) := by decide +kernel
theorem dX11_addItem_30 : decode cX11_addItem 30 = .ok (.iconst 0, 1) := by decide +kernel
theorem dX11_addItem_31 : decode cX11_addItem 31 = .ok (.sipush 999, 3) := by decide +kernel
theorem dX11_addItem_34 : decode cX11_addItem 34 = .ok (.invokestatic 58, 3) := by decide +kernel
theorem dX11_addItem_37 : decode cX11_addItem 37 = .ok (.aload_n 0, 1) := by decide +kernel
theorem dX11_addItem_38 : decode cX11_addItem 38 = .ok (.getfield 10, 3) := by decide +kernel
theorem dX11_addItem_41 : decode cX11_addItem 41 = .ok (.getfield 62, 3) := by decide +kernel
theorem dX11_addItem_44 : decode cX11_addItem 44 = .ok (.getfield 66, 3) := by decide +kernel
theorem dX11_addItem_47 : decode cX11_addItem 47 = .ok (.bipush 24, 2) := by decide +kernel
theorem dX11_addItem_49 : decode cX11_addItem 49 = .ok (.if_icmp .lt 13, 3) := by decide +kernel
theorem dX11_addItem_52 : decode cX11_addItem 52 = .ok (.new 72, 3) := by decide +kernel
theorem dX11_addItem_55 : decode cX11_addItem 55 = .ok (.dup, 1) := by decide +kernel
theorem dX11_addItem_56 : decode cX11_addItem 56 = .ok (.ldc 102, 2) := by decide +kernel
theorem dX11_addItem_58 : decode cX11_addItem 58 = .ok (.invokespecial 76, 3) := by decide +kernel
theorem dX11_addItem_61 : decode cX11_addItem 61 = .ok (.athrow, 1) := by decide +kernel
theorem dX11_addItem_62 : decode cX11_addItem 62 = .ok (.aload_n 0, 1) := by decide +kernel
theorem dX11_addItem_63 : decode cX11_addItem 63 = .ok (.getfield 10, 3) := by decide +kernel
theorem dX11_addItem_66 : decode cX11_addItem 66 = .ok (.getfield 62, 3) := by decide +kernel
theorem dX11_addItem_69 : decode cX11_addItem 69 = .ok (.iload_n 1, 1) := by decide +kernel
theorem dX11_addItem_70 : decode cX11_addItem 70 = .ok (.iload_n 2, 1) := by decide +kernel
theorem dX11_addItem_71 : decode cX11_addItem 71 = .ok (.iload_n 3, 1) := by decide +kernel
theorem dX11_addItem_72 : decode cX11_addItem 72 = .ok (.iload 4, 2) := by decide +kernel
theorem dX11_addItem_74 : decode cX11_addItem 74 = .ok (.invokevirtual 104, 3) := by decide +kernel
theorem dX11_addItem_77 : decode cX11_addItem 77 = .ok (.ireturn, 1) := by decide +kernel
theorem dX11_itemCount_0 : decode cX11_itemCount 0 = .ok (.aload_n 0, 1) := by decide +kernel
theorem dX11_itemCount_1 : decode cX11_itemCount 1 = .ok (.getfield 10, 3) := by decide +kernel
theorem dX11_itemCount_4 : decode cX11_itemCount 4 = .ok (.getfield 62, 3) := by decide +kernel
theorem dX11_itemCount_7 : decode cX11_itemCount 7 = .ok (.getfield 66, 3) := by decide +kernel
theorem dX11_itemCount_10 : decode cX11_itemCount 10 = .ok (.ireturn, 1) := by decide +kernel
theorem dX11_stock_0 : decode cX11_stock 0 = .ok (.aload_n 0, 1) := by decide +kernel
theorem dX11_stock_1 : decode cX11_stock 1 = .ok (.iload_n 1, 1) := by decide +kernel
theorem dX11_stock_2 : decode cX11_stock 2 = .ok (.invokevirtual 108, 3) := by decide +kernel
theorem dX11_stock_5 : decode cX11_stock 5 = .ok (.aload_n 0, 1) := by decide +kernel
theorem dX11_stock_6 : decode cX11_stock 6 = .ok (.getfield 10, 3) := by decide +kernel
theorem dX11_stock_9 : decode cX11_stock 9 = .ok (.getfield 62, 3) := by decide +kernel
theorem dX11_stock_12 : decode cX11_stock 12 = .ok (.getfield 111, 3) := by decide +kernel
theorem dX11_stock_15 : decode cX11_stock 15 = .ok (.iload_n 1, 1) := by decide +kernel
theorem dX11_stock_16 : decode cX11_stock 16 = .ok (.iaload, 1) := by decide +kernel
theorem dX11_stock_17 : decode cX11_stock 17 = .ok (.ireturn, 1) := by decide +kernel
theorem dX11_restock_0 : decode cX11_restock 0 = .ok (.aload_n 0, 1) := by decide +kernel
theorem dX11_restock_1 : decode cX11_restock 1 = .ok (.iload_n 1, 1) := by decide +kernel
theorem dX11_restock_2 : decode cX11_restock 2 = .ok (.invokevirtual 108, 3) := by decide +kernel
theorem dX11_restock_5 : decode cX11_restock 5 = .ok (.iload_n 2, 1) := by decide +kernel
theorem dX11_restock_6 : decode cX11_restock 6 = .ok (.iconst 1, 1) := by decide +kernel
theorem dX11_restock_7 : decode cX11_restock 7 = .ok (.sipush 999, 3) := by decide +kernel
theorem dX11_restock_10 : decode cX11_restock 10 = .ok (.aload_n 0, 1) := by decide +kernel
theorem dX11_restock_11 : decode cX11_restock 11 = .ok (.getfield 10, 3) := by decide +kernel
theorem dX11_restock_14 : decode cX11_restock 14 = .ok (.getfield 62, 3) := by decide +kernel
theorem dX11_restock_17 : decode cX11_restock 17 = .ok (.getfield 111, 3) := by decide +kernel
theorem dX11_restock_20 : decode cX11_restock 20 = .ok (.iload_n 1, 1) := by decide +kernel
theorem dX11_restock_21 : decode cX11_restock 21 = .ok (.iaload, 1) := by decide +kernel
theorem dX11_restock_22 : decode cX11_restock 22 = .ok (.isub, 1) := by decide +kernel
theorem dX11_restock_23 : decode cX11_restock 23 = .ok (.invokestatic 58, 3) := by decide +kernel
theorem dX11_restock_26 : decode cX11_restock 26 = .ok (.aload_n 0, 1) := by decide +kernel
theorem dX11_restock_27 : decode cX11_restock 27 = .ok (.getfield 10, 3) := by decide +kernel
theorem dX11_restock_30 : decode cX11_restock 30 = .ok (.getfield 62, 3) := by decide +kernel
theorem dX11_restock_33 : decode cX11_restock 33 = .ok (.getfield 111, 3) := by decide +kernel
theorem dX11_restock_36 : decode cX11_restock 36 = .ok (.iload_n 1, 1) := by decide +kernel
theorem dX11_restock_37 : decode cX11_restock 37 = .ok (.dup2, 1) := by decide +kernel
theorem dX11_restock_38 : decode cX11_restock 38 = .ok (.iaload, 1) := by decide +kernel
theorem dX11_restock_39 : decode cX11_restock 39 = .ok (.iload_n 2, 1) := by decide +kernel
theorem dX11_restock_40 : decode cX11_restock 40 = .ok (.iadd, 1) := by decide +kernel
theorem dX11_restock_41 : decode cX11_restock 41 = .ok (.iastore, 1) := by decide +kernel
theorem dX11_restock_42 : decode cX11_restock 42 = .ok (.aload_n 0, 1) := by decide +kernel
theorem dX11_restock_43 : decode cX11_restock 43 = .ok (.getfield 10, 3) := by decide +kernel
theorem dX11_restock_46 : decode cX11_restock 46 = .ok (.getfield 62, 3) := by decide +kernel
theorem dX11_restock_49 : decode cX11_restock 49 = .ok (.getfield 111, 3) := by decide +kernel
theorem dX11_restock_52 : decode cX11_restock 52 = .ok (.iload_n 1, 1) := by decide +kernel
theorem dX11_restock_53 : decode cX11_restock 53 = .ok (.iaload, 1) := by decide +kernel
theorem dX11_restock_54 : decode cX11_restock 54 = .ok (.ireturn, 1) := by decide +kernel
theorem dX11_addOrder_0 : decode cX11_addOrder 0 = .ok (.iload_n 1, 1) := by decide +kernel
theorem dX11_addOrder_1 : decode cX11_addOrder 1 = .ok (.iconst 0, 1) := by decide +kernel
theorem dX11_addOrder_2 : decode cX11_addOrder 2 = .ok (.sipush 9999, 3) := by decide +kernel
theorem dX11_addOrder_5 : decode cX11_addOrder 5 = .ok (.invokestatic 58, 3) := by decide +kernel
theorem dX11_addOrder_8 : decode cX11_addOrder 8 = .ok (.aload_n 0, 1) := by decide +kernel
theorem dX11_addOrder_9 : decode cX11_addOrder 9 = .ok (.invokevirtual 115, 3) := by decide +kernel
theorem dX11_addOrder_12 : decode cX11_addOrder 12 = .ok (.aload_n 0, 1) := by decide +kernel
theorem dX11_addOrder_13 : decode cX11_addOrder 13 = .ok (.getfield 10, 3) := by decide +kernel
theorem dX11_addOrder_16 : decode cX11_addOrder 16 = .ok (.getfield 118, 3) := by decide +kernel
theorem dX11_addOrder_19 : decode cX11_addOrder 19 = .ok (.iload_n 1, 1) := by decide +kernel
theorem dX11_addOrder_20 : decode cX11_addOrder 20 = .ok (.invokevirtual 122, 3) := by decide +kernel
theorem dX11_addOrder_23 : decode cX11_addOrder 23 = .ok (.ireturn, 1) := by decide +kernel
theorem dX11_addLine_0 : decode cX11_addLine 0 = .ok (.aload_n 0, 1) := by decide +kernel
theorem dX11_addLine_1 : decode cX11_addLine 1 = .ok (.iload_n 1, 1) := by decide +kernel
theorem dX11_addLine_2 : decode cX11_addLine 2 = .ok (.invokevirtual 127, 3) := by decide +kernel
theorem dX11_addLine_5 : decode cX11_addLine 5 = .ok (.aload_n 0, 1) := by decide +kernel
theorem dX11_addLine_6 : decode cX11_addLine 6 = .ok (.iload_n 2, 1) := by decide +kernel
theorem dX11_addLine_7 : decode cX11_addLine 7 = .ok (.invokevirtual 108, 3) := by decide +kernel
theorem dX11_addLine_10 : decode cX11_addLine 10 = .ok (.iload_n 3, 1) := by decide +kernel
theorem dX11_addLine_11 : decode cX11_addLine 11 = .ok (.iconst 1, 1) := by decide +kernel
theorem dX11_addLine_12 : decode cX11_addLine 12 = .ok (.bipush 99, 2) := by decide +kernel
theorem dX11_addLine_14 : decode cX11_addLine 14 = .ok (.invokestatic 58, 3) := by decide +kernel
theorem dX11_addLine_17 : decode cX11_addLine 17 = .ok (.aload_n 0, 1) := by decide +kernel
theorem dX11_addLine_18 : decode cX11_addLine 18 = .ok (.getfield 10, 3) := by decide +kernel
theorem dX11_addLine_21 : decode cX11_addLine 21 = .ok (.getfield 118, 3) := by decide +kernel
theorem dX11_addLine_24 : decode cX11_addLine 24 = .ok (.astore 4, 2) := by decide +kernel
theorem dX11_addLine_26 : decode cX11_addLine 26 = .ok (.aload 4, 2) := by decide +kernel
theorem dX11_addLine_28 : decode cX11_addLine 28 = .ok (.getfield 130, 3) := by decide +kernel
theorem dX11_addLine_31 : decode cX11_addLine 31 = .ok (.iload_n 1, 1) := by decide +kernel
theorem dX11_addLine_32 : decode cX11_addLine 32 = .ok (.iaload, 1) := by decide +kernel
theorem dX11_addLine_33 : decode cX11_addLine 33 = .ok (.ifCond .ne 25, 3) := by decide +kernel
theorem dX11_addLine_36 : decode cX11_addLine 36 = .ok (.aload 4, 2) := by decide +kernel
theorem dX11_addLine_38 : decode cX11_addLine 38 = .ok (.getfield 133, 3) := by decide +kernel
theorem dX11_addLine_41 : decode cX11_addLine 41 = .ok (.iload_n 1, 1) := by decide +kernel
theorem dX11_addLine_42 : decode cX11_addLine 42 = .ok (.iaload, 1) := by decide +kernel
theorem dX11_addLine_43 : decode cX11_addLine 43 = .ok (.bipush 6, 2) := by decide +kernel
theorem dX11_addLine_45 : decode cX11_addLine 45 = .ok (.if_icmp .ge 13, 3) := by decide +kernel
theorem dX11_addLine_48 : decode cX11_addLine 48 = .ok (.aload 4, 2) := by decide +kernel
theorem dX11_addLine_50 : decode cX11_addLine 50 = .ok (.iload_n 1, 1) := by decide +kernel
theorem dX11_addLine_51 : decode cX11_addLine 51 = .ok (.iload_n 2, 1) := by decide +kernel
theorem dX11_addLine_52 : decode cX11_addLine 52 = .ok (.invokevirtual 136, 3) := by decide +kernel
theorem dX11_addLine_55 : decode cX11_addLine 55 = .ok (.ifCond .eq 13, 3) := by decide +kernel
theorem dX11_addLine_58 : decode cX11_addLine 58 = .ok (.new 72, 3) := by decide +kernel
theorem dX11_addLine_61 : decode cX11_addLine 61 = .ok (.dup, 1) := by decide +kernel
theorem dX11_addLine_62 : decode cX11_addLine 62 = .ok (.ldc 140, 2) := by decide +kernel
theorem dX11_addLine_64 : decode cX11_addLine 64 = .ok (.invokespecial 76, 3) := by decide +kernel
theorem dX11_addLine_67 : decode cX11_addLine 67 = .ok (.athrow, 1) := by decide +kernel
theorem dX11_addLine_68 : decode cX11_addLine 68 = .ok (.aload 4, 2) := by decide +kernel
theorem dX11_addLine_70 : decode cX11_addLine 70 = .ok (.iload_n 1, 1) := by decide +kernel
theorem dX11_addLine_71 : decode cX11_addLine 71 = .ok (.iload_n 2, 1) := by decide +kernel
theorem dX11_addLine_72 : decode cX11_addLine 72 = .ok (.iload_n 3, 1) := by decide +kernel
theorem dX11_addLine_73 : decode cX11_addLine 73 = .ok (.invokevirtual 142, 3) := by decide +kernel
theorem dX11_addLine_76 : decode cX11_addLine 76 = .ok (.ireturn, 1) := by decide +kernel
theorem dX11_orderCount_0 : decode cX11_orderCount 0 = .ok (.aload_n 0, 1) := by decide +kernel
theorem dX11_orderCount_1 : decode cX11_orderCount 1 = .ok (.getfield 10, 3) := by decide +kernel
theorem dX11_orderCount_4 : decode cX11_orderCount 4 = .ok (.getfield 118, 3) := by decide +kernel
theorem dX11_orderCount_7 : decode cX11_orderCount 7 = .ok (.getfield 146, 3) := by decide +kernel
theorem dX11_orderCount_10 : decode cX11_orderCount 10 = .ok (.ireturn, 1) := by decide +kernel
theorem dX11_orderState_0 : decode cX11_orderState 0 = .ok (.aload_n 0, 1) := by decide +kernel
theorem dX11_orderState_1 : decode cX11_orderState 1 = .ok (.iload_n 1, 1) := by decide +kernel
theorem dX11_orderState_2 : decode cX11_orderState 2 = .ok (.invokevirtual 127, 3) := by decide +kernel
theorem dX11_orderState_5 : decode cX11_orderState 5 = .ok (.aload_n 0, 1) := by decide +kernel
theorem dX11_orderState_6 : decode cX11_orderState 6 = .ok (.getfield 10, 3) := by decide +kernel
theorem dX11_orderState_9 : decode cX11_orderState 9 = .ok (.getfield 118, 3) := by decide +kernel
theorem dX11_orderState_12 : decode cX11_orderState 12 = .ok (.getfield 130, 3) := by decide +kernel
theorem dX11_orderState_15 : decode cX11_orderState 15 = .ok (.iload_n 1, 1) := by decide +kernel
theorem dX11_orderState_16 : decode cX11_orderState 16 = .ok (.iaload, 1) := by decide +kernel
theorem dX11_orderState_17 : decode cX11_orderState 17 = .ok (.ireturn, 1) := by decide +kernel
theorem dX11_lineCount_0 : decode cX11_lineCount 0 = .ok (.aload_n 0, 1) := by decide +kernel
theorem dX11_lineCount_1 : decode cX11_lineCount 1 = .ok (.iload_n 1, 1) := by decide +kernel
theorem dX11_lineCount_2 : decode cX11_lineCount 2 = .ok (.invokevirtual 127, 3) := by decide +kernel
theorem dX11_lineCount_5 : decode cX11_lineCount 5 = .ok (.aload_n 0, 1) := by decide +kernel
theorem dX11_lineCount_6 : decode cX11_lineCount 6 = .ok (.getfield 10, 3) := by decide +kernel
theorem dX11_lineCount_9 : decode cX11_lineCount 9 = .ok (.getfield 118, 3) := by decide +kernel
theorem dX11_lineCount_12 : decode cX11_lineCount 12 = .ok (.getfield 133, 3) := by decide +kernel
theorem dX11_lineCount_15 : decode cX11_lineCount 15 = .ok (.iload_n 1, 1) := by decide +kernel
theorem dX11_lineCount_16 : decode cX11_lineCount 16 = .ok (.iaload, 1) := by decide +kernel
theorem dX11_lineCount_17 : decode cX11_lineCount 17 = .ok (.ireturn, 1) := by decide +kernel
theorem dX11_due_0 : decode cX11_due 0 = .ok (.aload_n 0, 1) := by decide +kernel
theorem dX11_due_1 : decode cX11_due 1 = .ok (.iload_n 1, 1) := by decide +kernel
theorem dX11_due_2 : decode cX11_due 2 = .ok (.invokevirtual 127, 3) := by decide +kernel
theorem dX11_due_5 : decode cX11_due 5 = .ok (.aload_n 0, 1) := by decide +kernel
theorem dX11_due_6 : decode cX11_due 6 = .ok (.getfield 10, 3) := by decide +kernel
theorem dX11_due_9 : decode cX11_due 9 = .ok (.getfield 118, 3) := by decide +kernel
theorem dX11_due_12 : decode cX11_due 12 = .ok (.getfield 147, 3) := by decide +kernel
theorem dX11_due_15 : decode cX11_due 15 = .ok (.iload_n 1, 1) := by decide +kernel
theorem dX11_due_16 : decode cX11_due 16 = .ok (.iaload, 1) := by decide +kernel
theorem dX11_due_17 : decode cX11_due 17 = .ok (.ireturn, 1) := by decide +kernel
theorem dX11_setDue_0 : decode cX11_setDue 0 = .ok (.aload_n 0, 1) := by decide +kernel
theorem dX11_setDue_1 : decode cX11_setDue 1 = .ok (.iload_n 1, 1) := by decide +kernel
theorem dX11_setDue_2 : decode cX11_setDue 2 = .ok (.invokevirtual 127, 3) := by decide +kernel
theorem dX11_setDue_5 : decode cX11_setDue 5 = .ok (.iload_n 2, 1) := by decide +kernel
theorem dX11_setDue_6 : decode cX11_setDue 6 = .ok (.iconst 0, 1) := by decide +kernel
theorem dX11_setDue_7 : decode cX11_setDue 7 = .ok (.sipush 9999, 3) := by decide +kernel
theorem dX11_setDue_10 : decode cX11_setDue 10 = .ok (.invokestatic 58, 3) := by decide +kernel
theorem dX11_setDue_13 : decode cX11_setDue 13 = .ok (.aload_n 0, 1) := by decide +kernel
theorem dX11_setDue_14 : decode cX11_setDue 14 = .ok (.iload_n 1, 1) := by decide +kernel
theorem dX11_setDue_15 : decode cX11_setDue 15 = .ok (.invokevirtual 150, 3) := by decide +kernel
theorem dX11_setDue_18 : decode cX11_setDue 18 = .ok (.aload_n 0, 1) := by decide +kernel
theorem dX11_setDue_19 : decode cX11_setDue 19 = .ok (.getfield 10, 3) := by decide +kernel
theorem dX11_setDue_22 : decode cX11_setDue 22 = .ok (.getfield 118, 3) := by decide +kernel
theorem dX11_setDue_25 : decode cX11_setDue 25 = .ok (.getfield 147, 3) := by decide +kernel
theorem dX11_setDue_28 : decode cX11_setDue 28 = .ok (.iload_n 1, 1) := by decide +kernel
theorem dX11_setDue_29 : decode cX11_setDue 29 = .ok (.iaload, 1) := by decide +kernel
theorem dX11_setDue_30 : decode cX11_setDue 30 = .ok (.istore_n 3, 1) := by decide +kernel
theorem dX11_setDue_31 : decode cX11_setDue 31 = .ok (.aload_n 0, 1) := by decide +kernel
theorem dX11_setDue_32 : decode cX11_setDue 32 = .ok (.getfield 10, 3) := by decide +kernel
theorem dX11_setDue_35 : decode cX11_setDue 35 = .ok (.getfield 118, 3) := by decide +kernel
theorem dX11_setDue_38 : decode cX11_setDue 38 = .ok (.getfield 147, 3) := by decide +kernel
theorem dX11_setDue_41 : decode cX11_setDue 41 = .ok (.iload_n 1, 1) := by decide +kernel
theorem dX11_setDue_42 : decode cX11_setDue 42 = .ok (.iload_n 2, 1) := by decide +kernel
theorem dX11_setDue_43 : decode cX11_setDue 43 = .ok (.iastore, 1) := by decide +kernel
theorem dX11_setDue_44 : decode cX11_setDue 44 = .ok (.iload_n 3, 1) := by decide +kernel
theorem dX11_setDue_45 : decode cX11_setDue 45 = .ok (.ireturn, 1) := by decide +kernel
theorem dX11_orderWeight_0 : decode cX11_orderWeight 0 = .ok (.aload_n 0, 1) := by decide +kernel
theorem dX11_orderWeight_1 : decode cX11_orderWeight 1 = .ok (.iload_n 1, 1) := by decide +kernel
theorem dX11_orderWeight_2 : decode cX11_orderWeight 2 = .ok (.invokevirtual 127, 3) := by decide +kernel
theorem dX11_orderWeight_5 : decode cX11_orderWeight 5 = .ok (.aload_n 0, 1) := by decide +kernel
theorem dX11_orderWeight_6 : decode cX11_orderWeight 6 = .ok (.getfield 10, 3) := by decide +kernel
theorem dX11_orderWeight_9 : decode cX11_orderWeight 9 = .ok (.iload_n 1, 1) := by decide +kernel
theorem dX11_orderWeight_10 : decode cX11_orderWeight 10 = .ok (.invokevirtual 153, 3) := by decide +kernel
theorem dX11_orderWeight_13 : decode cX11_orderWeight 13 = .ok (.ireturn, 1) := by decide +kernel
theorem dX11_orderAisles_0 : decode cX11_orderAisles 0 = .ok (.aload_n 0, 1) := by decide +kernel
theorem dX11_orderAisles_1 : decode cX11_orderAisles 1 = .ok (.iload_n 1, 1) := by decide +kernel
theorem dX11_orderAisles_2 : decode cX11_orderAisles 2 = .ok (.invokevirtual 127, 3) := by decide +kernel
theorem dX11_orderAisles_5 : decode cX11_orderAisles 5 = .ok (.aload_n 0, 1) := by decide +kernel
theorem dX11_orderAisles_6 : decode cX11_orderAisles 6 = .ok (.getfield 10, 3) := by decide +kernel
theorem dX11_orderAisles_9 : decode cX11_orderAisles 9 = .ok (.iload_n 1, 1) := by decide +kernel
theorem dX11_orderAisles_10 : decode cX11_orderAisles 10 = .ok (.invokevirtual 156, 3) := by decide +kernel
theorem dX11_orderAisles_13 : decode cX11_orderAisles 13 = .ok (.ireturn, 1) := by decide +kernel
theorem dX11_cancel_0 : decode cX11_cancel 0 = .ok (.aload_n 0, 1) := by decide +kernel
theorem dX11_cancel_1 : decode cX11_cancel 1 = .ok (.iload_n 1, 1) := by decide +kernel
theorem dX11_cancel_2 : decode cX11_cancel 2 = .ok (.invokevirtual 127, 3) := by decide +kernel
theorem dX11_cancel_5 : decode cX11_cancel 5 = .ok (.aload_n 0, 1) := by decide +kernel
theorem dX11_cancel_6 : decode cX11_cancel 6 = .ok (.iload_n 1, 1) := by decide +kernel
theorem dX11_cancel_7 : decode cX11_cancel 7 = .ok (.invokevirtual 150, 3) := by decide +kernel
theorem dX11_cancel_10 : decode cX11_cancel 10 = .ok (.aload_n 0, 1) := by decide +kernel
theorem dX11_cancel_11 : decode cX11_cancel 11 = .ok (.getfield 10, 3) := by decide +kernel
theorem dX11_cancel_14 : decode cX11_cancel 14 = .ok (.getfield 159, 3) := by decide +kernel
theorem dX11_cancel_17 : decode cX11_cancel 17 = .ok (.iload_n 1, 1) := by decide +kernel
theorem dX11_cancel_18 : decode cX11_cancel 18 = .ok (.invokevirtual 163, 3) := by decide +kernel
theorem dX11_cancel_21 : decode cX11_cancel 21 = .ok (.aload_n 0, 1) := by decide +kernel
theorem dX11_cancel_22 : decode cX11_cancel 22 = .ok (.getfield 10, 3) := by decide +kernel
theorem dX11_cancel_25 : decode cX11_cancel 25 = .ok (.getfield 118, 3) := by decide +kernel
theorem dX11_cancel_28 : decode cX11_cancel 28 = .ok (.getfield 130, 3) := by decide +kernel
theorem dX11_cancel_31 : decode cX11_cancel 31 = .ok (.iload_n 1, 1) := by decide +kernel
theorem dX11_cancel_32 : decode cX11_cancel 32 = .ok (.iconst 3, 1) := by decide +kernel
theorem dX11_cancel_33 : decode cX11_cancel 33 = .ok (.iastore, 1) := by decide +kernel
theorem dX11_cancel_34 : decode cX11_cancel 34 = .ok (.aload_n 0, 1) := by decide +kernel
theorem dX11_cancel_35 : decode cX11_cancel 35 = .ok (.getfield 10, 3) := by decide +kernel
theorem dX11_cancel_38 : decode cX11_cancel 38 = .ok (.getfield 159, 3) := by decide +kernel
theorem dX11_cancel_41 : decode cX11_cancel 41 = .ok (.getfield 168, 3) := by decide +kernel
theorem dX11_cancel_44 : decode cX11_cancel 44 = .ok (.ireturn, 1) := by decide +kernel
theorem dX11_makeBatches_0 : decode cX11_makeBatches 0 = .ok (.iload_n 1, 1) := by decide +kernel
theorem dX11_makeBatches_1 : decode cX11_makeBatches 1 = .ok (.iload_n 2, 1) := by decide +kernel
theorem dX11_makeBatches_2 : decode cX11_makeBatches 2 = .ok (.invokestatic 169, 3) := by decide +kernel
theorem dX11_makeBatches_5 : decode cX11_makeBatches 5 = .ok (.iload_n 3, 1) := by decide +kernel
theorem dX11_makeBatches_6 : decode cX11_makeBatches 6 = .ok (.iconst 0, 1) := by decide +kernel
theorem dX11_makeBatches_7 : decode cX11_makeBatches 7 = .ok (.iconst 2, 1) := by decide +kernel
theorem dX11_makeBatches_8 : decode cX11_makeBatches 8 = .ok (.invokestatic 58, 3) := by decide +kernel
theorem dX11_makeBatches_11 : decode cX11_makeBatches 11 = .ok (.aload_n 0, 1) := by decide +kernel
theorem dX11_makeBatches_12 : decode cX11_makeBatches 12 = .ok (.getfield 10, 3) := by decide +kernel
theorem dX11_makeBatches_15 : decode cX11_makeBatches 15 = .ok (.iload_n 1, 1) := by decide +kernel
theorem dX11_makeBatches_16 : decode cX11_makeBatches 16 = .ok (.iload_n 2, 1) := by decide +kernel
theorem dX11_makeBatches_17 : decode cX11_makeBatches 17 = .ok (.iload_n 3, 1) := by decide +kernel
theorem dX11_makeBatches_18 : decode cX11_makeBatches 18 = .ok (.invokestatic 172, 3) := by decide +kernel
theorem dX11_makeBatches_21 : decode cX11_makeBatches 21 = .ok (.ireturn, 1) := by decide +kernel
theorem dX11_addBatch_0 : decode cX11_addBatch 0 = .ok (.iload_n 1, 1) := by decide +kernel
theorem dX11_addBatch_1 : decode cX11_addBatch 1 = .ok (.ifCond .eq 18, 3) := by decide +kernel
theorem dX11_addBatch_4 : decode cX11_addBatch 4 = .ok (.iload_n 1, 1) := by decide +kernel
theorem dX11_addBatch_5 : decode cX11_addBatch 5 = .ok (.aload_n 0, 1) := by decide +kernel
theorem dX11_addBatch_6 : decode cX11_addBatch 6 = .ok (.getfield 10, 3) := by decide +kernel
theorem dX11_addBatch_9 : decode cX11_addBatch 9 = .ok (.getfield 118, 3) := by decide +kernel
theorem dX11_addBatch_12 : decode cX11_addBatch 12 = .ok (.getfield 146, 3) := by decide +kernel
theorem dX11_addBatch_15 : decode cX11_addBatch 15 = .ok (.ishr, 1) := by decide +kernel
theorem dX11_addBatch_16 : decode cX11_addBatch 16 = .ok (.ifCond .eq 13, 3) := by decide +kernel
theorem dX11_addBatch_19 : decode cX11_addBatch 19 = .ok (.new 178, 3) := by decide +kernel
theorem dX11_addBatch_22 : decode cX11_addBatch 22 = .ok (.dup, 1) := by decide +kernel
theorem dX11_addBatch_23 : decode cX11_addBatch 23 = .ok (.ldc 180, 2) := by decide +kernel
theorem dX11_addBatch_25 : decode cX11_addBatch 25 = .ok (.invokespecial 182, 3) := by decide +kernel
theorem dX11_addBatch_28 : decode cX11_addBatch 28 = .ok (.athrow, 1) := by decide +kernel
theorem dX11_addBatch_29 : decode cX11_addBatch 29 = .ok (.aload_n 0, 1) := by decide +kernel
theorem dX11_addBatch_30 : decode cX11_addBatch 30 = .ok (.getfield 10, 3) := by decide +kernel
theorem dX11_addBatch_33 : decode cX11_addBatch 33 = .ok (.getfield 159, 3) := by decide +kernel
theorem dX11_addBatch_36 : decode cX11_addBatch 36 = .ok (.getfield 168, 3) := by decide +kernel
theorem dX11_addBatch_39 : decode cX11_addBatch 39 = .ok (.bipush 8, 2) := by decide +kernel
theorem dX11_addBatch_41 : decode cX11_addBatch 41 = .ok (.if_icmp .ge 14, 3) := by decide +kernel
theorem dX11_addBatch_44 : decode cX11_addBatch 44 = .ok (.aload_n 0, 1) := by decide +kernel
theorem dX11_addBatch_45 : decode cX11_addBatch 45 = .ok (.getfield 10, 3) := by decide +kernel
theorem dX11_addBatch_48 : decode cX11_addBatch 48 = .ok (.iload_n 1, 1) := by decide +kernel
theorem dX11_addBatch_49 : decode cX11_addBatch 49 = .ok (.invokevirtual 183, 3) := by decide +kernel
theorem dX11_addBatch_52 : decode cX11_addBatch 52 = .ok (.ifCond .ne 13, 3) := by decide +kernel
theorem dX11_addBatch_55 : decode cX11_addBatch 55 = .ok (.new 72, 3) := by decide +kernel
theorem dX11_addBatch_58 : decode cX11_addBatch 58 = .ok (.dup, 1) := by decide +kernel
theorem dX11_addBatch_59 : decode cX11_addBatch 59 = .ok (.ldc 187, 2) := by decide +kernel
theorem dX11_addBatch_61 : decode cX11_addBatch 61 = .ok (.invokespecial 76, 3) := by decide +kernel
theorem dX11_addBatch_64 : decode cX11_addBatch 64 = .ok (.athrow, 1) := by decide +kernel
theorem dX11_addBatch_65 : decode cX11_addBatch 65 = .ok (.aload_n 0, 1) := by decide +kernel
theorem dX11_addBatch_66 : decode cX11_addBatch 66 = .ok (.getfield 10, 3) := by decide +kernel
theorem dX11_addBatch_69 : decode cX11_addBatch 69 = .ok (.iload_n 1, 1) := by decide +kernel
theorem dX11_addBatch_70 : decode cX11_addBatch 70 = .ok (.invokevirtual 189, 3) := by decide +kernel
theorem dX11_addBatch_73 : decode cX11_addBatch 73 = .ok (.ireturn, 1) := by decide +kernel
theorem dX11_dissolve_0 : decode cX11_dissolve 0 = .ok (.aload_n 0, 1) := by decide +kernel
theorem dX11_dissolve_1 : decode cX11_dissolve 1 = .ok (.iload_n 1, 1) := by decide +kernel
theorem dX11_dissolve_2 : decode cX11_dissolve 2 = .ok (.invokevirtual 192, 3) := by decide +kernel
theorem dX11_dissolve_5 : decode cX11_dissolve 5 = .ok (.aload_n 0, 1) := by decide +kernel
theorem dX11_dissolve_6 : decode cX11_dissolve 6 = .ok (.getfield 10, 3) := by decide +kernel
theorem dX11_dissolve_9 : decode cX11_dissolve 9 = .ok (.getfield 118, 3) := by decide +kernel
theorem dX11_dissolve_12 : decode cX11_dissolve 12 = .ok (.aload_n 0, 1) := by decide +kernel
theorem dX11_dissolve_13 : decode cX11_dissolve 13 = .ok (.getfield 10, 3) := by decide +kernel
theorem dX11_dissolve_16 : decode cX11_dissolve 16 = .ok (.getfield 159, 3) := by decide +kernel
theorem dX11_dissolve_19 : decode cX11_dissolve 19 = .ok (.getfield 195, 3) := by decide +kernel
theorem dX11_dissolve_22 : decode cX11_dissolve 22 = .ok (.iload_n 1, 1) := by decide +kernel
theorem dX11_dissolve_23 : decode cX11_dissolve 23 = .ok (.iaload, 1) := by decide +kernel
theorem dX11_dissolve_24 : decode cX11_dissolve 24 = .ok (.iconst 0, 1) := by decide +kernel
theorem dX11_dissolve_25 : decode cX11_dissolve 25 = .ok (.invokevirtual 198, 3) := by decide +kernel
theorem dX11_dissolve_28 : decode cX11_dissolve 28 = .ok (.aload_n 0, 1) := by decide +kernel
theorem dX11_dissolve_29 : decode cX11_dissolve 29 = .ok (.getfield 10, 3) := by decide +kernel
theorem dX11_dissolve_32 : decode cX11_dissolve 32 = .ok (.getfield 159, 3) := by decide +kernel
theorem dX11_dissolve_35 : decode cX11_dissolve 35 = .ok (.iload_n 1, 1) := by decide +kernel
theorem dX11_dissolve_36 : decode cX11_dissolve 36 = .ok (.invokevirtual 201, 3) := by decide +kernel
theorem dX11_dissolve_39 : decode cX11_dissolve 39 = .ok (.aload_n 0, 1) := by decide +kernel
theorem dX11_dissolve_40 : decode cX11_dissolve 40 = .ok (.getfield 10, 3) := by decide +kernel
theorem dX11_dissolve_43 : decode cX11_dissolve 43 = .ok (.getfield 159, 3) := by decide +kernel
theorem dX11_dissolve_46 : decode cX11_dissolve 46 = .ok (.getfield 168, 3) := by decide +kernel
theorem dX11_dissolve_49 : decode cX11_dissolve 49 = .ok (.ireturn, 1) := by decide +kernel
theorem dX11_batchCount_0 : decode cX11_batchCount 0 = .ok (.aload_n 0, 1) := by decide +kernel
theorem dX11_batchCount_1 : decode cX11_batchCount 1 = .ok (.getfield 10, 3) := by decide +kernel
theorem dX11_batchCount_4 : decode cX11_batchCount 4 = .ok (.getfield 159, 3) := by decide +kernel
theorem dX11_batchCount_7 : decode cX11_batchCount 7 = .ok (.getfield 168, 3) := by decide +kernel
theorem dX11_batchCount_10 : decode cX11_batchCount 10 = .ok (.ireturn, 1) := by decide +kernel
theorem dX11_batchOrders_0 : decode cX11_batchOrders 0 = .ok (.aload_n 0, 1) := by decide +kernel
theorem dX11_batchOrders_1 : decode cX11_batchOrders 1 = .ok (.iload_n 1, 1) := by decide +kernel
theorem dX11_batchOrders_2 : decode cX11_batchOrders 2 = .ok (.invokevirtual 192, 3) := by decide +kernel
theorem dX11_batchOrders_5 : decode cX11_batchOrders 5 = .ok (.aload_n 0, 1) := by decide +kernel
theorem dX11_batchOrders_6 : decode cX11_batchOrders 6 = .ok (.getfield 10, 3) := by decide +kernel
theorem dX11_batchOrders_9 : decode cX11_batchOrders 9 = .ok (.getfield 159, 3) := by decide +kernel
theorem dX11_batchOrders_12 : decode cX11_batchOrders 12 = .ok (.getfield 195, 3) := by decide +kernel
theorem dX11_batchOrders_15 : decode cX11_batchOrders 15 = .ok (.iload_n 1, 1) := by decide +kernel
theorem dX11_batchOrders_16 : decode cX11_batchOrders 16 = .ok (.iaload, 1) := by decide +kernel
theorem dX11_batchOrders_17 : decode cX11_batchOrders 17 = .ok (.ireturn, 1) := by decide +kernel
theorem dX11_batchWeight_0 : decode cX11_batchWeight 0 = .ok (.aload_n 0, 1) := by decide +kernel
theorem dX11_batchWeight_1 : decode cX11_batchWeight 1 = .ok (.iload_n 1, 1) := by decide +kernel
theorem dX11_batchWeight_2 : decode cX11_batchWeight 2 = .ok (.invokevirtual 192, 3) := by decide +kernel
theorem dX11_batchWeight_5 : decode cX11_batchWeight 5 = .ok (.aload_n 0, 1) := by decide +kernel
theorem dX11_batchWeight_6 : decode cX11_batchWeight 6 = .ok (.getfield 10, 3) := by decide +kernel
theorem dX11_batchWeight_9 : decode cX11_batchWeight 9 = .ok (.aload_n 0, 1) := by decide +kernel
theorem dX11_batchWeight_10 : decode cX11_batchWeight 10 = .ok (.getfield 10, 3) := by decide +kernel
theorem dX11_batchWeight_13 : decode cX11_batchWeight 13 = .ok (.getfield 159, 3) := by decide +kernel
theorem dX11_batchWeight_16 : decode cX11_batchWeight 16 = .ok (.getfield 195, 3) := by decide +kernel
theorem dX11_batchWeight_19 : decode cX11_batchWeight 19 = .ok (.iload_n 1, 1) := by decide +kernel
theorem dX11_batchWeight_20 : decode cX11_batchWeight 20 = .ok (.iaload, 1) := by decide +kernel
theorem dX11_batchWeight_21 : decode cX11_batchWeight 21 = .ok (.invokevirtual 204, 3) := by decide +kernel
theorem dX11_batchWeight_24 : decode cX11_batchWeight 24 = .ok (.ireturn, 1) := by decide +kernel
theorem dX11_improve_0 : decode cX11_improve 0 = .ok (.iload_n 1, 1) := by decide +kernel
theorem dX11_improve_1 : decode cX11_improve 1 = .ok (.iload_n 2, 1) := by decide +kernel
theorem dX11_improve_2 : decode cX11_improve 2 = .ok (.invokestatic 169, 3) := by decide +kernel
theorem dX11_improve_5 : decode cX11_improve 5 = .ok (.aload_n 0, 1) := by decide +kernel
theorem dX11_improve_6 : decode cX11_improve 6 = .ok (.getfield 47, 3) := by decide +kernel
theorem dX11_improve_9 : decode cX11_improve 9 = .ok (.aload_n 0, 1) := by decide +kernel
theorem dX11_improve_10 : decode cX11_improve 10 = .ok (.getfield 10, 3) := by decide +kernel
theorem dX11_improve_13 : decode cX11_improve 13 = .ok (.iload_n 1, 1) := by decide +kernel
theorem dX11_improve_14 : decode cX11_improve 14 = .ok (.iload_n 2, 1) := by decide +kernel
theorem dX11_improve_15 : decode cX11_improve 15 = .ok (.invokevirtual 207, 3) := by decide +kernel
theorem dX11_improve_18 : decode cX11_improve 18 = .ok (.ireturn, 1) := by decide +kernel
theorem dX11_sortBatches_0 : decode cX11_sortBatches 0 = .ok (.iload_n 1, 1) := by decide +kernel
theorem dX11_sortBatches_1 : decode cX11_sortBatches 1 = .ok (.iconst 0, 1) := by decide +kernel
theorem dX11_sortBatches_2 : decode cX11_sortBatches 2 = .ok (.iconst 2, 1) := by decide +kernel
theorem dX11_sortBatches_3 : decode cX11_sortBatches 3 = .ok (.invokestatic 58, 3) := by decide +kernel
theorem dX11_sortBatches_6 : decode cX11_sortBatches 6 = .ok (.iload_n 1, 1) := by decide +kernel
theorem dX11_sortBatches_7 : decode cX11_sortBatches 7 = .ok (.iconst 2, 1) := by decide +kernel
theorem dX11_sortBatches_8 : decode cX11_sortBatches 8 = .ok (.if_icmp .ne 28, 3) := by decide +kernel
theorem dX11_sortBatches_11 : decode cX11_sortBatches 11 = .ok (.aload_n 0, 1) := by decide +kernel
theorem dX11_sortBatches_12 : decode cX11_sortBatches 12 = .ok (.getfield 10, 3) := by decide +kernel
theorem dX11_sortBatches_15 : decode cX11_sortBatches 15 = .ok (.getfield 159, 3) := by decide +kernel
theorem dX11_sortBatches_18 : decode cX11_sortBatches 18 = .ok (.getfield 168, 3) := by decide +kernel
theorem dX11_sortBatches_21 : decode cX11_sortBatches 21 = .ok (.bipush 6, 2) := by decide +kernel
theorem dX11_sortBatches_23 : decode cX11_sortBatches 23 = .ok (.if_icmp .le 13, 3) := by decide +kernel
theorem dX11_sortBatches_26 : decode cX11_sortBatches 26 = .ok (.new 72, 3) := by decide +kernel
theorem dX11_sortBatches_29 : decode cX11_sortBatches 29 = .ok (.dup, 1) := by decide +kernel
theorem dX11_sortBatches_30 : decode cX11_sortBatches 30 = .ok (.ldc 210, 2) := by decide +kernel
theorem dX11_sortBatches_32 : decode cX11_sortBatches 32 = .ok (.invokespecial 76, 3) := by decide +kernel
theorem dX11_sortBatches_35 : decode cX11_sortBatches 35 = .ok (.athrow, 1) := by decide +kernel
theorem dX11_sortBatches_36 : decode cX11_sortBatches 36 = .ok (.aload_n 0, 1) := by decide +kernel
theorem dX11_sortBatches_37 : decode cX11_sortBatches 37 = .ok (.getfield 54, 3) := by decide +kernel
theorem dX11_sortBatches_40 : decode cX11_sortBatches 40 = .ok (.aload_n 0, 1) := by decide +kernel
theorem dX11_sortBatches_41 : decode cX11_sortBatches 41 = .ok (.getfield 10, 3) := by decide +kernel
theorem dX11_sortBatches_44 : decode cX11_sortBatches 44 = .ok (.iload_n 1, 1) := by decide +kernel
theorem dX11_sortBatches_45 : decode cX11_sortBatches 45 = .ok (.invokevirtual 212, 3) := by decide +kernel
theorem dX11_sortBatches_48 : decode cX11_sortBatches 48 = .ok (.aload_n 0, 1) := by decide +kernel
theorem dX11_sortBatches_49 : decode cX11_sortBatches 49 = .ok (.invokevirtual 216, 3) := by decide +kernel
theorem dX11_sortBatches_52 : decode cX11_sortBatches 52 = .ok (.ireturn, 1) := by decide +kernel
theorem dX11_setPolicy_0 : decode cX11_setPolicy 0 = .ok (.iload_n 1, 1) := by decide +kernel
theorem dX11_setPolicy_1 : decode cX11_setPolicy 1 = .ok (.iconst 0, 1) := by decide +kernel
theorem dX11_setPolicy_2 : decode cX11_setPolicy 2 = .ok (.iconst 3, 1) := by decide +kernel
theorem dX11_setPolicy_3 : decode cX11_setPolicy 3 = .ok (.invokestatic 58, 3) := by decide +kernel
theorem dX11_setPolicy_6 : decode cX11_setPolicy 6 = .ok (.aload_n 0, 1) := by decide +kernel
theorem dX11_setPolicy_7 : decode cX11_setPolicy 7 = .ok (.getfield 10, 3) := by decide +kernel
theorem dX11_setPolicy_10 : decode cX11_setPolicy 10 = .ok (.getfield 79, 3) := by decide +kernel
theorem dX11_setPolicy_13 : decode cX11_setPolicy 13 = .ok (.getfield 220, 3) := by decide +kernel
theorem dX11_setPolicy_16 : decode cX11_setPolicy 16 = .ok (.istore_n 2, 1) := by decide +kernel
theorem dX11_setPolicy_17 : decode cX11_setPolicy 17 = .ok (.aload_n 0, 1) := by decide +kernel
theorem dX11_setPolicy_18 : decode cX11_setPolicy 18 = .ok (.getfield 10, 3) := by decide +kernel
theorem dX11_setPolicy_21 : decode cX11_setPolicy 21 = .ok (.getfield 79, 3) := by decide +kernel
theorem dX11_setPolicy_24 : decode cX11_setPolicy 24 = .ok (.iload_n 1, 1) := by decide +kernel
theorem dX11_setPolicy_25 : decode cX11_setPolicy 25 = .ok (.putfield 220, 3) := by decide +kernel
theorem dX11_setPolicy_28 : decode cX11_setPolicy 28 = .ok (.iload_n 2, 1) := by decide +kernel
theorem dX11_setPolicy_29 : decode cX11_setPolicy 29 = .ok (.ireturn, 1) := by decide +kernel
theorem dX11_setZones_0 : decode cX11_setZones 0 = .ok (.aload_n 0, 1) := by decide +kernel
theorem dX11_setZones_1 : decode cX11_setZones 1 = .ok (.getfield 10, 3) := by decide +kernel
theorem dX11_setZones_4 : decode cX11_setZones 4 = .ok (.getfield 79, 3) := by decide +kernel
theorem dX11_setZones_7 : decode cX11_setZones 7 = .ok (.getfield 88, 3) := by decide +kernel
theorem dX11_setZones_10 : decode cX11_setZones 10 = .ok (.iconst 1, 1) := by decide +kernel
theorem dX11_setZones_11 : decode cX11_setZones 11 = .ok (.isub, 1) := by decide +kernel
theorem dX11_setZones_12 : decode cX11_setZones 12 = .ok (.istore_n 3, 1) := by decide +kernel
theorem dX11_setZones_13 : decode cX11_setZones 13 = .ok (.iload_n 1, 1) := by decide +kernel
theorem dX11_setZones_14 : decode cX11_setZones 14 = .ok (.iconst (-1), 1) := by decide +kernel
theorem dX11_setZones_15 : decode cX11_setZones 15 = .ok (.if_icmp .eq 9, 3) := by decide +kernel
theorem dX11_setZones_18 : decode cX11_setZones 18 = .ok (.iload_n 1, 1) := by decide +kernel
theorem dX11_setZones_19 : decode cX11_setZones 19 = .ok (.iconst 1, 1) := by decide +kernel
theorem dX11_setZones_20 : decode cX11_setZones 20 = .ok (.iload_n 3, 1) := by decide +kernel
theorem dX11_setZones_21 : decode cX11_setZones 21 = .ok (.invokestatic 58, 3) := by decide +kernel
theorem dX11_setZones_24 : decode cX11_setZones 24 = .ok (.iload_n 2, 1) := by decide +kernel
theorem dX11_setZones_25 : decode cX11_setZones 25 = .ok (.iconst (-1), 1) := by decide +kernel
theorem dX11_setZones_26 : decode cX11_setZones 26 = .ok (.if_icmp .eq 21, 3) := by decide +kernel
theorem dX11_setZones_29 : decode cX11_setZones 29 = .ok (.iload_n 2, 1) := by decide +kernel
theorem dX11_setZones_30 : decode cX11_setZones 30 = .ok (.iload_n 1, 1) := by decide +kernel
theorem dX11_setZones_31 : decode cX11_setZones 31 = .ok (.iconst (-1), 1) := by decide +kernel
theorem dX11_setZones_32 : decode cX11_setZones 32 = .ok (.if_icmp .ne 8, 3) := by decide +kernel
theorem dX11_setZones_35 : decode cX11_setZones 35 = .ok (.bipush 6, 2) := by decide +kernel
theorem dX11_setZones_37 : decode cX11_setZones 37 = .ok (.goto 6, 3) := by decide +kernel
theorem dX11_setZones_40 : decode cX11_setZones 40 = .ok (.iload_n 1, 1) := by decide +kernel
theorem dX11_setZones_41 : decode cX11_setZones 41 = .ok (.iconst 1, 1) := by decide +kernel
theorem dX11_setZones_42 : decode cX11_setZones 42 = .ok (.iadd, 1) := by decide +kernel
theorem dX11_setZones_43 : decode cX11_setZones 43 = .ok (.iload_n 3, 1) := by decide +kernel
theorem dX11_setZones_44 : decode cX11_setZones 44 = .ok (.invokestatic 58, 3) := by decide +kernel
theorem dX11_setZones_47 : decode cX11_setZones 47 = .ok (.aload_n 0, 1) := by decide +kernel
theorem dX11_setZones_48 : decode cX11_setZones 48 = .ok (.getfield 10, 3) := by decide +kernel
theorem dX11_setZones_51 : decode cX11_setZones 51 = .ok (.getfield 79, 3) := by decide +kernel
theorem dX11_setZones_54 : decode cX11_setZones 54 = .ok (.iload_n 1, 1) := by decide +kernel
theorem dX11_setZones_55 : decode cX11_setZones 55 = .ok (.iload_n 2, 1) := by decide +kernel
theorem dX11_setZones_56 : decode cX11_setZones 56 = .ok (.invokevirtual 223, 3) := by decide +kernel
theorem dX11_setZones_59 : decode cX11_setZones 59 = .ok (.aload_n 0, 1) := by decide +kernel
theorem dX11_setZones_60 : decode cX11_setZones 60 = .ok (.getfield 10, 3) := by decide +kernel
theorem dX11_setZones_63 : decode cX11_setZones 63 = .ok (.getfield 79, 3) := by decide +kernel
theorem dX11_setZones_66 : decode cX11_setZones 66 = .ok (.getfield 226, 3) := by decide +kernel
theorem dX11_setZones_69 : decode cX11_setZones 69 = .ok (.ireturn, 1) := by decide +kernel
theorem dX11_zoneOf_0 : decode cX11_zoneOf 0 = .ok (.aload_n 0, 1) := by decide +kernel
theorem dX11_zoneOf_1 : decode cX11_zoneOf 1 = .ok (.iload_n 1, 1) := by decide +kernel
theorem dX11_zoneOf_2 : decode cX11_zoneOf 2 = .ok (.invokevirtual 91, 3) := by decide +kernel
theorem dX11_zoneOf_5 : decode cX11_zoneOf 5 = .ok (.aload_n 0, 1) := by decide +kernel
theorem dX11_zoneOf_6 : decode cX11_zoneOf 6 = .ok (.getfield 10, 3) := by decide +kernel
theorem dX11_zoneOf_9 : decode cX11_zoneOf 9 = .ok (.getfield 79, 3) := by decide +kernel
theorem dX11_zoneOf_12 : decode cX11_zoneOf 12 = .ok (.iload_n 1, 1) := by decide +kernel
theorem dX11_zoneOf_13 : decode cX11_zoneOf 13 = .ok (.invokevirtual 229, 3) := by decide +kernel
theorem dX11_zoneOf_16 : decode cX11_zoneOf 16 = .ok (.ireturn, 1) := by decide +kernel
theorem dX11_setBuffer_0 : decode cX11_setBuffer 0 = .ok (.iload_n 1, 1) := by decide +kernel
theorem dX11_setBuffer_1 : decode cX11_setBuffer 1 = .ok (.iconst 2, 1) := by decide +kernel
theorem dX11_setBuffer_2 : decode cX11_setBuffer 2 = .ok (.invokestatic 98, 3) := by decide +kernel
theorem dX11_setBuffer_5 : decode cX11_setBuffer 5 = .ok (.iload_n 2, 1) := by decide +kernel
theorem dX11_setBuffer_6 : decode cX11_setBuffer 6 = .ok (.iconst 0, 1) := by decide +kernel
theorem dX11_setBuffer_7 : decode cX11_setBuffer 7 = .ok (.iconst 4, 1) := by decide +kernel
theorem dX11_setBuffer_8 : decode cX11_setBuffer 8 = .ok (.invokestatic 58, 3) := by decide +kernel
theorem dX11_setBuffer_11 : decode cX11_setBuffer 11 = .ok (.aload_n 0, 1) := by decide +kernel
theorem dX11_setBuffer_12 : decode cX11_setBuffer 12 = .ok (.getfield 10, 3) := by decide +kernel
theorem dX11_setBuffer_15 : decode cX11_setBuffer 15 = .ok (.getfield 79, 3) := by decide +kernel
theorem dX11_setBuffer_18 : decode cX11_setBuffer 18 = .ok (.getfield 232, 3) := by decide +kernel
theorem dX11_setBuffer_21 : decode cX11_setBuffer 21 = .ok (.iload_n 1, 1) := by decide +kernel
theorem dX11_setBuffer_22 : decode cX11_setBuffer 22 = .ok (.iaload, 1) := by decide +kernel
theorem dX11_setBuffer_23 : decode cX11_setBuffer 23 = .ok (.istore_n 3, 1) := by decide +kernel
theorem dX11_setBuffer_24 : decode cX11_setBuffer 24 = .ok (.aload_n 0, 1) := by decide +kernel
theorem dX11_setBuffer_25 : decode cX11_setBuffer 25 = .ok (.getfield 10, 3) := by decide +kernel
theorem dX11_setBuffer_28 : decode cX11_setBuffer 28 = .ok (.getfield 79, 3) := by decide +kernel
theorem dX11_setBuffer_31 : decode cX11_setBuffer 31 = .ok (.getfield 232, 3) := by decide +kernel
theorem dX11_setBuffer_34 : decode cX11_setBuffer 34 = .ok (.iload_n 1, 1) := by decide +kernel
theorem dX11_setBuffer_35 : decode cX11_setBuffer 35 = .ok (.iload_n 2, 1) := by decide +kernel
theorem dX11_setBuffer_36 : decode cX11_setBuffer 36 = .ok (.iastore, 1) := by decide +kernel
theorem dX11_setBuffer_37 : decode cX11_setBuffer 37 = .ok (.iload_n 3, 1) := by decide +kernel
theorem dX11_setBuffer_38 : decode cX11_setBuffer 38 = .ok (.ireturn, 1) := by decide +kernel
theorem dX11_setTimes_0 : decode cX11_setTimes 0 = .ok (.iload_n 1, 1) := by decide +kernel
theorem dX11_setTimes_1 : decode cX11_setTimes 1 = .ok (.iconst 0, 1) := by decide +kernel
theorem dX11_setTimes_2 : decode cX11_setTimes 2 = .ok (.bipush 99, 2) := by decide +kernel
theorem dX11_setTimes_4 : decode cX11_setTimes 4 = .ok (.invokestatic 58, 3) := by decide +kernel
theorem dX11_setTimes_7 : decode cX11_setTimes 7 = .ok (.iload_n 2, 1) := by decide +kernel
theorem dX11_setTimes_8 : decode cX11_setTimes 8 = .ok (.iconst 0, 1) := by decide +kernel
theorem dX11_setTimes_9 : decode cX11_setTimes 9 = .ok (.bipush 99, 2) := by decide +kernel
theorem dX11_setTimes_11 : decode cX11_setTimes 11 = .ok (.invokestatic 58, 3) := by decide +kernel
theorem dX11_setTimes_14 : decode cX11_setTimes 14 = .ok (.bipush 100, 2) := by decide +kernel
theorem dX11_setTimes_16 : decode cX11_setTimes 16 = .ok (.aload_n 0, 1) := by decide +kernel
theorem dX11_setTimes_17 : decode cX11_setTimes 17 = .ok (.getfield 10, 3) := by decide +kernel
theorem dX11_setTimes_20 : decode cX11_setTimes 20 = .ok (.getfield 79, 3) := by decide +kernel
theorem dX11_setTimes_23 : decode cX11_setTimes 23 = .ok (.getfield 235, 3) := by decide +kernel
theorem dX11_setTimes_26 : decode cX11_setTimes 26 = .ok (.imul, 1) := by decide +kernel
theorem dX11_setTimes_27 : decode cX11_setTimes 27 = .ok (.aload_n 0, 1) := by decide +kernel
theorem dX11_setTimes_28 : decode cX11_setTimes 28 = .ok (.getfield 10, 3) := by decide +kernel
theorem dX11_setTimes_31 : decode cX11_setTimes 31 = .ok (.getfield 79, 3) := by decide +kernel
theorem dX11_setTimes_34 : decode cX11_setTimes 34 = .ok (.getfield 238, 3) := by decide +kernel
theorem dX11_setTimes_37 : decode cX11_setTimes 37 = .ok (.iadd, 1) := by decide +kernel
theorem dX11_setTimes_38 : decode cX11_setTimes 38 = .ok (.istore_n 3, 1) := by decide +kernel
theorem dX11_setTimes_39 : decode cX11_setTimes 39 = .ok (.aload_n 0, 1) := by decide +kernel
theorem dX11_setTimes_40 : decode cX11_setTimes 40 = .ok (.getfield 10, 3) := by decide +kernel
theorem dX11_setTimes_43 : decode cX11_setTimes 43 = .ok (.getfield 79, 3) := by decide +kernel
theorem dX11_setTimes_46 : decode cX11_setTimes 46 = .ok (.iload_n 1, 1) := by decide +kernel
theorem dX11_setTimes_47 : decode cX11_setTimes 47 = .ok (.putfield 235, 3) := by decide +kernel
theorem dX11_setTimes_50 : decode cX11_setTimes 50 = .ok (.aload_n 0, 1) := by decide +kernel
theorem dX11_setTimes_51 : decode cX11_setTimes 51 = .ok (.getfield 10, 3) := by decide +kernel
theorem dX11_setTimes_54 : decode cX11_setTimes 54 = .ok (.getfield 79, 3) := by decide +kernel
theorem dX11_setTimes_57 : decode cX11_setTimes 57 = .ok (.iload_n 2, 1) := by decide +kernel
theorem dX11_setTimes_58 : decode cX11_setTimes 58 = .ok (.putfield 238, 3) := by decide +kernel
theorem dX11_setTimes_61 : decode cX11_setTimes 61 = .ok (.iload_n 3, 1) := by decide +kernel
theorem dX11_setTimes_62 : decode cX11_setTimes 62 = .ok (.ireturn, 1) := by decide +kernel
theorem dX11_routeLength_0 : decode cX11_routeLength 0 = .ok (.aload_n 0, 1) := by decide +kernel
theorem dX11_routeLength_1 : decode cX11_routeLength 1 = .ok (.iload_n 1, 1) := by decide +kernel
theorem dX11_routeLength_2 : decode cX11_routeLength 2 = .ok (.invokevirtual 192, 3) := by decide +kernel
theorem dX11_routeLength_5 : decode cX11_routeLength 5 = .ok (.aload_n 0, 1) := by decide +kernel
theorem dX11_routeLength_6 : decode cX11_routeLength 6 = .ok (.iload_n 2, 1) := by decide +kernel
theorem dX11_routeLength_7 : decode cX11_routeLength 7 = .ok (.invokevirtual 241, 3) := by decide +kernel
theorem dX11_routeLength_10 : decode cX11_routeLength 10 = .ok (.iload_n 3, 1) := by decide +kernel
theorem dX11_routeLength_11 : decode cX11_routeLength 11 = .ok (.iconst 0, 1) := by decide +kernel
theorem dX11_routeLength_12 : decode cX11_routeLength 12 = .ok (.iconst 3, 1) := by decide +kernel
theorem dX11_routeLength_13 : decode cX11_routeLength 13 = .ok (.invokestatic 58, 3) := by decide +kernel
theorem dX11_routeLength_16 : decode cX11_routeLength 16 = .ok (.aload_n 0, 1) := by decide +kernel
theorem dX11_routeLength_17 : decode cX11_routeLength 17 = .ok (.getfield 33, 3) := by decide +kernel
theorem dX11_routeLength_20 : decode cX11_routeLength 20 = .ok (.aload_n 0, 1) := by decide +kernel
theorem dX11_routeLength_21 : decode cX11_routeLength 21 = .ok (.getfield 10, 3) := by decide +kernel
theorem dX11_routeLength_24 : decode cX11_routeLength 24 = .ok (.aload_n 0, 1) := by decide +kernel
theorem dX11_routeLength_25 : decode cX11_routeLength 25 = .ok (.getfield 10, 3) := by decide +kernel
theorem dX11_routeLength_28 : decode cX11_routeLength 28 = .ok (.getfield 159, 3) := by decide +kernel
theorem dX11_routeLength_31 : decode cX11_routeLength 31 = .ok (.getfield 195, 3) := by decide +kernel
theorem dX11_routeLength_34 : decode cX11_routeLength 34 = .ok (.iload_n 1, 1) := by decide +kernel
theorem dX11_routeLength_35 : decode cX11_routeLength 35 = .ok (.iaload, 1) := by decide +kernel
theorem dX11_routeLength_36 : decode cX11_routeLength 36 = .ok (.invokevirtual 244, 3) := by decide +kernel
theorem dX11_routeLength_39 : decode cX11_routeLength 39 = .ok (.aload_n 0, 1) := by decide +kernel
theorem dX11_routeLength_40 : decode cX11_routeLength 40 = .ok (.getfield 33, 3) := by decide +kernel
theorem dX11_routeLength_43 : decode cX11_routeLength 43 = .ok (.aload_n 0, 1) := by decide +kernel
theorem dX11_routeLength_44 : decode cX11_routeLength 44 = .ok (.getfield 10, 3) := by decide +kernel
theorem dX11_routeLength_47 : decode cX11_routeLength 47 = .ok (.getfield 79, 3) := by decide +kernel
theorem dX11_routeLength_50 : decode cX11_routeLength 50 = .ok (.iload_n 2, 1) := by decide +kernel
theorem dX11_routeLength_51 : decode cX11_routeLength 51 = .ok (.iload_n 3, 1) := by decide +kernel
theorem dX11_routeLength_52 : decode cX11_routeLength 52 = .ok (.invokevirtual 247, 3) := by decide +kernel
theorem dX11_routeLength_55 : decode cX11_routeLength 55 = .ok (.ireturn, 1) := by decide +kernel
theorem dX11_batchRoute_0 : decode cX11_batchRoute 0 = .ok (.aload_n 0, 1) := by decide +kernel
theorem dX11_batchRoute_1 : decode cX11_batchRoute 1 = .ok (.iload_n 1, 1) := by decide +kernel
theorem dX11_batchRoute_2 : decode cX11_batchRoute 2 = .ok (.invokevirtual 192, 3) := by decide +kernel
theorem dX11_batchRoute_5 : decode cX11_batchRoute 5 = .ok (.aload_n 0, 1) := by decide +kernel
theorem dX11_batchRoute_6 : decode cX11_batchRoute 6 = .ok (.getfield 33, 3) := by decide +kernel
theorem dX11_batchRoute_9 : decode cX11_batchRoute 9 = .ok (.aload_n 0, 1) := by decide +kernel
theorem dX11_batchRoute_10 : decode cX11_batchRoute 10 = .ok (.getfield 10, 3) := by decide +kernel
theorem dX11_batchRoute_13 : decode cX11_batchRoute 13 = .ok (.aload_n 0, 1) := by decide +kernel
theorem dX11_batchRoute_14 : decode cX11_batchRoute 14 = .ok (.getfield 10, 3) := by decide +kernel
theorem dX11_batchRoute_17 : decode cX11_batchRoute 17 = .ok (.getfield 159, 3) := by decide +kernel
theorem dX11_batchRoute_20 : decode cX11_batchRoute 20 = .ok (.getfield 195, 3) := by decide +kernel
theorem dX11_batchRoute_23 : decode cX11_batchRoute 23 = .ok (.iload_n 1, 1) := by decide +kernel
theorem dX11_batchRoute_24 : decode cX11_batchRoute 24 = .ok (.iaload, 1) := by decide +kernel
theorem dX11_batchRoute_25 : decode cX11_batchRoute 25 = .ok (.aload_n 0, 1) := by decide +kernel
theorem dX11_batchRoute_26 : decode cX11_batchRoute 26 = .ok (.getfield 10, 3) := by decide +kernel
theorem dX11_batchRoute_29 : decode cX11_batchRoute 29 = .ok (.getfield 79, 3) := by decide +kernel
theorem dX11_batchRoute_32 : decode cX11_batchRoute 32 = .ok (.getfield 220, 3) := by decide +kernel
theorem dX11_batchRoute_35 : decode cX11_batchRoute 35 = .ok (.invokevirtual 251, 3) := by decide +kernel
theorem dX11_batchRoute_38 : decode cX11_batchRoute 38 = .ok (.ireturn, 1) := by decide +kernel
theorem dX11_bestPolicy_0 : decode cX11_bestPolicy 0 = .ok (.aload_n 0, 1) := by decide +kernel
theorem dX11_bestPolicy_1 : decode cX11_bestPolicy 1 = .ok (.iload_n 1, 1) := by decide +kernel
theorem dX11_bestPolicy_2 : decode cX11_bestPolicy 2 = .ok (.invokevirtual 192, 3) := by decide +kernel
theorem dX11_bestPolicy_5 : decode cX11_bestPolicy 5 = .ok (.aload_n 0, 1) := by decide +kernel
theorem dX11_bestPolicy_6 : decode cX11_bestPolicy 6 = .ok (.getfield 10, 3) := by decide +kernel
theorem dX11_bestPolicy_9 : decode cX11_bestPolicy 9 = .ok (.getfield 159, 3) := by decide +kernel
theorem dX11_bestPolicy_12 : decode cX11_bestPolicy 12 = .ok (.getfield 195, 3) := by decide +kernel
theorem dX11_bestPolicy_15 : decode cX11_bestPolicy 15 = .ok (.iload_n 1, 1) := by decide +kernel
theorem dX11_bestPolicy_16 : decode cX11_bestPolicy 16 = .ok (.iaload, 1) := by decide +kernel
theorem dX11_bestPolicy_17 : decode cX11_bestPolicy 17 = .ok (.istore_n 2, 1) := by decide +kernel
theorem dX11_bestPolicy_18 : decode cX11_bestPolicy 18 = .ok (.iconst 0, 1) := by decide +kernel
theorem dX11_bestPolicy_19 : decode cX11_bestPolicy 19 = .ok (.istore_n 3, 1) := by decide +kernel
theorem dX11_bestPolicy_20 : decode cX11_bestPolicy 20 = .ok (.aload_n 0, 1) := by decide +kernel
theorem dX11_bestPolicy_21 : decode cX11_bestPolicy 21 = .ok (.getfield 33, 3) := by decide +kernel
theorem dX11_bestPolicy_24 : decode cX11_bestPolicy 24 = .ok (.aload_n 0, 1) := by decide +kernel
theorem dX11_bestPolicy_25 : decode cX11_bestPolicy 25 = .ok (.getfield 10, 3) := by decide +kernel
theorem dX11_bestPolicy_28 : decode cX11_bestPolicy 28 = .ok (.iload_n 2, 1) := by decide +kernel
theorem dX11_bestPolicy_29 : decode cX11_bestPolicy 29 = .ok (.iconst 0, 1) := by decide +kernel
theorem dX11_bestPolicy_30 : decode cX11_bestPolicy 30 = .ok (.invokevirtual 251, 3) := by decide +kernel
theorem dX11_bestPolicy_33 : decode cX11_bestPolicy 33 = .ok (.istore 4, 2) := by decide +kernel
theorem dX11_bestPolicy_35 : decode cX11_bestPolicy 35 = .ok (.iconst 1, 1) := by decide +kernel
theorem dX11_bestPolicy_36 : decode cX11_bestPolicy 36 = .ok (.istore 5, 2) := by decide +kernel
theorem dX11_bestPolicy_38 : decode cX11_bestPolicy 38 = .ok (.iload 5, 2) := by decide +kernel
theorem dX11_bestPolicy_40 : decode cX11_bestPolicy 40 = .ok (.iconst 3, 1) := by decide +kernel
theorem dX11_bestPolicy_41 : decode cX11_bestPolicy 41 = .ok (.if_icmp .gt 39, 3) := by decide +kernel
theorem dX11_bestPolicy_44 : decode cX11_bestPolicy 44 = .ok (.aload_n 0, 1) := by decide +kernel
theorem dX11_bestPolicy_45 : decode cX11_bestPolicy 45 = .ok (.getfield 33, 3) := by decide +kernel
theorem dX11_bestPolicy_48 : decode cX11_bestPolicy 48 = .ok (.aload_n 0, 1) := by decide +kernel
theorem dX11_bestPolicy_49 : decode cX11_bestPolicy 49 = .ok (.getfield 10, 3) := by decide +kernel
theorem dX11_bestPolicy_52 : decode cX11_bestPolicy 52 = .ok (.iload_n 2, 1) := by decide +kernel
theorem dX11_bestPolicy_53 : decode cX11_bestPolicy 53 = .ok (.iload 5, 2) := by decide +kernel
theorem dX11_bestPolicy_55 : decode cX11_bestPolicy 55 = .ok (.invokevirtual 251, 3) := by decide +kernel
theorem dX11_bestPolicy_58 : decode cX11_bestPolicy 58 = .ok (.istore 6, 2) := by decide +kernel
theorem dX11_bestPolicy_60 : decode cX11_bestPolicy 60 = .ok (.iload 6, 2) := by decide +kernel
theorem dX11_bestPolicy_62 : decode cX11_bestPolicy 62 = .ok (.iload 4, 2) := by decide +kernel
theorem dX11_bestPolicy_64 : decode cX11_bestPolicy 64 = .ok (.if_icmp .ge 10, 3) := by decide +kernel
theorem dX11_bestPolicy_67 : decode cX11_bestPolicy 67 = .ok (.iload 6, 2) := by decide +kernel
theorem dX11_bestPolicy_69 : decode cX11_bestPolicy 69 = .ok (.istore 4, 2) := by decide +kernel
theorem dX11_bestPolicy_71 : decode cX11_bestPolicy 71 = .ok (.iload 5, 2) := by decide +kernel
theorem dX11_bestPolicy_73 : decode cX11_bestPolicy 73 = .ok (.istore_n 3, 1) := by decide +kernel
theorem dX11_bestPolicy_74 : decode cX11_bestPolicy 74 = .ok (.iinc 5 1, 3) := by decide +kernel
theorem dX11_bestPolicy_77 : decode cX11_bestPolicy 77 = .ok (.goto (-39), 3) := by decide +kernel
theorem dX11_bestPolicy_80 : decode cX11_bestPolicy 80 = .ok (.iload_n 3, 1) := by decide +kernel
theorem dX11_bestPolicy_81 : decode cX11_bestPolicy 81 = .ok (.ireturn, 1) := by decide +kernel
theorem dX11_stopCount_0 : decode cX11_stopCount 0 = .ok (.aload_n 0, 1) := by decide +kernel
theorem dX11_stopCount_1 : decode cX11_stopCount 1 = .ok (.iload_n 1, 1) := by decide +kernel
theorem dX11_stopCount_2 : decode cX11_stopCount 2 = .ok (.invokevirtual 192, 3) := by decide +kernel
theorem dX11_stopCount_5 : decode cX11_stopCount 5 = .ok (.aload_n 0, 1) := by decide +kernel
theorem dX11_stopCount_6 : decode cX11_stopCount 6 = .ok (.iload_n 2, 1) := by decide +kernel
theorem dX11_stopCount_7 : decode cX11_stopCount 7 = .ok (.invokevirtual 241, 3) := by decide +kernel
theorem dX11_stopCount_10 : decode cX11_stopCount 10 = .ok (.aload_n 0, 1) := by decide +kernel
theorem dX11_stopCount_11 : decode cX11_stopCount 11 = .ok (.getfield 33, 3) := by decide +kernel
theorem dX11_stopCount_14 : decode cX11_stopCount 14 = .ok (.aload_n 0, 1) := by decide +kernel
theorem dX11_stopCount_15 : decode cX11_stopCount 15 = .ok (.getfield 10, 3) := by decide +kernel
theorem dX11_stopCount_18 : decode cX11_stopCount 18 = .ok (.aload_n 0, 1) := by decide +kernel
theorem dX11_stopCount_19 : decode cX11_stopCount 19 = .ok (.getfield 10, 3) := by decide +kernel
theorem dX11_stopCount_22 : decode cX11_stopCount 22 = .ok (.getfield 159, 3) := by decide +kernel
theorem dX11_stopCount_25 : decode cX11_stopCount 25 = .ok (.getfield 195, 3) := by decide +kernel
theorem dX11_stopCount_28 : decode cX11_stopCount 28 = .ok (.iload_n 1, 1) := by decide +kernel
theorem dX11_stopCount_29 : decode cX11_stopCount 29 = .ok (.iaload, 1) := by decide +kernel
theorem dX11_stopCount_30 : decode cX11_stopCount 30 = .ok (.invokevirtual 244, 3) := by decide +kernel
theorem dX11_stopCount_33 : decode cX11_stopCount 33 = .ok (.aload_n 0, 1) := by decide +kernel
theorem dX11_stopCount_34 : decode cX11_stopCount 34 = .ok (.getfield 33, 3) := by decide +kernel
theorem dX11_stopCount_37 : decode cX11_stopCount 37 = .ok (.aload_n 0, 1) := by decide +kernel
theorem dX11_stopCount_38 : decode cX11_stopCount 38 = .ok (.getfield 10, 3) := by decide +kernel
theorem dX11_stopCount_41 : decode cX11_stopCount 41 = .ok (.getfield 79, 3) := by decide +kernel
theorem dX11_stopCount_44 : decode cX11_stopCount 44 = .ok (.iload_n 2, 1) := by decide +kernel
theorem dX11_stopCount_45 : decode cX11_stopCount 45 = .ok (.invokevirtual 254, 3) := by decide +kernel
theorem dX11_stopCount_48 : decode cX11_stopCount 48 = .ok (.ireturn, 1) := by decide +kernel
theorem dX11_stopItem_0 : decode cX11_stopItem 0 = .ok (.aload_n 0, 1) := by decide +kernel
theorem dX11_stopItem_1 : decode cX11_stopItem 1 = .ok (.iload_n 1, 1) := by decide +kernel
theorem dX11_stopItem_2 : decode cX11_stopItem 2 = .ok (.invokevirtual 192, 3) := by decide +kernel
theorem dX11_stopItem_5 : decode cX11_stopItem 5 = .ok (.aload_n 0, 1) := by decide +kernel
theorem dX11_stopItem_6 : decode cX11_stopItem 6 = .ok (.iload_n 2, 1) := by decide +kernel
theorem dX11_stopItem_7 : decode cX11_stopItem 7 = .ok (.invokevirtual 241, 3) := by decide +kernel
theorem dX11_stopItem_10 : decode cX11_stopItem 10 = .ok (.aload_n 0, 1) := by decide +kernel
theorem dX11_stopItem_11 : decode cX11_stopItem 11 = .ok (.getfield 33, 3) := by decide +kernel
theorem dX11_stopItem_14 : decode cX11_stopItem 14 = .ok (.aload_n 0, 1) := by decide +kernel
theorem dX11_stopItem_15 : decode cX11_stopItem 15 = .ok (.getfield 10, 3) := by decide +kernel
theorem dX11_stopItem_18 : decode cX11_stopItem 18 = .ok (.aload_n 0, 1) := by decide +kernel
theorem dX11_stopItem_19 : decode cX11_stopItem 19 = .ok (.getfield 10, 3) := by decide +kernel
theorem dX11_stopItem_22 : decode cX11_stopItem 22 = .ok (.getfield 159, 3) := by decide +kernel
theorem dX11_stopItem_25 : decode cX11_stopItem 25 = .ok (.getfield 195, 3) := by decide +kernel
theorem dX11_stopItem_28 : decode cX11_stopItem 28 = .ok (.iload_n 1, 1) := by decide +kernel
theorem dX11_stopItem_29 : decode cX11_stopItem 29 = .ok (.iaload, 1) := by decide +kernel
theorem dX11_stopItem_30 : decode cX11_stopItem 30 = .ok (.invokevirtual 244, 3) := by decide +kernel
theorem dX11_stopItem_33 : decode cX11_stopItem 33 = .ok (.aload_n 0, 1) := by decide +kernel
theorem dX11_stopItem_34 : decode cX11_stopItem 34 = .ok (.getfield 33, 3) := by decide +kernel
theorem dX11_stopItem_37 : decode cX11_stopItem 37 = .ok (.aload_n 0, 1) := by decide +kernel
theorem dX11_stopItem_38 : decode cX11_stopItem 38 = .ok (.getfield 10, 3) := by decide +kernel
theorem dX11_stopItem_41 : decode cX11_stopItem 41 = .ok (.iload_n 2, 1) := by decide +kernel
theorem dX11_stopItem_42 : decode cX11_stopItem 42 = .ok (.invokevirtual 258, 3) := by decide +kernel
theorem dX11_stopItem_45 : decode cX11_stopItem 45 = .ok (.iload_n 3, 1) := by decide +kernel
theorem dX11_stopItem_46 : decode cX11_stopItem 46 = .ok (.aload_n 0, 1) := by decide +kernel
theorem dX11_stopItem_47 : decode cX11_stopItem 47 = .ok (.getfield 33, 3) := by decide +kernel
theorem dX11_stopItem_50 : decode cX11_stopItem 50 = .ok (.getfield 261, 3) := by decide +kernel
theorem dX11_stopItem_53 : decode cX11_stopItem 53 = .ok (.invokestatic 98, 3) := by decide +kernel
theorem dX11_stopItem_56 : decode cX11_stopItem 56 = .ok (.aload_n 0, 1) := by decide +kernel
theorem dX11_stopItem_57 : decode cX11_stopItem 57 = .ok (.getfield 33, 3) := by decide +kernel
theorem dX11_stopItem_60 : decode cX11_stopItem 60 = .ok (.getfield 264, 3) := by decide +kernel
theorem dX11_stopItem_63 : decode cX11_stopItem 63 = .ok (.iload_n 3, 1) := by decide +kernel
theorem dX11_stopItem_64 : decode cX11_stopItem 64 = .ok (.iaload, 1) := by decide +kernel
theorem dX11_stopItem_65 : decode cX11_stopItem 65 = .ok (.ireturn, 1) := by decide +kernel
theorem dX11_savedDistance_0 : decode cX11_savedDistance 0 = .ok (.iconst 0, 1) := by decide +kernel
theorem dX11_savedDistance_1 : decode cX11_savedDistance 1 = .ok (.istore_n 1, 1) := by decide +kernel
theorem dX11_savedDistance_2 : decode cX11_savedDistance 2 = .ok (.iconst 0, 1) := by decide +kernel
theorem dX11_savedDistance_3 : decode cX11_savedDistance 3 = .ok (.istore_n 2, 1) := by decide +kernel
theorem dX11_savedDistance_4 : decode cX11_savedDistance 4 = .ok (.iload_n 2, 1) := by decide +kernel
theorem dX11_savedDistance_5 : decode cX11_savedDistance 5 = .ok (.aload_n 0, 1) := by decide +kernel
theorem dX11_savedDistance_6 : decode cX11_savedDistance 6 = .ok (.getfield 10, 3) := by decide +kernel
theorem dX11_savedDistance_9 : decode cX11_savedDistance 9 = .ok (.getfield 159, 3) := by decide +kernel
theorem dX11_savedDistance_12 : decode cX11_savedDistance 12 = .ok (.getfield 168, 3) := by decide +kernel
theorem dX11_savedDistance_15 : decode cX11_savedDistance 15 = .ok (.if_icmp .ge 45, 3) := by decide +kernel
theorem dX11_savedDistance_18 : decode cX11_savedDistance 18 = .ok (.iload_n 1, 1) := by decide +kernel
theorem dX11_savedDistance_19 : decode cX11_savedDistance 19 = .ok (.aload_n 0, 1) := by decide +kernel
theorem dX11_savedDistance_20 : decode cX11_savedDistance 20 = .ok (.getfield 33, 3) := by decide +kernel
theorem dX11_savedDistance_23 : decode cX11_savedDistance 23 = .ok (.aload_n 0, 1) := by decide +kernel
theorem dX11_savedDistance_24 : decode cX11_savedDistance 24 = .ok (.getfield 10, 3) := by decide +kernel
theorem dX11_savedDistance_27 : decode cX11_savedDistance 27 = .ok (.aload_n 0, 1) := by decide +kernel
theorem dX11_savedDistance_28 : decode cX11_savedDistance 28 = .ok (.getfield 10, 3) := by decide +kernel
theorem dX11_savedDistance_31 : decode cX11_savedDistance 31 = .ok (.getfield 159, 3) := by decide +kernel
theorem dX11_savedDistance_34 : decode cX11_savedDistance 34 = .ok (.getfield 195, 3) := by decide +kernel
theorem dX11_savedDistance_37 : decode cX11_savedDistance 37 = .ok (.iload_n 2, 1) := by decide +kernel
theorem dX11_savedDistance_38 : decode cX11_savedDistance 38 = .ok (.iaload, 1) := by decide +kernel
theorem dX11_savedDistance_39 : decode cX11_savedDistance 39 = .ok (.aload_n 0, 1) := by decide +kernel
theorem dX11_savedDistance_40 : decode cX11_savedDistance 40 = .ok (.getfield 10, 3) := by decide +kernel
theorem dX11_savedDistance_43 : decode cX11_savedDistance 43 = .ok (.getfield 79, 3) := by decide +kernel
theorem dX11_savedDistance_46 : decode cX11_savedDistance 46 = .ok (.getfield 220, 3) := by decide +kernel
theorem dX11_savedDistance_49 : decode cX11_savedDistance 49 = .ok (.invokevirtual 251, 3) := by decide +kernel
theorem dX11_savedDistance_52 : decode cX11_savedDistance 52 = .ok (.isub, 1) := by decide +kernel
theorem dX11_savedDistance_53 : decode cX11_savedDistance 53 = .ok (.istore_n 1, 1) := by decide +kernel
theorem dX11_savedDistance_54 : decode cX11_savedDistance 54 = .ok (.iinc 2 1, 3) := by decide +kernel
theorem dX11_savedDistance_57 : decode cX11_savedDistance 57 = .ok (.goto (-53), 3) := by decide +kernel
theorem dX11_savedDistance_60 : decode cX11_savedDistance 60 = .ok (.iconst 0, 1) := by decide +kernel
theorem dX11_savedDistance_61 : decode cX11_savedDistance 61 = .ok (.istore_n 2, 1) := by decide +kernel
theorem dX11_savedDistance_62 : decode cX11_savedDistance 62 = .ok (.iload_n 2, 1) := by decide +kernel
theorem dX11_savedDistance_63 : decode cX11_savedDistance 63 = .ok (.aload_n 0, 1) := by decide +kernel
theorem dX11_savedDistance_64 : decode cX11_savedDistance 64 = .ok (.getfield 10, 3) := by decide +kernel
theorem dX11_savedDistance_67 : decode cX11_savedDistance 67 = .ok (.getfield 118, 3) := by decide +kernel
theorem dX11_savedDistance_70 : decode cX11_savedDistance 70 = .ok (.getfield 146, 3) := by decide +kernel
theorem dX11_savedDistance_73 : decode cX11_savedDistance 73 = .ok (.if_icmp .ge 52, 3) := by decide +kernel
theorem dX11_savedDistance_76 : decode cX11_savedDistance 76 = .ok (.aload_n 0, 1) := by decide +kernel
theorem dX11_savedDistance_77 : decode cX11_savedDistance 77 = .ok (.getfield 10, 3) := by decide +kernel
theorem dX11_savedDistance_80 : decode cX11_savedDistance 80 = .ok (.getfield 118, 3) := by decide +kernel
theorem dX11_savedDistance_83 : decode cX11_savedDistance 83 = .ok (.getfield 130, 3) := by decide +kernel
theorem dX11_savedDistance_86 : decode cX11_savedDistance 86 = .ok (.iload_n 2, 1) := by decide +kernel
theorem dX11_savedDistance_87 : decode cX11_savedDistance 87 = .ok (.iaload, 1) := by decide +kernel
theorem dX11_savedDistance_88 : decode cX11_savedDistance 88 = .ok (.iconst 1, 1) := by decide +kernel
theorem dX11_savedDistance_89 : decode cX11_savedDistance 89 = .ok (.if_icmp .ne 30, 3) := by decide +kernel
theorem dX11_savedDistance_92 : decode cX11_savedDistance 92 = .ok (.iload_n 1, 1) := by decide +kernel
theorem dX11_savedDistance_93 : decode cX11_savedDistance 93 = .ok (.aload_n 0, 1) := by decide +kernel
theorem dX11_savedDistance_94 : decode cX11_savedDistance 94 = .ok (.getfield 33, 3) := by decide +kernel
theorem dX11_savedDistance_97 : decode cX11_savedDistance 97 = .ok (.aload_n 0, 1) := by decide +kernel
theorem dX11_savedDistance_98 : decode cX11_savedDistance 98 = .ok (.getfield 10, 3) := by decide +kernel
theorem dX11_savedDistance_101 : decode cX11_savedDistance 101 = .ok (.iconst 1, 1) := by decide +kernel
theorem dX11_savedDistance_102 : decode cX11_savedDistance 102 = .ok (.iload_n 2, 1) := by decide +kernel
theorem dX11_savedDistance_103 : decode cX11_savedDistance 103 = .ok (.ishl, 1) := by decide +kernel
theorem dX11_savedDistance_104 : decode cX11_savedDistance 104 = .ok (.aload_n 0, 1) := by decide +kernel
theorem dX11_savedDistance_105 : decode cX11_savedDistance 105 = .ok (.getfield 10, 3) := by decide +kernel
theorem dX11_savedDistance_108 : decode cX11_savedDistance 108 = .ok (.getfield 79, 3) := by decide +kernel
theorem dX11_savedDistance_111 : decode cX11_savedDistance 111 = .ok (.getfield 220, 3) := by decide +kernel
theorem dX11_savedDistance_114 : decode cX11_savedDistance 114 = .ok (.invokevirtual 251, 3) := by decide +kernel
theorem dX11_savedDistance_117 : decode cX11_savedDistance 117 = .ok (.iadd, 1) := by decide +kernel
theorem dX11_savedDistance_118 : decode cX11_savedDistance 118 = .ok (.istore_n 1, 1) := by decide +kernel
theorem dX11_savedDistance_119 : decode cX11_savedDistance 119 = .ok (.iinc 2 1, 3) := by decide +kernel
theorem dX11_savedDistance_122 : decode cX11_savedDistance 122 = .ok (.goto (-60), 3) := by decide +kernel
theorem dX11_savedDistance_125 : decode cX11_savedDistance 125 = .ok (.iload_n 1, 1) := by decide +kernel
theorem dX11_savedDistance_126 : decode cX11_savedDistance 126 = .ok (.ireturn, 1) := by decide +kernel
theorem dX11_workTime_0 : decode cX11_workTime 0 = .ok (.aload_n 0, 1) := by decide +kernel
theorem dX11_workTime_1 : decode cX11_workTime 1 = .ok (.iload_n 1, 1) := by decide +kernel
theorem dX11_workTime_2 : decode cX11_workTime 2 = .ok (.invokevirtual 192, 3) := by decide +kernel
theorem dX11_workTime_5 : decode cX11_workTime 5 = .ok (.aload_n 0, 1) := by decide +kernel
theorem dX11_workTime_6 : decode cX11_workTime 6 = .ok (.iload_n 2, 1) := by decide +kernel
theorem dX11_workTime_7 : decode cX11_workTime 7 = .ok (.invokevirtual 241, 3) := by decide +kernel
theorem dX11_workTime_10 : decode cX11_workTime 10 = .ok (.aload_n 0, 1) := by decide +kernel
theorem dX11_workTime_11 : decode cX11_workTime 11 = .ok (.getfield 40, 3) := by decide +kernel
theorem dX11_workTime_14 : decode cX11_workTime 14 = .ok (.aload_n 0, 1) := by decide +kernel
theorem dX11_workTime_15 : decode cX11_workTime 15 = .ok (.getfield 10, 3) := by decide +kernel
theorem dX11_workTime_18 : decode cX11_workTime 18 = .ok (.invokevirtual 267, 3) := by decide +kernel
theorem dX11_workTime_21 : decode cX11_workTime 21 = .ok (.aload_n 0, 1) := by decide +kernel
theorem dX11_workTime_22 : decode cX11_workTime 22 = .ok (.getfield 40, 3) := by decide +kernel
theorem dX11_workTime_25 : decode cX11_workTime 25 = .ok (.getfield 271, 3) := by decide +kernel
theorem dX11_workTime_28 : decode cX11_workTime 28 = .ok (.iload_n 1, 1) := by decide +kernel
theorem dX11_workTime_29 : decode cX11_workTime 29 = .ok (.aaload, 1) := by decide +kernel
theorem dX11_workTime_30 : decode cX11_workTime 30 = .ok (.iload_n 2, 1) := by decide +kernel
theorem dX11_workTime_31 : decode cX11_workTime 31 = .ok (.iaload, 1) := by decide +kernel
theorem dX11_workTime_32 : decode cX11_workTime 32 = .ok (.ireturn, 1) := by decide +kernel
theorem dX11_startTime_0 : decode cX11_startTime 0 = .ok (.aload_n 0, 1) := by decide +kernel
theorem dX11_startTime_1 : decode cX11_startTime 1 = .ok (.iload_n 1, 1) := by decide +kernel
theorem dX11_startTime_2 : decode cX11_startTime 2 = .ok (.invokevirtual 192, 3) := by decide +kernel
theorem dX11_startTime_5 : decode cX11_startTime 5 = .ok (.aload_n 0, 1) := by decide +kernel
theorem dX11_startTime_6 : decode cX11_startTime 6 = .ok (.iload_n 2, 1) := by decide +kernel
theorem dX11_startTime_7 : decode cX11_startTime 7 = .ok (.invokevirtual 241, 3) := by decide +kernel
theorem dX11_startTime_10 : decode cX11_startTime 10 = .ok (.aload_n 0, 1) := by decide +kernel
theorem dX11_startTime_11 : decode cX11_startTime 11 = .ok (.getfield 40, 3) := by decide +kernel
theorem dX11_startTime_14 : decode cX11_startTime 14 = .ok (.aload_n 0, 1) := by decide +kernel
theorem dX11_startTime_15 : decode cX11_startTime 15 = .ok (.getfield 10, 3) := by decide +kernel
theorem dX11_startTime_18 : decode cX11_startTime 18 = .ok (.invokevirtual 275, 3) := by decide +kernel
theorem dX11_startTime_21 : decode cX11_startTime 21 = .ok (.aload_n 0, 1) := by decide +kernel
theorem dX11_startTime_22 : decode cX11_startTime 22 = .ok (.getfield 40, 3) := by decide +kernel
theorem dX11_startTime_25 : decode cX11_startTime 25 = .ok (.getfield 278, 3) := by decide +kernel
theorem dX11_startTime_28 : decode cX11_startTime 28 = .ok (.iload_n 1, 1) := by decide +kernel
theorem dX11_startTime_29 : decode cX11_startTime 29 = .ok (.aaload, 1) := by decide +kernel
theorem dX11_startTime_30 : decode cX11_startTime 30 = .ok (.iload_n 2, 1) := by decide +kernel
theorem dX11_startTime_31 : decode cX11_startTime 31 = .ok (.iaload, 1) := by decide +kernel
theorem dX11_startTime_32 : decode cX11_startTime 32 = .ok (.ireturn, 1) := by decide +kernel
theorem dX11_leaveTime_0 : decode cX11_leaveTime 0 = .ok (.aload_n 0, 1) := by decide +kernel
theorem dX11_leaveTime_1 : decode cX11_leaveTime 1 = .ok (.iload_n 1, 1) := by decide +kernel
theorem dX11_leaveTime_2 : decode cX11_leaveTime 2 = .ok (.invokevirtual 192, 3) := by decide +kernel
theorem dX11_leaveTime_5 : decode cX11_leaveTime 5 = .ok (.aload_n 0, 1) := by decide +kernel
theorem dX11_leaveTime_6 : decode cX11_leaveTime 6 = .ok (.iload_n 2, 1) := by decide +kernel
theorem dX11_leaveTime_7 : decode cX11_leaveTime 7 = .ok (.invokevirtual 241, 3) := by decide +kernel
theorem dX11_leaveTime_10 : decode cX11_leaveTime 10 = .ok (.aload_n 0, 1) := by decide +kernel
theorem dX11_leaveTime_11 : decode cX11_leaveTime 11 = .ok (.getfield 40, 3) := by decide +kernel
theorem dX11_leaveTime_14 : decode cX11_leaveTime 14 = .ok (.aload_n 0, 1) := by decide +kernel
theorem dX11_leaveTime_15 : decode cX11_leaveTime 15 = .ok (.getfield 10, 3) := by decide +kernel
theorem dX11_leaveTime_18 : decode cX11_leaveTime 18 = .ok (.invokevirtual 275, 3) := by decide +kernel
theorem dX11_leaveTime_21 : decode cX11_leaveTime 21 = .ok (.aload_n 0, 1) := by decide +kernel
theorem dX11_leaveTime_22 : decode cX11_leaveTime 22 = .ok (.getfield 40, 3) := by decide +kernel
theorem dX11_leaveTime_25 : decode cX11_leaveTime 25 = .ok (.getfield 281, 3) := by decide +kernel
theorem dX11_leaveTime_28 : decode cX11_leaveTime 28 = .ok (.iload_n 1, 1) := by decide +kernel
theorem dX11_leaveTime_29 : decode cX11_leaveTime 29 = .ok (.aaload, 1) := by decide +kernel
theorem dX11_leaveTime_30 : decode cX11_leaveTime 30 = .ok (.iload_n 2, 1) := by decide +kernel
theorem dX11_leaveTime_31 : decode cX11_leaveTime 31 = .ok (.iaload, 1) := by decide +kernel
theorem dX11_leaveTime_32 : decode cX11_leaveTime 32 = .ok (.ireturn, 1) := by decide +kernel
theorem dX11_blockedTime_0 : decode cX11_blockedTime 0 = .ok (.aload_n 0, 1) := by decide +kernel
theorem dX11_blockedTime_1 : decode cX11_blockedTime 1 = .ok (.iload_n 1, 1) := by decide +kernel
theorem dX11_blockedTime_2 : decode cX11_blockedTime 2 = .ok (.invokevirtual 241, 3) := by decide +kernel
theorem dX11_blockedTime_5 : decode cX11_blockedTime 5 = .ok (.aload_n 0, 1) := by decide +kernel
theorem dX11_blockedTime_6 : decode cX11_blockedTime 6 = .ok (.getfield 40, 3) := by decide +kernel
theorem dX11_blockedTime_9 : decode cX11_blockedTime 9 = .ok (.aload_n 0, 1) := by decide +kernel
theorem dX11_blockedTime_10 : decode cX11_blockedTime 10 = .ok (.getfield 10, 3) := by decide +kernel
theorem dX11_blockedTime_13 : decode cX11_blockedTime 13 = .ok (.invokevirtual 275, 3) := by decide +kernel
theorem dX11_blockedTime_16 : decode cX11_blockedTime 16 = .ok (.iconst 0, 1) := by decide +kernel
theorem dX11_blockedTime_17 : decode cX11_blockedTime 17 = .ok (.istore_n 2, 1) := by decide +kernel
theorem dX11_blockedTime_18 : decode cX11_blockedTime 18 = .ok (.iconst 0, 1) := by decide +kernel
theorem dX11_blockedTime_19 : decode cX11_blockedTime 19 = .ok (.istore_n 3, 1) := by decide +kernel
theorem dX11_blockedTime_20 : decode cX11_blockedTime 20 = .ok (.iload_n 3, 1) := by decide +kernel
theorem dX11_blockedTime_21 : decode cX11_blockedTime 21 = .ok (.aload_n 0, 1) := by decide +kernel
theorem dX11_blockedTime_22 : decode cX11_blockedTime 22 = .ok (.getfield 10, 3) := by decide +kernel
theorem dX11_blockedTime_25 : decode cX11_blockedTime 25 = .ok (.getfield 159, 3) := by decide +kernel
theorem dX11_blockedTime_28 : decode cX11_blockedTime 28 = .ok (.getfield 168, 3) := by decide +kernel
theorem dX11_blockedTime_31 : decode cX11_blockedTime 31 = .ok (.if_icmp .ge 47, 3) := by decide +kernel
theorem dX11_blockedTime_34 : decode cX11_blockedTime 34 = .ok (.iload_n 2, 1) := by decide +kernel
theorem dX11_blockedTime_35 : decode cX11_blockedTime 35 = .ok (.aload_n 0, 1) := by decide +kernel
theorem dX11_blockedTime_36 : decode cX11_blockedTime 36 = .ok (.getfield 40, 3) := by decide +kernel
theorem dX11_blockedTime_39 : decode cX11_blockedTime 39 = .ok (.getfield 281, 3) := by decide +kernel
theorem dX11_blockedTime_42 : decode cX11_blockedTime 42 = .ok (.iload_n 3, 1) := by decide +kernel
theorem dX11_blockedTime_43 : decode cX11_blockedTime 43 = .ok (.aaload, 1) := by decide +kernel
theorem dX11_blockedTime_44 : decode cX11_blockedTime 44 = .ok (.iload_n 1, 1) := by decide +kernel
theorem dX11_blockedTime_45 : decode cX11_blockedTime 45 = .ok (.iaload, 1) := by decide +kernel
theorem dX11_blockedTime_46 : decode cX11_blockedTime 46 = .ok (.aload_n 0, 1) := by decide +kernel
theorem dX11_blockedTime_47 : decode cX11_blockedTime 47 = .ok (.getfield 40, 3) := by decide +kernel
theorem dX11_blockedTime_50 : decode cX11_blockedTime 50 = .ok (.getfield 278, 3) := by decide +kernel
theorem dX11_blockedTime_53 : decode cX11_blockedTime 53 = .ok (.iload_n 3, 1) := by decide +kernel
theorem dX11_blockedTime_54 : decode cX11_blockedTime 54 = .ok (.aaload, 1) := by decide +kernel
theorem dX11_blockedTime_55 : decode cX11_blockedTime 55 = .ok (.iload_n 1, 1) := by decide +kernel
theorem dX11_blockedTime_56 : decode cX11_blockedTime 56 = .ok (.iaload, 1) := by decide +kernel
theorem dX11_blockedTime_57 : decode cX11_blockedTime 57 = .ok (.isub, 1) := by decide +kernel
theorem dX11_blockedTime_58 : decode cX11_blockedTime 58 = .ok (.aload_n 0, 1) := by decide +kernel
theorem dX11_blockedTime_59 : decode cX11_blockedTime 59 = .ok (.getfield 40, 3) := by decide +kernel
theorem dX11_blockedTime_62 : decode cX11_blockedTime 62 = .ok (.getfield 271, 3) := by decide +kernel
theorem dX11_blockedTime_65 : decode cX11_blockedTime 65 = .ok (.iload_n 3, 1) := by decide +kernel
theorem dX11_blockedTime_66 : decode cX11_blockedTime 66 = .ok (.aaload, 1) := by decide +kernel
theorem dX11_blockedTime_67 : decode cX11_blockedTime 67 = .ok (.iload_n 1, 1) := by decide +kernel
theorem dX11_blockedTime_68 : decode cX11_blockedTime 68 = .ok (.iaload, 1) := by decide +kernel
theorem dX11_blockedTime_69 : decode cX11_blockedTime 69 = .ok (.isub, 1) := by decide +kernel
theorem dX11_blockedTime_70 : decode cX11_blockedTime 70 = .ok (.iadd, 1) := by decide +kernel
theorem dX11_blockedTime_71 : decode cX11_blockedTime 71 = .ok (.istore_n 2, 1) := by decide +kernel
theorem dX11_blockedTime_72 : decode cX11_blockedTime 72 = .ok (.iinc 3 1, 3) := by decide +kernel
theorem dX11_blockedTime_75 : decode cX11_blockedTime 75 = .ok (.goto (-55), 3) := by decide +kernel
theorem dX11_blockedTime_78 : decode cX11_blockedTime 78 = .ok (.iload_n 2, 1) := by decide +kernel
theorem dX11_blockedTime_79 : decode cX11_blockedTime 79 = .ok (.ireturn, 1) := by decide +kernel
theorem dX11_makespan_0 : decode cX11_makespan 0 = .ok (.aload_n 0, 1) := by decide +kernel
theorem dX11_makespan_1 : decode cX11_makespan 1 = .ok (.getfield 10, 3) := by decide +kernel
theorem dX11_makespan_4 : decode cX11_makespan 4 = .ok (.getfield 159, 3) := by decide +kernel
theorem dX11_makespan_7 : decode cX11_makespan 7 = .ok (.getfield 168, 3) := by decide +kernel
theorem dX11_makespan_10 : decode cX11_makespan 10 = .ok (.ifCond .ne 5, 3) := by decide +kernel
theorem dX11_makespan_13 : decode cX11_makespan 13 = .ok (.iconst 0, 1) := by decide +kernel
theorem dX11_makespan_14 : decode cX11_makespan 14 = .ok (.ireturn, 1) := by decide +kernel
theorem dX11_makespan_15 : decode cX11_makespan 15 = .ok (.aload_n 0, 1) := by decide +kernel
theorem dX11_makespan_16 : decode cX11_makespan 16 = .ok (.getfield 40, 3) := by decide +kernel
theorem dX11_makespan_19 : decode cX11_makespan 19 = .ok (.aload_n 0, 1) := by decide +kernel
theorem dX11_makespan_20 : decode cX11_makespan 20 = .ok (.getfield 10, 3) := by decide +kernel
theorem dX11_makespan_23 : decode cX11_makespan 23 = .ok (.invokevirtual 275, 3) := by decide +kernel
theorem dX11_makespan_26 : decode cX11_makespan 26 = .ok (.aload_n 0, 1) := by decide +kernel
theorem dX11_makespan_27 : decode cX11_makespan 27 = .ok (.getfield 40, 3) := by decide +kernel
theorem dX11_makespan_30 : decode cX11_makespan 30 = .ok (.aload_n 0, 1) := by decide +kernel
theorem dX11_makespan_31 : decode cX11_makespan 31 = .ok (.getfield 10, 3) := by decide +kernel
theorem dX11_makespan_34 : decode cX11_makespan 34 = .ok (.getfield 79, 3) := by decide +kernel
theorem dX11_makespan_37 : decode cX11_makespan 37 = .ok (.aload_n 0, 1) := by decide +kernel
theorem dX11_makespan_38 : decode cX11_makespan 38 = .ok (.getfield 10, 3) := by decide +kernel
theorem dX11_makespan_41 : decode cX11_makespan 41 = .ok (.getfield 159, 3) := by decide +kernel
theorem dX11_makespan_44 : decode cX11_makespan 44 = .ok (.getfield 168, 3) := by decide +kernel
theorem dX11_makespan_47 : decode cX11_makespan 47 = .ok (.iconst 1, 1) := by decide +kernel
theorem dX11_makespan_48 : decode cX11_makespan 48 = .ok (.isub, 1) := by decide +kernel
theorem dX11_makespan_49 : decode cX11_makespan 49 = .ok (.invokevirtual 284, 3) := by decide +kernel
theorem dX11_makespan_52 : decode cX11_makespan 52 = .ok (.ireturn, 1) := by decide +kernel
theorem dX11_lateness_0 : decode cX11_lateness 0 = .ok (.aload_n 0, 1) := by decide +kernel
theorem dX11_lateness_1 : decode cX11_lateness 1 = .ok (.iload_n 1, 1) := by decide +kernel
theorem dX11_lateness_2 : decode cX11_lateness 2 = .ok (.invokevirtual 127, 3) := by decide +kernel
theorem dX11_lateness_5 : decode cX11_lateness 5 = .ok (.aload_n 0, 1) := by decide +kernel
theorem dX11_lateness_6 : decode cX11_lateness 6 = .ok (.getfield 10, 3) := by decide +kernel
theorem dX11_lateness_9 : decode cX11_lateness 9 = .ok (.getfield 159, 3) := by decide +kernel
theorem dX11_lateness_12 : decode cX11_lateness 12 = .ok (.iload_n 1, 1) := by decide +kernel
theorem dX11_lateness_13 : decode cX11_lateness 13 = .ok (.invokevirtual 287, 3) := by decide +kernel
theorem dX11_lateness_16 : decode cX11_lateness 16 = .ok (.istore_n 2, 1) := by decide +kernel
theorem dX11_lateness_17 : decode cX11_lateness 17 = .ok (.iload_n 2, 1) := by decide +kernel
theorem dX11_lateness_18 : decode cX11_lateness 18 = .ok (.iconst (-1), 1) := by decide +kernel
theorem dX11_lateness_19 : decode cX11_lateness 19 = .ok (.if_icmp .ne 14, 3) := by decide +kernel
theorem dX11_lateness_22 : decode cX11_lateness 22 = .ok (.new 72, 3) := by decide +kernel
theorem dX11_lateness_25 : decode cX11_lateness 25 = .ok (.dup, 1) := by decide +kernel
theorem dX11_lateness_26 : decode cX11_lateness 26 = .ok (.ldc_w 290, 3) := by decide +kernel
theorem dX11_lateness_29 : decode cX11_lateness 29 = .ok (.invokespecial 76, 3) := by decide +kernel
theorem dX11_lateness_32 : decode cX11_lateness 32 = .ok (.athrow, 1) := by decide +kernel
theorem dX11_lateness_33 : decode cX11_lateness 33 = .ok (.aload_n 0, 1) := by decide +kernel
theorem dX11_lateness_34 : decode cX11_lateness 34 = .ok (.getfield 40, 3) := by decide +kernel
theorem dX11_lateness_37 : decode cX11_lateness 37 = .ok (.aload_n 0, 1) := by decide +kernel
theorem dX11_lateness_38 : decode cX11_lateness 38 = .ok (.getfield 10, 3) := by decide +kernel
theorem dX11_lateness_41 : decode cX11_lateness 41 = .ok (.invokevirtual 275, 3) := by decide +kernel
theorem dX11_lateness_44 : decode cX11_lateness 44 = .ok (.aload_n 0, 1) := by decide +kernel
theorem dX11_lateness_45 : decode cX11_lateness 45 = .ok (.getfield 40, 3) := by decide +kernel
theorem dX11_lateness_48 : decode cX11_lateness 48 = .ok (.aload_n 0, 1) := by decide +kernel
theorem dX11_lateness_49 : decode cX11_lateness 49 = .ok (.getfield 10, 3) := by decide +kernel
theorem dX11_lateness_52 : decode cX11_lateness 52 = .ok (.getfield 79, 3) := by decide +kernel
theorem dX11_lateness_55 : decode cX11_lateness 55 = .ok (.iload_n 2, 1) := by decide +kernel
theorem dX11_lateness_56 : decode cX11_lateness 56 = .ok (.invokevirtual 284, 3) := by decide +kernel
theorem dX11_lateness_59 : decode cX11_lateness 59 = .ok (.aload_n 0, 1) := by decide +kernel
theorem dX11_lateness_60 : decode cX11_lateness 60 = .ok (.getfield 10, 3) := by decide +kernel
theorem dX11_lateness_63 : decode cX11_lateness 63 = .ok (.getfield 118, 3) := by decide +kernel
theorem dX11_lateness_66 : decode cX11_lateness 66 = .ok (.getfield 147, 3) := by decide +kernel
theorem dX11_lateness_69 : decode cX11_lateness 69 = .ok (.iload_n 1, 1) := by decide +kernel
theorem dX11_lateness_70 : decode cX11_lateness 70 = .ok (.iaload, 1) := by decide +kernel
theorem dX11_lateness_71 : decode cX11_lateness 71 = .ok (.isub, 1) := by decide +kernel
theorem dX11_lateness_72 : decode cX11_lateness 72 = .ok (.ireturn, 1) := by decide +kernel
theorem dX11_lateOrders_0 : decode cX11_lateOrders 0 = .ok (.aload_n 0, 1) := by decide +kernel
theorem dX11_lateOrders_1 : decode cX11_lateOrders 1 = .ok (.getfield 40, 3) := by decide +kernel
theorem dX11_lateOrders_4 : decode cX11_lateOrders 4 = .ok (.aload_n 0, 1) := by decide +kernel
theorem dX11_lateOrders_5 : decode cX11_lateOrders 5 = .ok (.getfield 10, 3) := by decide +kernel
theorem dX11_lateOrders_8 : decode cX11_lateOrders 8 = .ok (.invokevirtual 275, 3) := by decide +kernel
theorem dX11_lateOrders_11 : decode cX11_lateOrders 11 = .ok (.iconst 0, 1) := by decide +kernel
theorem dX11_lateOrders_12 : decode cX11_lateOrders 12 = .ok (.istore_n 1, 1) := by decide +kernel
theorem dX11_lateOrders_13 : decode cX11_lateOrders 13 = .ok (.iconst 0, 1) := by decide +kernel
theorem dX11_lateOrders_14 : decode cX11_lateOrders 14 = .ok (.istore_n 2, 1) := by decide +kernel
theorem dX11_lateOrders_15 : decode cX11_lateOrders 15 = .ok (.iload_n 2, 1) := by decide +kernel
theorem dX11_lateOrders_16 : decode cX11_lateOrders 16 = .ok (.aload_n 0, 1) := by decide +kernel
theorem dX11_lateOrders_17 : decode cX11_lateOrders 17 = .ok (.getfield 10, 3) := by decide +kernel
theorem dX11_lateOrders_20 : decode cX11_lateOrders 20 = .ok (.getfield 159, 3) := by decide +kernel
theorem dX11_lateOrders_23 : decode cX11_lateOrders 23 = .ok (.getfield 168, 3) := by decide +kernel
theorem dX11_lateOrders_26 : decode cX11_lateOrders 26 = .ok (.if_icmp .ge 49, 3) := by decide +kernel
theorem dX11_lateOrders_29 : decode cX11_lateOrders 29 = .ok (.iload_n 1, 1) := by decide +kernel
theorem dX11_lateOrders_30 : decode cX11_lateOrders 30 = .ok (.aload_n 0, 1) := by decide +kernel
theorem dX11_lateOrders_31 : decode cX11_lateOrders 31 = .ok (.getfield 10, 3) := by decide +kernel
theorem dX11_lateOrders_34 : decode cX11_lateOrders 34 = .ok (.getfield 118, 3) := by decide +kernel
theorem dX11_lateOrders_37 : decode cX11_lateOrders 37 = .ok (.aload_n 0, 1) := by decide +kernel
theorem dX11_lateOrders_38 : decode cX11_lateOrders 38 = .ok (.getfield 10, 3) := by decide +kernel
theorem dX11_lateOrders_41 : decode cX11_lateOrders 41 = .ok (.getfield 159, 3) := by decide +kernel
theorem dX11_lateOrders_44 : decode cX11_lateOrders 44 = .ok (.getfield 195, 3) := by decide +kernel
theorem dX11_lateOrders_47 : decode cX11_lateOrders 47 = .ok (.iload_n 2, 1) := by decide +kernel
theorem dX11_lateOrders_48 : decode cX11_lateOrders 48 = .ok (.iaload, 1) := by decide +kernel
theorem dX11_lateOrders_49 : decode cX11_lateOrders 49 = .ok (.aload_n 0, 1) := by decide +kernel
theorem dX11_lateOrders_50 : decode cX11_lateOrders 50 = .ok (.getfield 40, 3) := by decide +kernel
theorem dX11_lateOrders_53 : decode cX11_lateOrders 53 = .ok (.aload_n 0, 1) := by decide +kernel
theorem dX11_lateOrders_54 : decode cX11_lateOrders 54 = .ok (.getfield 10, 3) := by decide +kernel
theorem dX11_lateOrders_57 : decode cX11_lateOrders 57 = .ok (.getfield 79, 3) := by decide +kernel
theorem dX11_lateOrders_60 : decode cX11_lateOrders 60 = .ok (.iload_n 2, 1) := by decide +kernel
theorem dX11_lateOrders_61 : decode cX11_lateOrders 61 = .ok (.invokevirtual 284, 3) := by decide +kernel
theorem dX11_lateOrders_64 : decode cX11_lateOrders 64 = .ok (.invokevirtual 292, 3) := by decide +kernel
theorem dX11_lateOrders_67 : decode cX11_lateOrders 67 = .ok (.ior, 1) := by decide +kernel
theorem dX11_lateOrders_68 : decode cX11_lateOrders 68 = .ok (.istore_n 1, 1) := by decide +kernel
theorem dX11_lateOrders_69 : decode cX11_lateOrders 69 = .ok (.iinc 2 1, 3) := by decide +kernel
theorem dX11_lateOrders_72 : decode cX11_lateOrders 72 = .ok (.goto (-57), 3) := by decide +kernel
theorem dX11_lateOrders_75 : decode cX11_lateOrders 75 = .ok (.iload_n 1, 1) := by decide +kernel
theorem dX11_lateOrders_76 : decode cX11_lateOrders 76 = .ok (.ireturn, 1) := by decide +kernel
theorem dX11_totalTardiness_0 : decode cX11_totalTardiness 0 = .ok (.aload_n 0, 1) := by decide +kernel
theorem dX11_totalTardiness_1 : decode cX11_totalTardiness 1 = .ok (.invokevirtual 216, 3) := by decide +kernel
theorem dX11_totalTardiness_4 : decode cX11_totalTardiness 4 = .ok (.ireturn, 1) := by decide +kernel
theorem dX11_meanTardinessNumerator_0 : decode cX11_meanTardinessNumerator 0 = .ok (.aload_n 0, 1) := by decide +kernel
theorem dX11_meanTardinessNumerator_1 : decode cX11_meanTardinessNumerator 1 = .ok (.invokevirtual 216, 3) := by decide +kernel
theorem dX11_meanTardinessNumerator_4 : decode cX11_meanTardinessNumerator 4 = .ok (.istore_n 1, 1) := by decide +kernel
theorem dX11_meanTardinessNumerator_5 : decode cX11_meanTardinessNumerator 5 = .ok (.iload_n 1, 1) := by decide +kernel
theorem dX11_meanTardinessNumerator_6 : decode cX11_meanTardinessNumerator 6 = .ok (.iload_n 1, 1) := by decide +kernel
theorem dX11_meanTardinessNumerator_7 : decode cX11_meanTardinessNumerator 7 = .ok (.aload_n 0, 1) := by decide +kernel
theorem dX11_meanTardinessNumerator_8 : decode cX11_meanTardinessNumerator 8 = .ok (.invokevirtual 296, 3) := by decide +kernel
theorem dX11_meanTardinessNumerator_11 : decode cX11_meanTardinessNumerator 11 = .ok (.invokestatic 299, 3) := by decide +kernel
theorem dX11_meanTardinessNumerator_14 : decode cX11_meanTardinessNumerator 14 = .ok (.idiv, 1) := by decide +kernel
theorem dX11_meanTardinessNumerator_15 : decode cX11_meanTardinessNumerator 15 = .ok (.ireturn, 1) := by decide +kernel
theorem dX11_meanTardinessDenominator_0 : decode cX11_meanTardinessDenominator 0 = .ok (.aload_n 0, 1) := by decide +kernel
theorem dX11_meanTardinessDenominator_1 : decode cX11_meanTardinessDenominator 1 = .ok (.invokevirtual 296, 3) := by decide +kernel
theorem dX11_meanTardinessDenominator_4 : decode cX11_meanTardinessDenominator 4 = .ok (.aload_n 0, 1) := by decide +kernel
theorem dX11_meanTardinessDenominator_5 : decode cX11_meanTardinessDenominator 5 = .ok (.invokevirtual 216, 3) := by decide +kernel
theorem dX11_meanTardinessDenominator_8 : decode cX11_meanTardinessDenominator 8 = .ok (.aload_n 0, 1) := by decide +kernel
theorem dX11_meanTardinessDenominator_9 : decode cX11_meanTardinessDenominator 9 = .ok (.invokevirtual 296, 3) := by decide +kernel
theorem dX11_meanTardinessDenominator_12 : decode cX11_meanTardinessDenominator 12 = .ok (.invokestatic 299, 3) := by decide +kernel
theorem dX11_meanTardinessDenominator_15 : decode cX11_meanTardinessDenominator 15 = .ok (.idiv, 1) := by decide +kernel
theorem dX11_meanTardinessDenominator_16 : decode cX11_meanTardinessDenominator 16 = .ok (.ireturn, 1) := by decide +kernel
theorem dX11_pickBatch_0 : decode cX11_pickBatch 0 = .ok (.aload_n 0, 1) := by decide +kernel
theorem dX11_pickBatch_1 : decode cX11_pickBatch 1 = .ok (.getfield 10, 3) := by decide +kernel
theorem dX11_pickBatch_4 : decode cX11_pickBatch 4 = .ok (.getfield 159, 3) := by decide +kernel
theorem dX11_pickBatch_7 : decode cX11_pickBatch 7 = .ok (.getfield 168, 3) := by decide +kernel
theorem dX11_pickBatch_10 : decode cX11_pickBatch 10 = .ok (.ifCond .ne 14, 3) := by decide +kernel
theorem dX11_pickBatch_13 : decode cX11_pickBatch 13 = .ok (.new 72, 3) := by decide +kernel
theorem dX11_pickBatch_16 : decode cX11_pickBatch 16 = .ok (.dup, 1) := by decide +kernel
theorem dX11_pickBatch_17 : decode cX11_pickBatch 17 = .ok (.ldc_w 302, 3) := by decide +kernel
theorem dX11_pickBatch_20 : decode cX11_pickBatch 20 = .ok (.invokespecial 76, 3) := by decide +kernel
theorem dX11_pickBatch_23 : decode cX11_pickBatch 23 = .ok (.athrow, 1) := by decide +kernel
theorem dX11_pickBatch_24 : decode cX11_pickBatch 24 = .ok (.aload_n 0, 1) := by decide +kernel
theorem dX11_pickBatch_25 : decode cX11_pickBatch 25 = .ok (.getfield 10, 3) := by decide +kernel
theorem dX11_pickBatch_28 : decode cX11_pickBatch 28 = .ok (.invokevirtual 304, 3) := by decide +kernel
theorem dX11_pickBatch_31 : decode cX11_pickBatch 31 = .ok (.ireturn, 1) := by decide +kernel
theorem dX11_pickedUnits_0 : decode cX11_pickedUnits 0 = .ok (.aload_n 0, 1) := by decide +kernel
theorem dX11_pickedUnits_1 : decode cX11_pickedUnits 1 = .ok (.iload_n 1, 1) := by decide +kernel
theorem dX11_pickedUnits_2 : decode cX11_pickedUnits 2 = .ok (.iload_n 2, 1) := by decide +kernel
theorem dX11_pickedUnits_3 : decode cX11_pickedUnits 3 = .ok (.invokevirtual 307, 3) := by decide +kernel
theorem dX11_pickedUnits_6 : decode cX11_pickedUnits 6 = .ok (.aload_n 0, 1) := by decide +kernel
theorem dX11_pickedUnits_7 : decode cX11_pickedUnits 7 = .ok (.getfield 10, 3) := by decide +kernel
theorem dX11_pickedUnits_10 : decode cX11_pickedUnits 10 = .ok (.getfield 118, 3) := by decide +kernel
theorem dX11_pickedUnits_13 : decode cX11_pickedUnits 13 = .ok (.iload_n 1, 1) := by decide +kernel
theorem dX11_pickedUnits_14 : decode cX11_pickedUnits 14 = .ok (.iload_n 2, 1) := by decide +kernel
theorem dX11_pickedUnits_15 : decode cX11_pickedUnits 15 = .ok (.invokevirtual 310, 3) := by decide +kernel
theorem dX11_pickedUnits_18 : decode cX11_pickedUnits 18 = .ok (.ireturn, 1) := by decide +kernel
theorem dX11_shortUnits_0 : decode cX11_shortUnits 0 = .ok (.aload_n 0, 1) := by decide +kernel
theorem dX11_shortUnits_1 : decode cX11_shortUnits 1 = .ok (.iload_n 1, 1) := by decide +kernel
theorem dX11_shortUnits_2 : decode cX11_shortUnits 2 = .ok (.iload_n 2, 1) := by decide +kernel
theorem dX11_shortUnits_3 : decode cX11_shortUnits 3 = .ok (.invokevirtual 307, 3) := by decide +kernel
theorem dX11_shortUnits_6 : decode cX11_shortUnits 6 = .ok (.aload_n 0, 1) := by decide +kernel
theorem dX11_shortUnits_7 : decode cX11_shortUnits 7 = .ok (.getfield 10, 3) := by decide +kernel
theorem dX11_shortUnits_10 : decode cX11_shortUnits 10 = .ok (.getfield 118, 3) := by decide +kernel
theorem dX11_shortUnits_13 : decode cX11_shortUnits 13 = .ok (.iload_n 1, 1) := by decide +kernel
theorem dX11_shortUnits_14 : decode cX11_shortUnits 14 = .ok (.iload_n 2, 1) := by decide +kernel
theorem dX11_shortUnits_15 : decode cX11_shortUnits 15 = .ok (.invokevirtual 313, 3) := by decide +kernel
theorem dX11_shortUnits_18 : decode cX11_shortUnits 18 = .ok (.ireturn, 1) := by decide +kernel
theorem dX11_totalOrdered_0 : decode cX11_totalOrdered 0 = .ok (.aload_n 0, 1) := by decide +kernel
theorem dX11_totalOrdered_1 : decode cX11_totalOrdered 1 = .ok (.getfield 10, 3) := by decide +kernel
theorem dX11_totalOrdered_4 : decode cX11_totalOrdered 4 = .ok (.getfield 118, 3) := by decide +kernel
theorem dX11_totalOrdered_7 : decode cX11_totalOrdered 7 = .ok (.invokevirtual 316, 3) := by decide +kernel
theorem dX11_totalOrdered_10 : decode cX11_totalOrdered 10 = .ok (.aload_n 0, 1) := by decide +kernel
theorem dX11_totalOrdered_11 : decode cX11_totalOrdered 11 = .ok (.getfield 10, 3) := by decide +kernel
theorem dX11_totalOrdered_14 : decode cX11_totalOrdered 14 = .ok (.getfield 118, 3) := by decide +kernel
theorem dX11_totalOrdered_17 : decode cX11_totalOrdered 17 = .ok (.invokevirtual 319, 3) := by decide +kernel
theorem dX11_totalOrdered_20 : decode cX11_totalOrdered 20 = .ok (.iadd, 1) := by decide +kernel
theorem dX11_totalOrdered_21 : decode cX11_totalOrdered 21 = .ok (.ireturn, 1) := by decide +kernel
theorem dX11_totalPicked_0 : decode cX11_totalPicked 0 = .ok (.aload_n 0, 1) := by decide +kernel
theorem dX11_totalPicked_1 : decode cX11_totalPicked 1 = .ok (.getfield 10, 3) := by decide +kernel
theorem dX11_totalPicked_4 : decode cX11_totalPicked 4 = .ok (.getfield 118, 3) := by decide +kernel
theorem dX11_totalPicked_7 : decode cX11_totalPicked 7 = .ok (.invokevirtual 316, 3) := by decide +kernel
theorem dX11_totalPicked_10 : decode cX11_totalPicked 10 = .ok (.ireturn, 1) := by decide +kernel
theorem dX11_reorder_0 : decode cX11_reorder 0 = .ok (.aload_n 0, 1) := by decide +kernel
theorem dX11_reorder_1 : decode cX11_reorder 1 = .ok (.iload_n 1, 1) := by decide +kernel
theorem dX11_reorder_2 : decode cX11_reorder 2 = .ok (.invokevirtual 127, 3) := by decide +kernel
theorem dX11_reorder_5 : decode cX11_reorder 5 = .ok (.iload_n 2, 1) := by decide +kernel
theorem dX11_reorder_6 : decode cX11_reorder 6 = .ok (.iconst 0, 1) := by decide +kernel
theorem dX11_reorder_7 : decode cX11_reorder 7 = .ok (.sipush 9999, 3) := by decide +kernel
theorem dX11_reorder_10 : decode cX11_reorder 10 = .ok (.invokestatic 58, 3) := by decide +kernel
theorem dX11_reorder_13 : decode cX11_reorder 13 = .ok (.aload_n 0, 1) := by decide +kernel
theorem dX11_reorder_14 : decode cX11_reorder 14 = .ok (.getfield 10, 3) := by decide +kernel
theorem dX11_reorder_17 : decode cX11_reorder 17 = .ok (.getfield 118, 3) := by decide +kernel
theorem dX11_reorder_20 : decode cX11_reorder 20 = .ok (.iload_n 1, 1) := by decide +kernel
theorem dX11_reorder_21 : decode cX11_reorder 21 = .ok (.invokevirtual 322, 3) := by decide +kernel
theorem dX11_reorder_24 : decode cX11_reorder 24 = .ok (.ifCond .ne 14, 3) := by decide +kernel
theorem dX11_reorder_27 : decode cX11_reorder 27 = .ok (.new 72, 3) := by decide +kernel
theorem dX11_reorder_30 : decode cX11_reorder 30 = .ok (.dup, 1) := by decide +kernel
theorem dX11_reorder_31 : decode cX11_reorder 31 = .ok (.ldc_w 325, 3) := by decide +kernel
theorem dX11_reorder_34 : decode cX11_reorder 34 = .ok (.invokespecial 76, 3) := by decide +kernel
theorem dX11_reorder_37 : decode cX11_reorder 37 = .ok (.athrow, 1) := by decide +kernel
theorem dX11_reorder_38 : decode cX11_reorder 38 = .ok (.aload_n 0, 1) := by decide +kernel
theorem dX11_reorder_39 : decode cX11_reorder 39 = .ok (.invokevirtual 115, 3) := by decide +kernel
theorem dX11_reorder_42 : decode cX11_reorder 42 = .ok (.aload_n 0, 1) := by decide +kernel
theorem dX11_reorder_43 : decode cX11_reorder 43 = .ok (.getfield 10, 3) := by decide +kernel
theorem dX11_reorder_46 : decode cX11_reorder 46 = .ok (.getfield 118, 3) := by decide +kernel
theorem dX11_reorder_49 : decode cX11_reorder 49 = .ok (.iload_n 1, 1) := by decide +kernel
theorem dX11_reorder_50 : decode cX11_reorder 50 = .ok (.iload_n 2, 1) := by decide +kernel
theorem dX11_reorder_51 : decode cX11_reorder 51 = .ok (.invokevirtual 327, 3) := by decide +kernel
theorem dX11_reorder_54 : decode cX11_reorder 54 = .ok (.ireturn, 1) := by decide +kernel
theorem dX11_appendText_0 : decode cX11_appendText 0 = .ok (.aload_n 0, 1) := by decide +kernel
theorem dX11_appendText_1 : decode cX11_appendText 1 = .ok (.getfield 26, 3) := by decide +kernel
theorem dX11_appendText_4 : decode cX11_appendText 4 = .ok (.getfield 330, 3) := by decide +kernel
theorem dX11_appendText_7 : decode cX11_appendText 7 = .ok (.iconst 4, 1) := by decide +kernel
theorem dX11_appendText_8 : decode cX11_appendText 8 = .ok (.iadd, 1) := by decide +kernel
theorem dX11_appendText_9 : decode cX11_appendText 9 = .ok (.sipush 600, 3) := by decide +kernel
theorem dX11_appendText_12 : decode cX11_appendText 12 = .ok (.if_icmp .le 14, 3) := by decide +kernel
theorem dX11_appendText_15 : decode cX11_appendText 15 = .ok (.new 72, 3) := by decide +kernel
theorem dX11_appendText_18 : decode cX11_appendText 18 = .ok (.dup, 1) := by decide +kernel
theorem dX11_appendText_19 : decode cX11_appendText 19 = .ok (.ldc_w 333, 3) := by decide +kernel
theorem dX11_appendText_22 : decode cX11_appendText 22 = .ok (.invokespecial 76, 3) := by decide +kernel
theorem dX11_appendText_25 : decode cX11_appendText 25 = .ok (.athrow, 1) := by decide +kernel
theorem dX11_appendText_26 : decode cX11_appendText 26 = .ok (.bipush 24, 2) := by decide +kernel
theorem dX11_appendText_28 : decode cX11_appendText 28 = .ok (.istore_n 2, 1) := by decide +kernel
theorem dX11_appendText_29 : decode cX11_appendText 29 = .ok (.iload_n 2, 1) := by decide +kernel
theorem dX11_appendText_30 : decode cX11_appendText 30 = .ok (.ifCond .lt 20, 3) := by decide +kernel
theorem dX11_appendText_33 : decode cX11_appendText 33 = .ok (.aload_n 0, 1) := by decide +kernel
theorem dX11_appendText_34 : decode cX11_appendText 34 = .ok (.getfield 26, 3) := by decide +kernel
theorem dX11_appendText_37 : decode cX11_appendText 37 = .ok (.iload_n 1, 1) := by decide +kernel
theorem dX11_appendText_38 : decode cX11_appendText 38 = .ok (.iload_n 2, 1) := by decide +kernel
theorem dX11_appendText_39 : decode cX11_appendText 39 = .ok (.ishr, 1) := by decide +kernel
theorem dX11_appendText_40 : decode cX11_appendText 40 = .ok (.i2b, 1) := by decide +kernel
theorem dX11_appendText_41 : decode cX11_appendText 41 = .ok (.invokevirtual 335, 3) := by decide +kernel
theorem dX11_appendText_44 : decode cX11_appendText 44 = .ok (.iinc 2 (-8), 3) := by decide +kernel
theorem dX11_appendText_47 : decode cX11_appendText 47 = .ok (.goto (-18), 3) := by decide +kernel
theorem dX11_appendText_50 : decode cX11_appendText 50 = .ok (.aload_n 0, 1) := by decide +kernel
theorem dX11_appendText_51 : decode cX11_appendText 51 = .ok (.getfield 26, 3) := by decide +kernel
theorem dX11_appendText_54 : decode cX11_appendText 54 = .ok (.getfield 330, 3) := by decide +kernel
theorem dX11_appendText_57 : decode cX11_appendText 57 = .ok (.ireturn, 1) := by decide +kernel
theorem dX11_truncateText_0 : decode cX11_truncateText 0 = .ok (.iload_n 1, 1) := by decide +kernel
theorem dX11_truncateText_1 : decode cX11_truncateText 1 = .ok (.iconst 0, 1) := by decide +kernel
theorem dX11_truncateText_2 : decode cX11_truncateText 2 = .ok (.aload_n 0, 1) := by decide +kernel
theorem dX11_truncateText_3 : decode cX11_truncateText 3 = .ok (.getfield 26, 3) := by decide +kernel
theorem dX11_truncateText_6 : decode cX11_truncateText 6 = .ok (.getfield 330, 3) := by decide +kernel
theorem dX11_truncateText_9 : decode cX11_truncateText 9 = .ok (.invokestatic 58, 3) := by decide +kernel
theorem dX11_truncateText_12 : decode cX11_truncateText 12 = .ok (.aload_n 0, 1) := by decide +kernel
theorem dX11_truncateText_13 : decode cX11_truncateText 13 = .ok (.getfield 26, 3) := by decide +kernel
theorem dX11_truncateText_16 : decode cX11_truncateText 16 = .ok (.iload_n 1, 1) := by decide +kernel
theorem dX11_truncateText_17 : decode cX11_truncateText 17 = .ok (.putfield 330, 3) := by decide +kernel
theorem dX11_truncateText_20 : decode cX11_truncateText 20 = .ok (.iload_n 1, 1) := by decide +kernel
theorem dX11_truncateText_21 : decode cX11_truncateText 21 = .ok (.ireturn, 1) := by decide +kernel
theorem dX11_load_0 : decode cX11_load 0 = .ok (.aload_n 0, 1) := by decide +kernel
theorem dX11_load_1 : decode cX11_load 1 = .ok (.getfield 26, 3) := by decide +kernel
theorem dX11_load_4 : decode cX11_load 4 = .ok (.aload_n 0, 1) := by decide +kernel
theorem dX11_load_5 : decode cX11_load 5 = .ok (.getfield 16, 3) := by decide +kernel
theorem dX11_load_8 : decode cX11_load 8 = .ok (.invokevirtual 338, 3) := by decide +kernel
theorem dX11_load_11 : decode cX11_load 11 = .ok (.istore_n 1, 1) := by decide +kernel
theorem dX11_load_12 : decode cX11_load 12 = .ok (.aload_n 0, 1) := by decide +kernel
theorem dX11_load_13 : decode cX11_load 13 = .ok (.getfield 26, 3) := by decide +kernel
theorem dX11_load_16 : decode cX11_load 16 = .ok (.iconst 0, 1) := by decide +kernel
theorem dX11_load_17 : decode cX11_load 17 = .ok (.putfield 330, 3) := by decide +kernel
theorem dX11_load_20 : decode cX11_load 20 = .ok (.iload_n 1, 1) := by decide +kernel
theorem dX11_load_21 : decode cX11_load 21 = .ok (.ifCond .ne 5, 3) := by decide +kernel
theorem dX11_load_24 : decode cX11_load 24 = .ok (.iconst (-1), 1) := by decide +kernel
theorem dX11_load_25 : decode cX11_load 25 = .ok (.ireturn, 1) := by decide +kernel
theorem dX11_load_26 : decode cX11_load 26 = .ok (.aload_n 0, 1) := by decide +kernel
theorem dX11_load_27 : decode cX11_load 27 = .ok (.getfield 10, 3) := by decide +kernel
theorem dX11_load_30 : decode cX11_load 30 = .ok (.aload_n 0, 1) := by decide +kernel
theorem dX11_load_31 : decode cX11_load 31 = .ok (.getfield 16, 3) := by decide +kernel
theorem dX11_load_34 : decode cX11_load 34 = .ok (.invokevirtual 342, 3) := by decide +kernel
theorem dX11_load_37 : decode cX11_load 37 = .ok (.aload_n 0, 1) := by decide +kernel
theorem dX11_load_38 : decode cX11_load 38 = .ok (.getfield 10, 3) := by decide +kernel
theorem dX11_load_41 : decode cX11_load 41 = .ok (.getfield 118, 3) := by decide +kernel
theorem dX11_load_44 : decode cX11_load 44 = .ok (.getfield 146, 3) := by decide +kernel
theorem dX11_load_47 : decode cX11_load 47 = .ok (.ireturn, 1) := by decide +kernel
theorem dX11_errorCode_0 : decode cX11_errorCode 0 = .ok (.aload_n 0, 1) := by decide +kernel
theorem dX11_errorCode_1 : decode cX11_errorCode 1 = .ok (.getfield 26, 3) := by decide +kernel
theorem dX11_errorCode_4 : decode cX11_errorCode 4 = .ok (.getfield 345, 3) := by decide +kernel
theorem dX11_errorCode_7 : decode cX11_errorCode 7 = .ok (.ireturn, 1) := by decide +kernel
theorem dX11_errorPosition_0 : decode cX11_errorPosition 0 = .ok (.aload_n 0, 1) := by decide +kernel
theorem dX11_errorPosition_1 : decode cX11_errorPosition 1 = .ok (.getfield 26, 3) := by decide +kernel
theorem dX11_errorPosition_4 : decode cX11_errorPosition 4 = .ok (.getfield 348, 3) := by decide +kernel
theorem dX11_errorPosition_7 : decode cX11_errorPosition 7 = .ok (.ireturn, 1) := by decide +kernel
theorem dX11_save_0 : decode cX11_save 0 = .ok (.iload_n 1, 1) := by decide +kernel
theorem dX11_save_1 : decode cX11_save 1 = .ok (.iconst 0, 1) := by decide +kernel
theorem dX11_save_2 : decode cX11_save 2 = .ok (.iconst 1, 1) := by decide +kernel
theorem dX11_save_3 : decode cX11_save 3 = .ok (.invokestatic 58, 3) := by decide +kernel
theorem dX11_save_6 : decode cX11_save 6 = .ok (.aload_n 0, 1) := by decide +kernel
theorem dX11_save_7 : decode cX11_save 7 = .ok (.getfield 19, 3) := by decide +kernel
theorem dX11_save_10 : decode cX11_save 10 = .ok (.iload_n 1, 1) := by decide +kernel
theorem dX11_save_11 : decode cX11_save 11 = .ok (.aaload, 1) := by decide +kernel
theorem dX11_save_12 : decode cX11_save 12 = .ok (.astore_n 2, 1) := by decide +kernel
theorem dX11_save_13 : decode cX11_save 13 = .ok (.aload_n 2, 1) := by decide +kernel
theorem dX11_save_14 : decode cX11_save 14 = .ok (.ifnonnull 18, 3) := by decide +kernel
theorem dX11_save_17 : decode cX11_save 17 = .ok (.new 7, 3) := by decide +kernel
theorem dX11_save_20 : decode cX11_save 20 = .ok (.dup, 1) := by decide +kernel
theorem dX11_save_21 : decode cX11_save 21 = .ok (.invokespecial 9, 3) := by decide +kernel
theorem dX11_save_24 : decode cX11_save 24 = .ok (.astore_n 2, 1) := by decide +kernel
theorem dX11_save_25 : decode cX11_save 25 = .ok (.aload_n 0, 1) := by decide +kernel
theorem dX11_save_26 : decode cX11_save 26 = .ok (.getfield 19, 3) := by decide +kernel
theorem dX11_save_29 : decode cX11_save 29 = .ok (.iload_n 1, 1) := by decide +kernel
theorem dX11_save_30 : decode cX11_save 30 = .ok (.aload_n 2, 1) := by decide +kernel
theorem dX11_save_31 : decode cX11_save 31 = .ok (.aastore, 1) := by decide +kernel
theorem dX11_save_32 : decode cX11_save 32 = .ok (.aload_n 2, 1) := by decide +kernel
theorem dX11_save_33 : decode cX11_save 33 = .ok (.aload_n 0, 1) := by decide +kernel
theorem dX11_save_34 : decode cX11_save 34 = .ok (.getfield 10, 3) := by decide +kernel
theorem dX11_save_37 : decode cX11_save 37 = .ok (.invokevirtual 342, 3) := by decide +kernel
theorem dX11_save_40 : decode cX11_save 40 = .ok (.return_, 1) := by decide +kernel
theorem dX11_restore_0 : decode cX11_restore 0 = .ok (.iload_n 1, 1) := by decide +kernel
theorem dX11_restore_1 : decode cX11_restore 1 = .ok (.iconst 0, 1) := by decide +kernel
theorem dX11_restore_2 : decode cX11_restore 2 = .ok (.iconst 1, 1) := by decide +kernel
theorem dX11_restore_3 : decode cX11_restore 3 = .ok (.invokestatic 58, 3) := by decide +kernel
theorem dX11_restore_6 : decode cX11_restore 6 = .ok (.aload_n 0, 1) := by decide +kernel
theorem dX11_restore_7 : decode cX11_restore 7 = .ok (.getfield 19, 3) := by decide +kernel
theorem dX11_restore_10 : decode cX11_restore 10 = .ok (.iload_n 1, 1) := by decide +kernel
theorem dX11_restore_11 : decode cX11_restore 11 = .ok (.aaload, 1) := by decide +kernel
theorem dX11_restore_12 : decode cX11_restore 12 = .ok (.astore_n 2, 1) := by decide +kernel
theorem dX11_restore_13 : decode cX11_restore 13 = .ok (.aload_n 2, 1) := by decide +kernel
theorem dX11_restore_14 : decode cX11_restore 14 = .ok (.ifnonnull 14, 3) := by decide +kernel
theorem dX11_restore_17 : decode cX11_restore 17 = .ok (.new 72, 3) := by decide +kernel
theorem dX11_restore_20 : decode cX11_restore 20 = .ok (.dup, 1) := by decide +kernel
theorem dX11_restore_21 : decode cX11_restore 21 = .ok (.ldc_w 351, 3) := by decide +kernel
theorem dX11_restore_24 : decode cX11_restore 24 = .ok (.invokespecial 76, 3) := by decide +kernel
theorem dX11_restore_27 : decode cX11_restore 27 = .ok (.athrow, 1) := by decide +kernel
theorem dX11_restore_28 : decode cX11_restore 28 = .ok (.aload_n 0, 1) := by decide +kernel
theorem dX11_restore_29 : decode cX11_restore 29 = .ok (.getfield 10, 3) := by decide +kernel
theorem dX11_restore_32 : decode cX11_restore 32 = .ok (.aload_n 2, 1) := by decide +kernel
theorem dX11_restore_33 : decode cX11_restore 33 = .ok (.invokevirtual 342, 3) := by decide +kernel
theorem dX11_restore_36 : decode cX11_restore 36 = .ok (.return_, 1) := by decide +kernel
theorem dX11_needArgument_0 : decode cX11_needArgument 0 = .ok (.iload_n 0, 1) := by decide +kernel
theorem dX11_needArgument_1 : decode cX11_needArgument 1 = .ok (.iload_n 1, 1) := by decide +kernel
theorem dX11_needArgument_2 : decode cX11_needArgument 2 = .ok (.if_icmp .lt 8, 3) := by decide +kernel
theorem dX11_needArgument_5 : decode cX11_needArgument 5 = .ok (.iload_n 0, 1) := by decide +kernel
theorem dX11_needArgument_6 : decode cX11_needArgument 6 = .ok (.iload_n 2, 1) := by decide +kernel
theorem dX11_needArgument_7 : decode cX11_needArgument 7 = .ok (.if_icmp .le 14, 3) := by decide +kernel
theorem dX11_needArgument_10 : decode cX11_needArgument 10 = .ok (.new 178, 3) := by decide +kernel
theorem dX11_needArgument_13 : decode cX11_needArgument 13 = .ok (.dup, 1) := by decide +kernel
theorem dX11_needArgument_14 : decode cX11_needArgument 14 = .ok (.ldc_w 353, 3) := by decide +kernel
theorem dX11_needArgument_17 : decode cX11_needArgument 17 = .ok (.invokespecial 182, 3) := by decide +kernel
theorem dX11_needArgument_20 : decode cX11_needArgument 20 = .ok (.athrow, 1) := by decide +kernel
theorem dX11_needArgument_21 : decode cX11_needArgument 21 = .ok (.return_, 1) := by decide +kernel
theorem dX11_needIndex_0 : decode cX11_needIndex 0 = .ok (.iload_n 0, 1) := by decide +kernel
theorem dX11_needIndex_1 : decode cX11_needIndex 1 = .ok (.ifCond .lt 8, 3) := by decide +kernel
theorem dX11_needIndex_4 : decode cX11_needIndex 4 = .ok (.iload_n 0, 1) := by decide +kernel
theorem dX11_needIndex_5 : decode cX11_needIndex 5 = .ok (.iload_n 1, 1) := by decide +kernel
theorem dX11_needIndex_6 : decode cX11_needIndex 6 = .ok (.if_icmp .lt 14, 3) := by decide +kernel
theorem dX11_needIndex_9 : decode cX11_needIndex 9 = .ok (.new 355, 3) := by decide +kernel
theorem dX11_needIndex_12 : decode cX11_needIndex 12 = .ok (.dup, 1) := by decide +kernel
theorem dX11_needIndex_13 : decode cX11_needIndex 13 = .ok (.ldc_w 357, 3) := by decide +kernel
theorem dX11_needIndex_16 : decode cX11_needIndex 16 = .ok (.invokespecial 359, 3) := by decide +kernel
theorem dX11_needIndex_19 : decode cX11_needIndex 19 = .ok (.athrow, 1) := by decide +kernel
theorem dX11_needIndex_20 : decode cX11_needIndex 20 = .ok (.return_, 1) := by decide +kernel
theorem dX11_needAisle_0 : decode cX11_needAisle 0 = .ok (.iload_n 1, 1) := by decide +kernel
theorem dX11_needAisle_1 : decode cX11_needAisle 1 = .ok (.aload_n 0, 1) := by decide +kernel
theorem dX11_needAisle_2 : decode cX11_needAisle 2 = .ok (.getfield 10, 3) := by decide +kernel
theorem dX11_needAisle_5 : decode cX11_needAisle 5 = .ok (.getfield 79, 3) := by decide +kernel
theorem dX11_needAisle_8 : decode cX11_needAisle 8 = .ok (.getfield 88, 3) := by decide +kernel
theorem dX11_needAisle_11 : decode cX11_needAisle 11 = .ok (.invokestatic 98, 3) := by decide +kernel
theorem dX11_needAisle_14 : decode cX11_needAisle 14 = .ok (.return_, 1) := by decide +kernel
theorem dX11_needZone_0 : decode cX11_needZone 0 = .ok (.iload_n 1, 1) := by decide +kernel
theorem dX11_needZone_1 : decode cX11_needZone 1 = .ok (.aload_n 0, 1) := by decide +kernel
theorem dX11_needZone_2 : decode cX11_needZone 2 = .ok (.getfield 10, 3) := by decide +kernel
theorem dX11_needZone_5 : decode cX11_needZone 5 = .ok (.getfield 79, 3) := by decide +kernel
theorem dX11_needZone_8 : decode cX11_needZone 8 = .ok (.getfield 226, 3) := by decide +kernel
theorem dX11_needZone_11 : decode cX11_needZone 11 = .ok (.invokestatic 98, 3) := by decide +kernel
theorem dX11_needZone_14 : decode cX11_needZone 14 = .ok (.return_, 1) := by decide +kernel
theorem dX11_needItem_0 : decode cX11_needItem 0 = .ok (.iload_n 1, 1) := by decide +kernel
theorem dX11_needItem_1 : decode cX11_needItem 1 = .ok (.aload_n 0, 1) := by decide +kernel
theorem dX11_needItem_2 : decode cX11_needItem 2 = .ok (.getfield 10, 3) := by decide +kernel
theorem dX11_needItem_5 : decode cX11_needItem 5 = .ok (.getfield 62, 3) := by decide +kernel
theorem dX11_needItem_8 : decode cX11_needItem 8 = .ok (.getfield 66, 3) := by decide +kernel
theorem dX11_needItem_11 : decode cX11_needItem 11 = .ok (.invokestatic 98, 3) := by decide +kernel
theorem dX11_needItem_14 : decode cX11_needItem 14 = .ok (.return_, 1) := by decide +kernel
theorem dX11_needOrder_0 : decode cX11_needOrder 0 = .ok (.iload_n 1, 1) := by decide +kernel
theorem dX11_needOrder_1 : decode cX11_needOrder 1 = .ok (.aload_n 0, 1) := by decide +kernel
theorem dX11_needOrder_2 : decode cX11_needOrder 2 = .ok (.getfield 10, 3) := by decide +kernel
theorem dX11_needOrder_5 : decode cX11_needOrder 5 = .ok (.getfield 118, 3) := by decide +kernel
theorem dX11_needOrder_8 : decode cX11_needOrder 8 = .ok (.getfield 146, 3) := by decide +kernel
theorem dX11_needOrder_11 : decode cX11_needOrder 11 = .ok (.invokestatic 98, 3) := by decide +kernel
theorem dX11_needOrder_14 : decode cX11_needOrder 14 = .ok (.return_, 1) := by decide +kernel
theorem dX11_needLine_0 : decode cX11_needLine 0 = .ok (.aload_n 0, 1) := by decide +kernel
theorem dX11_needLine_1 : decode cX11_needLine 1 = .ok (.iload_n 1, 1) := by decide +kernel
theorem dX11_needLine_2 : decode cX11_needLine 2 = .ok (.invokevirtual 127, 3) := by decide +kernel
theorem dX11_needLine_5 : decode cX11_needLine 5 = .ok (.iload_n 2, 1) := by decide +kernel
theorem dX11_needLine_6 : decode cX11_needLine 6 = .ok (.aload_n 0, 1) := by decide +kernel
theorem dX11_needLine_7 : decode cX11_needLine 7 = .ok (.getfield 10, 3) := by decide +kernel
theorem dX11_needLine_10 : decode cX11_needLine 10 = .ok (.getfield 118, 3) := by decide +kernel
theorem dX11_needLine_13 : decode cX11_needLine 13 = .ok (.getfield 133, 3) := by decide +kernel
theorem dX11_needLine_16 : decode cX11_needLine 16 = .ok (.iload_n 1, 1) := by decide +kernel
theorem dX11_needLine_17 : decode cX11_needLine 17 = .ok (.iaload, 1) := by decide +kernel
theorem dX11_needLine_18 : decode cX11_needLine 18 = .ok (.invokestatic 98, 3) := by decide +kernel
theorem dX11_needLine_21 : decode cX11_needLine 21 = .ok (.return_, 1) := by decide +kernel
theorem dX11_needBatch_0 : decode cX11_needBatch 0 = .ok (.iload_n 1, 1) := by decide +kernel
theorem dX11_needBatch_1 : decode cX11_needBatch 1 = .ok (.aload_n 0, 1) := by decide +kernel
theorem dX11_needBatch_2 : decode cX11_needBatch 2 = .ok (.getfield 10, 3) := by decide +kernel
theorem dX11_needBatch_5 : decode cX11_needBatch 5 = .ok (.getfield 159, 3) := by decide +kernel
theorem dX11_needBatch_8 : decode cX11_needBatch 8 = .ok (.getfield 168, 3) := by decide +kernel
theorem dX11_needBatch_11 : decode cX11_needBatch 11 = .ok (.invokestatic 98, 3) := by decide +kernel
theorem dX11_needBatch_14 : decode cX11_needBatch 14 = .ok (.return_, 1) := by decide +kernel
theorem dX11_needBatchLimits_0 : decode cX11_needBatchLimits 0 = .ok (.iload_n 0, 1) := by decide +kernel
theorem dX11_needBatchLimits_1 : decode cX11_needBatchLimits 1 = .ok (.iconst 1, 1) := by decide +kernel
theorem dX11_needBatchLimits_2 : decode cX11_needBatchLimits 2 = .ok (.bipush 6, 2) := by decide +kernel
theorem dX11_needBatchLimits_4 : decode cX11_needBatchLimits 4 = .ok (.invokestatic 58, 3) := by decide +kernel
theorem dX11_needBatchLimits_7 : decode cX11_needBatchLimits 7 = .ok (.iload_n 1, 1) := by decide +kernel
theorem dX11_needBatchLimits_8 : decode cX11_needBatchLimits 8 = .ok (.iconst 1, 1) := by decide +kernel
theorem dX11_needBatchLimits_9 : decode cX11_needBatchLimits 9 = .ok (.ldc_w 360, 3) := by decide +kernel
theorem dX11_needBatchLimits_12 : decode cX11_needBatchLimits 12 = .ok (.invokestatic 58, 3) := by decide +kernel
theorem dX11_needBatchLimits_15 : decode cX11_needBatchLimits 15 = .ok (.return_, 1) := by decide +kernel
theorem dX11_needUnfinished_0 : decode cX11_needUnfinished 0 = .ok (.aload_n 0, 1) := by decide +kernel
theorem dX11_needUnfinished_1 : decode cX11_needUnfinished 1 = .ok (.getfield 10, 3) := by decide +kernel
theorem dX11_needUnfinished_4 : decode cX11_needUnfinished 4 = .ok (.getfield 118, 3) := by decide +kernel
theorem dX11_needUnfinished_7 : decode cX11_needUnfinished 7 = .ok (.getfield 130, 3) := by decide +kernel
theorem dX11_needUnfinished_10 : decode cX11_needUnfinished 10 = .ok (.iload_n 1, 1) := by decide +kernel
theorem dX11_needUnfinished_11 : decode cX11_needUnfinished 11 = .ok (.iaload, 1) := by decide +kernel
theorem dX11_needUnfinished_12 : decode cX11_needUnfinished 12 = .ok (.iconst 2, 1) := by decide +kernel
theorem dX11_needUnfinished_13 : decode cX11_needUnfinished 13 = .ok (.if_icmp .eq 19, 3) := by decide +kernel
theorem dX11_needUnfinished_16 : decode cX11_needUnfinished 16 = .ok (.aload_n 0, 1) := by decide +kernel
theorem dX11_needUnfinished_17 : decode cX11_needUnfinished 17 = .ok (.getfield 10, 3) := by decide +kernel
theorem dX11_needUnfinished_20 : decode cX11_needUnfinished 20 = .ok (.getfield 118, 3) := by decide +kernel
theorem dX11_needUnfinished_23 : decode cX11_needUnfinished 23 = .ok (.getfield 130, 3) := by decide +kernel
theorem dX11_needUnfinished_26 : decode cX11_needUnfinished 26 = .ok (.iload_n 1, 1) := by decide +kernel
theorem dX11_needUnfinished_27 : decode cX11_needUnfinished 27 = .ok (.iaload, 1) := by decide +kernel
theorem dX11_needUnfinished_28 : decode cX11_needUnfinished 28 = .ok (.iconst 3, 1) := by decide +kernel
theorem dX11_needUnfinished_29 : decode cX11_needUnfinished 29 = .ok (.if_icmp .ne 14, 3) := by decide +kernel
theorem dX11_needUnfinished_32 : decode cX11_needUnfinished 32 = .ok (.new 72, 3) := by decide +kernel
theorem dX11_needUnfinished_35 : decode cX11_needUnfinished 35 = .ok (.dup, 1) := by decide +kernel
theorem dX11_needUnfinished_36 : decode cX11_needUnfinished 36 = .ok (.ldc_w 361, 3) := by decide +kernel
theorem dX11_needUnfinished_39 : decode cX11_needUnfinished 39 = .ok (.invokespecial 76, 3) := by decide +kernel
theorem dX11_needUnfinished_42 : decode cX11_needUnfinished 42 = .ok (.athrow, 1) := by decide +kernel
theorem dX11_needUnfinished_43 : decode cX11_needUnfinished 43 = .ok (.return_, 1) := by decide +kernel
theorem dX11_needRoomForOrder_0 : decode cX11_needRoomForOrder 0 = .ok (.aload_n 0, 1) := by decide +kernel
theorem dX11_needRoomForOrder_1 : decode cX11_needRoomForOrder 1 = .ok (.getfield 10, 3) := by decide +kernel
theorem dX11_needRoomForOrder_4 : decode cX11_needRoomForOrder 4 = .ok (.getfield 118, 3) := by decide +kernel
theorem dX11_needRoomForOrder_7 : decode cX11_needRoomForOrder 7 = .ok (.getfield 146, 3) := by decide +kernel
theorem dX11_needRoomForOrder_10 : decode cX11_needRoomForOrder 10 = .ok (.bipush 16, 2) := by decide +kernel
theorem dX11_needRoomForOrder_12 : decode cX11_needRoomForOrder 12 = .ok (.if_icmp .lt 14, 3) := by decide +kernel
theorem dX11_needRoomForOrder_15 : decode cX11_needRoomForOrder 15 = .ok (.new 72, 3) := by decide +kernel
theorem dX11_needRoomForOrder_18 : decode cX11_needRoomForOrder 18 = .ok (.dup, 1) := by decide +kernel
theorem dX11_needRoomForOrder_19 : decode cX11_needRoomForOrder 19 = .ok (.ldc_w 363, 3) := by decide +kernel
theorem dX11_needRoomForOrder_22 : decode cX11_needRoomForOrder 22 = .ok (.invokespecial 76, 3) := by decide +kernel
theorem dX11_needRoomForOrder_25 : decode cX11_needRoomForOrder 25 = .ok (.athrow, 1) := by decide +kernel
theorem dX11_needRoomForOrder_26 : decode cX11_needRoomForOrder 26 = .ok (.return_, 1) := by decide +kernel
theorem dX11_tardinessNow_0 : decode cX11_tardinessNow 0 = .ok (.aload_n 0, 1) := by decide +kernel
theorem dX11_tardinessNow_1 : decode cX11_tardinessNow 1 = .ok (.getfield 40, 3) := by decide +kernel
theorem dX11_tardinessNow_4 : decode cX11_tardinessNow 4 = .ok (.aload_n 0, 1) := by decide +kernel
theorem dX11_tardinessNow_5 : decode cX11_tardinessNow 5 = .ok (.getfield 10, 3) := by decide +kernel
theorem dX11_tardinessNow_8 : decode cX11_tardinessNow 8 = .ok (.invokevirtual 275, 3) := by decide +kernel
theorem dX11_tardinessNow_11 : decode cX11_tardinessNow 11 = .ok (.iconst 0, 1) := by decide +kernel
theorem dX11_tardinessNow_12 : decode cX11_tardinessNow 12 = .ok (.istore_n 1, 1) := by decide +kernel
theorem dX11_tardinessNow_13 : decode cX11_tardinessNow 13 = .ok (.iconst 0, 1) := by decide +kernel
theorem dX11_tardinessNow_14 : decode cX11_tardinessNow 14 = .ok (.istore_n 2, 1) := by decide +kernel
theorem dX11_tardinessNow_15 : decode cX11_tardinessNow 15 = .ok (.iload_n 2, 1) := by decide +kernel
theorem dX11_tardinessNow_16 : decode cX11_tardinessNow 16 = .ok (.aload_n 0, 1) := by decide +kernel
theorem dX11_tardinessNow_17 : decode cX11_tardinessNow 17 = .ok (.getfield 10, 3) := by decide +kernel
theorem dX11_tardinessNow_20 : decode cX11_tardinessNow 20 = .ok (.getfield 159, 3) := by decide +kernel
theorem dX11_tardinessNow_23 : decode cX11_tardinessNow 23 = .ok (.getfield 168, 3) := by decide +kernel
theorem dX11_tardinessNow_26 : decode cX11_tardinessNow 26 = .ok (.if_icmp .ge 35, 3) := by decide +kernel
theorem dX11_tardinessNow_29 : decode cX11_tardinessNow 29 = .ok (.iload_n 1, 1) := by decide +kernel
theorem dX11_tardinessNow_30 : decode cX11_tardinessNow 30 = .ok (.aload_n 0, 1) := by decide +kernel
theorem dX11_tardinessNow_31 : decode cX11_tardinessNow 31 = .ok (.getfield 10, 3) := by decide +kernel
theorem dX11_tardinessNow_34 : decode cX11_tardinessNow 34 = .ok (.iload_n 2, 1) := by decide +kernel
theorem dX11_tardinessNow_35 : decode cX11_tardinessNow 35 = .ok (.aload_n 0, 1) := by decide +kernel
theorem dX11_tardinessNow_36 : decode cX11_tardinessNow 36 = .ok (.getfield 40, 3) := by decide +kernel
theorem dX11_tardinessNow_39 : decode cX11_tardinessNow 39 = .ok (.aload_n 0, 1) := by decide +kernel
theorem dX11_tardinessNow_40 : decode cX11_tardinessNow 40 = .ok (.getfield 10, 3) := by decide +kernel
theorem dX11_tardinessNow_43 : decode cX11_tardinessNow 43 = .ok (.getfield 79, 3) := by decide +kernel
theorem dX11_tardinessNow_46 : decode cX11_tardinessNow 46 = .ok (.iload_n 2, 1) := by decide +kernel
theorem dX11_tardinessNow_47 : decode cX11_tardinessNow 47 = .ok (.invokevirtual 284, 3) := by decide +kernel
theorem dX11_tardinessNow_50 : decode cX11_tardinessNow 50 = .ok (.invokevirtual 365, 3) := by decide +kernel
theorem dX11_tardinessNow_53 : decode cX11_tardinessNow 53 = .ok (.iadd, 1) := by decide +kernel
theorem dX11_tardinessNow_54 : decode cX11_tardinessNow 54 = .ok (.istore_n 1, 1) := by decide +kernel
theorem dX11_tardinessNow_55 : decode cX11_tardinessNow 55 = .ok (.iinc 2 1, 3) := by decide +kernel
theorem dX11_tardinessNow_58 : decode cX11_tardinessNow 58 = .ok (.goto (-43), 3) := by decide +kernel
theorem dX11_tardinessNow_61 : decode cX11_tardinessNow 61 = .ok (.iload_n 1, 1) := by decide +kernel
theorem dX11_tardinessNow_62 : decode cX11_tardinessNow 62 = .ok (.ireturn, 1) := by decide +kernel
theorem dX11_batchedOrders_0 : decode cX11_batchedOrders 0 = .ok (.iconst 1, 1) := by decide +kernel
theorem dX11_batchedOrders_1 : decode cX11_batchedOrders 1 = .ok (.aload_n 0, 1) := by decide +kernel
theorem dX11_batchedOrders_2 : decode cX11_batchedOrders 2 = .ok (.getfield 10, 3) := by decide +kernel
theorem dX11_batchedOrders_5 : decode cX11_batchedOrders 5 = .ok (.getfield 118, 3) := by decide +kernel
theorem dX11_batchedOrders_8 : decode cX11_batchedOrders 8 = .ok (.iconst 1, 1) := by decide +kernel
theorem dX11_batchedOrders_9 : decode cX11_batchedOrders 9 = .ok (.invokevirtual 368, 3) := by decide +kernel
theorem dX11_batchedOrders_12 : decode cX11_batchedOrders 12 = .ok (.invokestatic 371, 3) := by decide +kernel
theorem dX11_batchedOrders_15 : decode cX11_batchedOrders 15 = .ok (.ireturn, 1) := by decide +kernel
theorem dX11_commonDivisor_0 : decode cX11_commonDivisor 0 = .ok (.iload_n 0, 1) := by decide +kernel
theorem dX11_commonDivisor_1 : decode cX11_commonDivisor 1 = .ok (.istore_n 2, 1) := by decide +kernel
theorem dX11_commonDivisor_2 : decode cX11_commonDivisor 2 = .ok (.iload_n 1, 1) := by decide +kernel
theorem dX11_commonDivisor_3 : decode cX11_commonDivisor 3 = .ok (.istore_n 3, 1) := by decide +kernel
theorem dX11_commonDivisor_4 : decode cX11_commonDivisor 4 = .ok (.iconst 0, 1) := by decide +kernel
theorem dX11_commonDivisor_5 : decode cX11_commonDivisor 5 = .ok (.istore 4, 2) := by decide +kernel
theorem dX11_commonDivisor_7 : decode cX11_commonDivisor 7 = .ok (.iload 4, 2) := by decide +kernel
theorem dX11_commonDivisor_9 : decode cX11_commonDivisor 9 = .ok (.bipush 64, 2) := by decide +kernel
theorem dX11_commonDivisor_11 : decode cX11_commonDivisor 11 = .ok (.if_icmp .ge 23, 3) := by decide +kernel
theorem dX11_commonDivisor_14 : decode cX11_commonDivisor 14 = .ok (.iload_n 3, 1) := by decide +kernel
theorem dX11_commonDivisor_15 : decode cX11_commonDivisor 15 = .ok (.ifCond .le 19, 3) := by decide +kernel
theorem dX11_commonDivisor_18 : decode cX11_commonDivisor 18 = .ok (.iload_n 2, 1) := by decide +kernel
theorem dX11_commonDivisor_19 : decode cX11_commonDivisor 19 = .ok (.iload_n 3, 1) := by decide +kernel
theorem dX11_commonDivisor_20 : decode cX11_commonDivisor 20 = .ok (.irem, 1) := by decide +kernel
theorem dX11_commonDivisor_21 : decode cX11_commonDivisor 21 = .ok (.istore 5, 2) := by decide +kernel
theorem dX11_commonDivisor_23 : decode cX11_commonDivisor 23 = .ok (.iload_n 3, 1) := by decide +kernel
theorem dX11_commonDivisor_24 : decode cX11_commonDivisor 24 = .ok (.istore_n 2, 1) := by decide +kernel
theorem dX11_commonDivisor_25 : decode cX11_commonDivisor 25 = .ok (.iload 5, 2) := by decide +kernel
theorem dX11_commonDivisor_27 : decode cX11_commonDivisor 27 = .ok (.istore_n 3, 1) := by decide +kernel
theorem dX11_commonDivisor_28 : decode cX11_commonDivisor 28 = .ok (.iinc 4 1, 3) := by decide +kernel
theorem dX11_commonDivisor_31 : decode cX11_commonDivisor 31 = .ok (.goto (-24), 3) := by decide +kernel
theorem dX11_commonDivisor_34 : decode cX11_commonDivisor 34 = .ok (.iconst 1, 1) := by decide +kernel
theorem dX11_commonDivisor_35 : decode cX11_commonDivisor 35 = .ok (.iload_n 2, 1) := by decide +kernel
theorem dX11_commonDivisor_36 : decode cX11_commonDivisor 36 = .ok (.invokestatic 371, 3) := by decide +kernel
theorem dX11_commonDivisor_39 : decode cX11_commonDivisor 39 = .ok (.ireturn, 1) := by decide +kernel
theorem dX0_init_0 : decode cX0_init 0 = .ok (.aload_n 0, 1) := by decide +kernel
theorem dX0_init_1 : decode cX0_init 1 = .ok (.invokespecial 3, 3) := by decide +kernel
theorem dX0_init_4 : decode cX0_init 4 = .ok (.aload_n 0, 1) := by decide +kernel
theorem dX0_init_5 : decode cX0_init 5 = .ok (.bipush 8, 2) := by decide +kernel
theorem dX0_init_7 : decode cX0_init 7 = .ok (.newarray .int, 2) := by decide +kernel
theorem dX0_init_9 : decode cX0_init 9 = .ok (.putfield 9, 3) := by decide +kernel
theorem dX0_init_12 : decode cX0_init 12 = .ok (.return_, 1) := by decide +kernel
theorem dX0_append_0 : decode cX0_append 0 = .ok (.aload_n 0, 1) := by decide +kernel
theorem dX0_append_1 : decode cX0_append 1 = .ok (.getfield 15, 3) := by decide +kernel
theorem dX0_append_4 : decode cX0_append 4 = .ok (.istore_n 2, 1) := by decide +kernel
theorem dX0_append_5 : decode cX0_append 5 = .ok (.aload_n 0, 1) := by decide +kernel
theorem dX0_append_6 : decode cX0_append 6 = .ok (.getfield 9, 3) := by decide +kernel
theorem dX0_append_9 : decode cX0_append 9 = .ok (.iload_n 2, 1) := by decide +kernel
theorem dX0_append_10 : decode cX0_append 10 = .ok (.iload_n 1, 1) := by decide +kernel
theorem dX0_append_11 : decode cX0_append 11 = .ok (.iastore, 1) := by decide +kernel
theorem dX0_append_12 : decode cX0_append 12 = .ok (.aload_n 0, 1) := by decide +kernel
theorem dX0_append_13 : decode cX0_append 13 = .ok (.dup, 1) := by decide +kernel
theorem dX0_append_14 : decode cX0_append 14 = .ok (.getfield 15, 3) := by decide +kernel
theorem dX0_append_17 : decode cX0_append 17 = .ok (.iconst 1, 1) := by decide +kernel
theorem dX0_append_18 : decode cX0_append 18 = .ok (.iadd, 1) := by decide +kernel
theorem dX0_append_19 : decode cX0_append 19 = .ok (.putfield 15, 3) := by decide +kernel
theorem dX0_append_22 : decode cX0_append 22 = .ok (.iload_n 2, 1) := by decide +kernel
theorem dX0_append_23 : decode cX0_append 23 = .ok (.ireturn, 1) := by decide +kernel
theorem dX0_drop_0 : decode cX0_drop 0 = .ok (.iload_n 1, 1) := by decide +kernel
theorem dX0_drop_1 : decode cX0_drop 1 = .ok (.iconst 1, 1) := by decide +kernel
theorem dX0_drop_2 : decode cX0_drop 2 = .ok (.iadd, 1) := by decide +kernel
theorem dX0_drop_3 : decode cX0_drop 3 = .ok (.istore_n 2, 1) := by decide +kernel
theorem dX0_drop_4 : decode cX0_drop 4 = .ok (.iload_n 2, 1) := by decide +kernel
theorem dX0_drop_5 : decode cX0_drop 5 = .ok (.aload_n 0, 1) := by decide +kernel
theorem dX0_drop_6 : decode cX0_drop 6 = .ok (.getfield 15, 3) := by decide +kernel
theorem dX0_drop_9 : decode cX0_drop 9 = .ok (.if_icmp .ge 23, 3) := by decide +kernel
theorem dX0_drop_12 : decode cX0_drop 12 = .ok (.aload_n 0, 1) := by decide +kernel
theorem dX0_drop_13 : decode cX0_drop 13 = .ok (.getfield 9, 3) := by decide +kernel
theorem dX0_drop_16 : decode cX0_drop 16 = .ok (.iload_n 2, 1) := by decide +kernel
theorem dX0_drop_17 : decode cX0_drop 17 = .ok (.iconst 1, 1) := by decide +kernel
theorem dX0_drop_18 : decode cX0_drop 18 = .ok (.isub, 1) := by decide +kernel
theorem dX0_drop_19 : decode cX0_drop 19 = .ok (.aload_n 0, 1) := by decide +kernel
theorem dX0_drop_20 : decode cX0_drop 20 = .ok (.getfield 9, 3) := by decide +kernel
theorem dX0_drop_23 : decode cX0_drop 23 = .ok (.iload_n 2, 1) := by decide +kernel
theorem dX0_drop_24 : decode cX0_drop 24 = .ok (.iaload, 1) := by decide +kernel
theorem dX0_drop_25 : decode cX0_drop 25 = .ok (.iastore, 1) := by decide +kernel
theorem dX0_drop_26 : decode cX0_drop 26 = .ok (.iinc 2 1, 3) := by decide +kernel
theorem dX0_drop_29 : decode cX0_drop 29 = .ok (.goto (-25), 3) := by decide +kernel
theorem dX0_drop_32 : decode cX0_drop 32 = .ok (.aload_n 0, 1) := by decide +kernel
theorem dX0_drop_33 : decode cX0_drop 33 = .ok (.dup, 1) := by decide +kernel
theorem dX0_drop_34 : decode cX0_drop 34 = .ok (.getfield 15, 3) := by decide +kernel
theorem dX0_drop_37 : decode cX0_drop 37 = .ok (.iconst 1, 1) := by decide +kernel
theorem dX0_drop_38 : decode cX0_drop 38 = .ok (.isub, 1) := by decide +kernel
theorem dX0_drop_39 : decode cX0_drop 39 = .ok (.putfield 15, 3) := by decide +kernel
theorem dX0_drop_42 : decode cX0_drop 42 = .ok (.return_, 1) := by decide +kernel
theorem dX0_batchWith_0 : decode cX0_batchWith 0 = .ok (.iconst 0, 1) := by decide +kernel
theorem dX0_batchWith_1 : decode cX0_batchWith 1 = .ok (.istore_n 2, 1) := by decide +kernel
theorem dX0_batchWith_2 : decode cX0_batchWith 2 = .ok (.iload_n 2, 1) := by decide +kernel
theorem dX0_batchWith_3 : decode cX0_batchWith 3 = .ok (.aload_n 0, 1) := by decide +kernel
theorem dX0_batchWith_4 : decode cX0_batchWith 4 = .ok (.getfield 15, 3) := by decide +kernel
theorem dX0_batchWith_7 : decode cX0_batchWith 7 = .ok (.if_icmp .ge 24, 3) := by decide +kernel
theorem dX0_batchWith_10 : decode cX0_batchWith 10 = .ok (.aload_n 0, 1) := by decide +kernel
theorem dX0_batchWith_11 : decode cX0_batchWith 11 = .ok (.getfield 9, 3) := by decide +kernel
theorem dX0_batchWith_14 : decode cX0_batchWith 14 = .ok (.iload_n 2, 1) := by decide +kernel
theorem dX0_batchWith_15 : decode cX0_batchWith 15 = .ok (.iaload, 1) := by decide +kernel
theorem dX0_batchWith_16 : decode cX0_batchWith 16 = .ok (.iload_n 1, 1) := by decide +kernel
theorem dX0_batchWith_17 : decode cX0_batchWith 17 = .ok (.ishr, 1) := by decide +kernel
theorem dX0_batchWith_18 : decode cX0_batchWith 18 = .ok (.iconst 1, 1) := by decide +kernel
theorem dX0_batchWith_19 : decode cX0_batchWith 19 = .ok (.iand, 1) := by decide +kernel
theorem dX0_batchWith_20 : decode cX0_batchWith 20 = .ok (.ifCond .eq 5, 3) := by decide +kernel
theorem dX0_batchWith_23 : decode cX0_batchWith 23 = .ok (.iload_n 2, 1) := by decide +kernel
theorem dX0_batchWith_24 : decode cX0_batchWith 24 = .ok (.ireturn, 1) := by decide +kernel
theorem dX0_batchWith_25 : decode cX0_batchWith 25 = .ok (.iinc 2 1, 3) := by decide +kernel
theorem dX0_batchWith_28 : decode cX0_batchWith 28 = .ok (.goto (-26), 3) := by decide +kernel
theorem dX0_batchWith_31 : decode cX0_batchWith 31 = .ok (.iconst (-1), 1) := by decide +kernel
theorem dX0_batchWith_32 : decode cX0_batchWith 32 = .ok (.ireturn, 1) := by decide +kernel
theorem dX0_takeOut_0 : decode cX0_takeOut 0 = .ok (.aload_n 0, 1) := by decide +kernel
theorem dX0_takeOut_1 : decode cX0_takeOut 1 = .ok (.iload_n 1, 1) := by decide +kernel
theorem dX0_takeOut_2 : decode cX0_takeOut 2 = .ok (.invokevirtual 19, 3) := by decide +kernel
theorem dX0_takeOut_5 : decode cX0_takeOut 5 = .ok (.istore_n 2, 1) := by decide +kernel
theorem dX0_takeOut_6 : decode cX0_takeOut 6 = .ok (.iload_n 2, 1) := by decide +kernel
theorem dX0_takeOut_7 : decode cX0_takeOut 7 = .ok (.iconst (-1), 1) := by decide +kernel
theorem dX0_takeOut_8 : decode cX0_takeOut 8 = .ok (.if_icmp .eq 9, 3) := by decide +kernel
theorem dX0_takeOut_11 : decode cX0_takeOut 11 = .ok (.aload_n 0, 1) := by decide +kernel
theorem dX0_takeOut_12 : decode cX0_takeOut 12 = .ok (.iload_n 2, 1) := by decide +kernel
theorem dX0_takeOut_13 : decode cX0_takeOut 13 = .ok (.iload_n 1, 1) := by decide +kernel
theorem dX0_takeOut_14 : decode cX0_takeOut 14 = .ok (.invokevirtual 23, 3) := by decide +kernel
theorem dX0_takeOut_17 : decode cX0_takeOut 17 = .ok (.return_, 1) := by decide +kernel
theorem dX0_move_0 : decode cX0_move 0 = .ok (.aload_n 0, 1) := by decide +kernel
theorem dX0_move_1 : decode cX0_move 1 = .ok (.iload_n 1, 1) := by decide +kernel
theorem dX0_move_2 : decode cX0_move 2 = .ok (.invokevirtual 19, 3) := by decide +kernel
theorem dX0_move_5 : decode cX0_move 5 = .ok (.istore_n 3, 1) := by decide +kernel
theorem dX0_move_6 : decode cX0_move 6 = .ok (.aload_n 0, 1) := by decide +kernel
theorem dX0_move_7 : decode cX0_move 7 = .ok (.getfield 9, 3) := by decide +kernel
theorem dX0_move_10 : decode cX0_move 10 = .ok (.iload_n 2, 1) := by decide +kernel
theorem dX0_move_11 : decode cX0_move 11 = .ok (.dup2, 1) := by decide +kernel
theorem dX0_move_12 : decode cX0_move 12 = .ok (.iaload, 1) := by decide +kernel
theorem dX0_move_13 : decode cX0_move 13 = .ok (.iconst 1, 1) := by decide +kernel
theorem dX0_move_14 : decode cX0_move 14 = .ok (.iload_n 1, 1) := by decide +kernel
theorem dX0_move_15 : decode cX0_move 15 = .ok (.ishl, 1) := by decide +kernel
theorem dX0_move_16 : decode cX0_move 16 = .ok (.ior, 1) := by decide +kernel
theorem dX0_move_17 : decode cX0_move 17 = .ok (.iastore, 1) := by decide +kernel
theorem dX0_move_18 : decode cX0_move 18 = .ok (.iload_n 3, 1) := by decide +kernel
theorem dX0_move_19 : decode cX0_move 19 = .ok (.iconst (-1), 1) := by decide +kernel
theorem dX0_move_20 : decode cX0_move 20 = .ok (.if_icmp .eq 14, 3) := by decide +kernel
theorem dX0_move_23 : decode cX0_move 23 = .ok (.iload_n 3, 1) := by decide +kernel
theorem dX0_move_24 : decode cX0_move 24 = .ok (.iload_n 2, 1) := by decide +kernel
theorem dX0_move_25 : decode cX0_move 25 = .ok (.if_icmp .eq 9, 3) := by decide +kernel
theorem dX0_move_28 : decode cX0_move 28 = .ok (.aload_n 0, 1) := by decide +kernel
theorem dX0_move_29 : decode cX0_move 29 = .ok (.iload_n 3, 1) := by decide +kernel
theorem dX0_move_30 : decode cX0_move 30 = .ok (.iload_n 1, 1) := by decide +kernel
theorem dX0_move_31 : decode cX0_move 31 = .ok (.invokevirtual 23, 3) := by decide +kernel
theorem dX0_move_34 : decode cX0_move 34 = .ok (.return_, 1) := by decide +kernel
theorem dX0_takeFrom_0 : decode cX0_takeFrom 0 = .ok (.aload_n 0, 1) := by decide +kernel
theorem dX0_takeFrom_1 : decode cX0_takeFrom 1 = .ok (.getfield 9, 3) := by decide +kernel
theorem dX0_takeFrom_4 : decode cX0_takeFrom 4 = .ok (.iload_n 1, 1) := by decide +kernel
theorem dX0_takeFrom_5 : decode cX0_takeFrom 5 = .ok (.dup2, 1) := by decide +kernel
theorem dX0_takeFrom_6 : decode cX0_takeFrom 6 = .ok (.iaload, 1) := by decide +kernel
theorem dX0_takeFrom_7 : decode cX0_takeFrom 7 = .ok (.iconst 1, 1) := by decide +kernel
theorem dX0_takeFrom_8 : decode cX0_takeFrom 8 = .ok (.iload_n 2, 1) := by decide +kernel
theorem dX0_takeFrom_9 : decode cX0_takeFrom 9 = .ok (.ishl, 1) := by decide +kernel
theorem dX0_takeFrom_10 : decode cX0_takeFrom 10 = .ok (.iconst (-1), 1) := by decide +kernel
theorem dX0_takeFrom_11 : decode cX0_takeFrom 11 = .ok (.ixor, 1) := by decide +kernel
theorem dX0_takeFrom_12 : decode cX0_takeFrom 12 = .ok (.iand, 1) := by decide +kernel
theorem dX0_takeFrom_13 : decode cX0_takeFrom 13 = .ok (.iastore, 1) := by decide +kernel
theorem dX0_takeFrom_14 : decode cX0_takeFrom 14 = .ok (.aload_n 0, 1) := by decide +kernel
theorem dX0_takeFrom_15 : decode cX0_takeFrom 15 = .ok (.getfield 9, 3) := by decide +kernel
theorem dX0_takeFrom_18 : decode cX0_takeFrom 18 = .ok (.iload_n 1, 1) := by decide +kernel
theorem dX0_takeFrom_19 : decode cX0_takeFrom 19 = .ok (.iaload, 1) := by decide +kernel
theorem dX0_takeFrom_20 : decode cX0_takeFrom 20 = .ok (.ifCond .ne 8, 3) := by decide +kernel
theorem dX0_takeFrom_23 : decode cX0_takeFrom 23 = .ok (.aload_n 0, 1) := by decide +kernel
theorem dX0_takeFrom_24 : decode cX0_takeFrom 24 = .ok (.iload_n 1, 1) := by decide +kernel
theorem dX0_takeFrom_25 : decode cX0_takeFrom 25 = .ok (.invokevirtual 27, 3) := by decide +kernel
theorem dX0_takeFrom_28 : decode cX0_takeFrom 28 = .ok (.return_, 1) := by decide +kernel
theorem dX0_copyFrom_0 : decode cX0_copyFrom 0 = .ok (.aload_n 0, 1) := by decide +kernel
theorem dX0_copyFrom_1 : decode cX0_copyFrom 1 = .ok (.aload_n 1, 1) := by decide +kernel
theorem dX0_copyFrom_2 : decode cX0_copyFrom 2 = .ok (.getfield 15, 3) := by decide +kernel
theorem dX0_copyFrom_5 : decode cX0_copyFrom 5 = .ok (.putfield 15, 3) := by decide +kernel
theorem dX0_copyFrom_8 : decode cX0_copyFrom 8 = .ok (.aload_n 1, 1) := by decide +kernel
theorem dX0_copyFrom_9 : decode cX0_copyFrom 9 = .ok (.getfield 9, 3) := by decide +kernel
theorem dX0_copyFrom_12 : decode cX0_copyFrom 12 = .ok (.iconst 0, 1) := by decide +kernel
theorem dX0_copyFrom_13 : decode cX0_copyFrom 13 = .ok (.aload_n 0, 1) := by decide +kernel
theorem dX0_copyFrom_14 : decode cX0_copyFrom 14 = .ok (.getfield 9, 3) := by decide +kernel
theorem dX0_copyFrom_17 : decode cX0_copyFrom 17 = .ok (.iconst 0, 1) := by decide +kernel
theorem dX0_copyFrom_18 : decode cX0_copyFrom 18 = .ok (.bipush 8, 2) := by decide +kernel
theorem dX0_copyFrom_20 : decode cX0_copyFrom 20 = .ok (.invokestatic 31, 3) := by decide +kernel
theorem dX0_copyFrom_23 : decode cX0_copyFrom 23 = .ok (.return_, 1) := by decide +kernel
theorem dX1_init_0 : decode cX1_init 0 = .ok (.aload_n 0, 1) := by decide +kernel
theorem dX1_init_1 : decode cX1_init 1 = .ok (.invokespecial 3, 3) := by decide +kernel
theorem dX1_init_4 : decode cX1_init 4 = .ok (.aload_n 0, 1) := by decide +kernel
theorem dX1_init_5 : decode cX1_init 5 = .ok (.new 9, 3) := by decide +kernel
theorem dX1_init_8 : decode cX1_init 8 = .ok (.dup, 1) := by decide +kernel
theorem dX1_init_9 : decode cX1_init 9 = .ok (.invokespecial 11, 3) := by decide +kernel
theorem dX1_init_12 : decode cX1_init 12 = .ok (.putfield 12, 3) := by decide +kernel
theorem dX1_init_15 : decode cX1_init 15 = .ok (.aload_n 0, 1) := by decide +kernel
theorem dX1_init_16 : decode cX1_init 16 = .ok (.new 18, 3) := by decide +kernel
theorem dX1_init_19 : decode cX1_init 19 = .ok (.dup, 1) := by decide +kernel
theorem dX1_init_20 : decode cX1_init 20 = .ok (.invokespecial 20, 3) := by decide +kernel
theorem dX1_init_23 : decode cX1_init 23 = .ok (.putfield 21, 3) := by decide +kernel
theorem dX1_init_26 : decode cX1_init 26 = .ok (.aload_n 0, 1) := by decide +kernel
theorem dX1_init_27 : decode cX1_init 27 = .ok (.new 25, 3) := by decide +kernel
theorem dX1_init_30 : decode cX1_init 30 = .ok (.dup, 1) := by decide +kernel
theorem dX1_init_31 : decode cX1_init 31 = .ok (.invokespecial 27, 3) := by decide +kernel
theorem dX1_init_34 : decode cX1_init 34 = .ok (.putfield 28, 3) := by decide +kernel
theorem dX1_init_37 : decode cX1_init 37 = .ok (.aload_n 0, 1) := by decide +kernel
theorem dX1_init_38 : decode cX1_init 38 = .ok (.new 32, 3) := by decide +kernel
theorem dX1_init_41 : decode cX1_init 41 = .ok (.dup, 1) := by decide +kernel
theorem dX1_init_42 : decode cX1_init 42 = .ok (.invokespecial 34, 3) := by decide +kernel
theorem dX1_init_45 : decode cX1_init 45 = .ok (.putfield 35, 3) := by decide +kernel
theorem dX1_init_48 : decode cX1_init 48 = .ok (.aload_n 0, 1) := by decide +kernel
theorem dX1_init_49 : decode cX1_init 49 = .ok (.getfield 12, 3) := by decide +kernel
theorem dX1_init_52 : decode cX1_init 52 = .ok (.invokevirtual 39, 3) := by decide +kernel
theorem dX1_init_55 : decode cX1_init 55 = .ok (.return_, 1) := by decide +kernel
theorem dX1_reset_0 : decode cX1_reset 0 = .ok (.aload_n 0, 1) := by decide +kernel
theorem dX1_reset_1 : decode cX1_reset 1 = .ok (.getfield 12, 3) := by decide +kernel
theorem dX1_reset_4 : decode cX1_reset 4 = .ok (.invokevirtual 39, 3) := by decide +kernel
theorem dX1_reset_7 : decode cX1_reset 7 = .ok (.aload_n 0, 1) := by decide +kernel
theorem dX1_reset_8 : decode cX1_reset 8 = .ok (.getfield 21, 3) := by decide +kernel
theorem dX1_reset_11 : decode cX1_reset 11 = .ok (.iconst 0, 1) := by decide +kernel
theorem dX1_reset_12 : decode cX1_reset 12 = .ok (.putfield 42, 3) := by decide +kernel
theorem dX1_reset_15 : decode cX1_reset 15 = .ok (.aload_n 0, 1) := by decide +kernel
theorem dX1_reset_16 : decode cX1_reset 16 = .ok (.getfield 28, 3) := by decide +kernel
theorem dX1_reset_19 : decode cX1_reset 19 = .ok (.iconst 0, 1) := by decide +kernel
theorem dX1_reset_20 : decode cX1_reset 20 = .ok (.putfield 46, 3) := by decide +kernel
theorem dX1_reset_23 : decode cX1_reset 23 = .ok (.aload_n 0, 1) := by decide +kernel
theorem dX1_reset_24 : decode cX1_reset 24 = .ok (.getfield 28, 3) := by decide +kernel
theorem dX1_reset_27 : decode cX1_reset 27 = .ok (.iconst 0, 1) := by decide +kernel
theorem dX1_reset_28 : decode cX1_reset 28 = .ok (.putfield 47, 3) := by decide +kernel
theorem dX1_reset_31 : decode cX1_reset 31 = .ok (.aload_n 0, 1) := by decide +kernel
theorem dX1_reset_32 : decode cX1_reset 32 = .ok (.getfield 35, 3) := by decide +kernel
theorem dX1_reset_35 : decode cX1_reset 35 = .ok (.iconst 0, 1) := by decide +kernel
theorem dX1_reset_36 : decode cX1_reset 36 = .ok (.putfield 50, 3) := by decide +kernel
theorem dX1_reset_39 : decode cX1_reset 39 = .ok (.return_, 1) := by decide +kernel
theorem dX1_copyFrom_0 : decode cX1_copyFrom 0 = .ok (.aload_n 0, 1) := by decide +kernel
theorem dX1_copyFrom_1 : decode cX1_copyFrom 1 = .ok (.getfield 12, 3) := by decide +kernel
theorem dX1_copyFrom_4 : decode cX1_copyFrom 4 = .ok (.aload_n 1, 1) := by decide +kernel
theorem dX1_copyFrom_5 : decode cX1_copyFrom 5 = .ok (.getfield 12, 3) := by decide +kernel
theorem dX1_copyFrom_8 : decode cX1_copyFrom 8 = .ok (.invokevirtual 51, 3) := by decide +kernel
theorem dX1_copyFrom_11 : decode cX1_copyFrom 11 = .ok (.aload_n 0, 1) := by decide +kernel
theorem dX1_copyFrom_12 : decode cX1_copyFrom 12 = .ok (.getfield 21, 3) := by decide +kernel
theorem dX1_copyFrom_15 : decode cX1_copyFrom 15 = .ok (.aload_n 1, 1) := by decide +kernel
theorem dX1_copyFrom_16 : decode cX1_copyFrom 16 = .ok (.getfield 21, 3) := by decide +kernel
theorem dX1_copyFrom_19 : decode cX1_copyFrom 19 = .ok (.invokevirtual 55, 3) := by decide +kernel
theorem dX1_copyFrom_22 : decode cX1_copyFrom 22 = .ok (.aload_n 0, 1) := by decide +kernel
theorem dX1_copyFrom_23 : decode cX1_copyFrom 23 = .ok (.getfield 28, 3) := by decide +kernel
theorem dX1_copyFrom_26 : decode cX1_copyFrom 26 = .ok (.aload_n 1, 1) := by decide +kernel
theorem dX1_copyFrom_27 : decode cX1_copyFrom 27 = .ok (.getfield 28, 3) := by decide +kernel
theorem dX1_copyFrom_30 : decode cX1_copyFrom 30 = .ok (.invokevirtual 58, 3) := by decide +kernel
theorem dX1_copyFrom_33 : decode cX1_copyFrom 33 = .ok (.aload_n 0, 1) := by decide +kernel
theorem dX1_copyFrom_34 : decode cX1_copyFrom 34 = .ok (.getfield 35, 3) := by decide +kernel
theorem dX1_copyFrom_37 : decode cX1_copyFrom 37 = .ok (.aload_n 1, 1) := by decide +kernel
theorem dX1_copyFrom_38 : decode cX1_copyFrom 38 = .ok (.getfield 35, 3) := by decide +kernel
theorem dX1_copyFrom_41 : decode cX1_copyFrom 41 = .ok (.invokevirtual 61, 3) := by decide +kernel
theorem dX1_copyFrom_44 : decode cX1_copyFrom 44 = .ok (.return_, 1) := by decide +kernel
theorem dX1_weightOf_0 : decode cX1_weightOf 0 = .ok (.iconst 0, 1) := by decide +kernel
theorem dX1_weightOf_1 : decode cX1_weightOf 1 = .ok (.istore_n 2, 1) := by decide +kernel
theorem dX1_weightOf_2 : decode cX1_weightOf 2 = .ok (.iconst 0, 1) := by decide +kernel
theorem dX1_weightOf_3 : decode cX1_weightOf 3 = .ok (.istore_n 3, 1) := by decide +kernel
theorem dX1_weightOf_4 : decode cX1_weightOf 4 = .ok (.iload_n 3, 1) := by decide +kernel
theorem dX1_weightOf_5 : decode cX1_weightOf 5 = .ok (.aload_n 0, 1) := by decide +kernel
theorem dX1_weightOf_6 : decode cX1_weightOf 6 = .ok (.getfield 28, 3) := by decide +kernel
theorem dX1_weightOf_9 : decode cX1_weightOf 9 = .ok (.getfield 64, 3) := by decide +kernel
theorem dX1_weightOf_12 : decode cX1_weightOf 12 = .ok (.iload_n 1, 1) := by decide +kernel
theorem dX1_weightOf_13 : decode cX1_weightOf 13 = .ok (.iaload, 1) := by decide +kernel
theorem dX1_weightOf_14 : decode cX1_weightOf 14 = .ok (.if_icmp .ge 49, 3) := by decide +kernel
theorem dX1_weightOf_17 : decode cX1_weightOf 17 = .ok (.iload_n 1, 1) := by decide +kernel
theorem dX1_weightOf_18 : decode cX1_weightOf 18 = .ok (.bipush 6, 2) := by decide +kernel
theorem dX1_weightOf_20 : decode cX1_weightOf 20 = .ok (.imul, 1) := by decide +kernel
theorem dX1_weightOf_21 : decode cX1_weightOf 21 = .ok (.iload_n 3, 1) := by decide +kernel
theorem dX1_weightOf_22 : decode cX1_weightOf 22 = .ok (.iadd, 1) := by decide +kernel
theorem dX1_weightOf_23 : decode cX1_weightOf 23 = .ok (.istore 4, 2) := by decide +kernel
theorem dX1_weightOf_25 : decode cX1_weightOf 25 = .ok (.iload_n 2, 1) := by decide +kernel
theorem dX1_weightOf_26 : decode cX1_weightOf 26 = .ok (.aload_n 0, 1) := by decide +kernel
theorem dX1_weightOf_27 : decode cX1_weightOf 27 = .ok (.getfield 28, 3) := by decide +kernel
theorem dX1_weightOf_30 : decode cX1_weightOf 30 = .ok (.getfield 68, 3) := by decide +kernel
theorem dX1_weightOf_33 : decode cX1_weightOf 33 = .ok (.iload 4, 2) := by decide +kernel
theorem dX1_weightOf_35 : decode cX1_weightOf 35 = .ok (.iaload, 1) := by decide +kernel
theorem dX1_weightOf_36 : decode cX1_weightOf 36 = .ok (.aload_n 0, 1) := by decide +kernel
theorem dX1_weightOf_37 : decode cX1_weightOf 37 = .ok (.getfield 21, 3) := by decide +kernel
theorem dX1_weightOf_40 : decode cX1_weightOf 40 = .ok (.getfield 71, 3) := by decide +kernel
theorem dX1_weightOf_43 : decode cX1_weightOf 43 = .ok (.aload_n 0, 1) := by decide +kernel
theorem dX1_weightOf_44 : decode cX1_weightOf 44 = .ok (.getfield 28, 3) := by decide +kernel
theorem dX1_weightOf_47 : decode cX1_weightOf 47 = .ok (.getfield 74, 3) := by decide +kernel
theorem dX1_weightOf_50 : decode cX1_weightOf 50 = .ok (.iload 4, 2) := by decide +kernel
theorem dX1_weightOf_52 : decode cX1_weightOf 52 = .ok (.iaload, 1) := by decide +kernel
theorem dX1_weightOf_53 : decode cX1_weightOf 53 = .ok (.iaload, 1) := by decide +kernel
theorem dX1_weightOf_54 : decode cX1_weightOf 54 = .ok (.imul, 1) := by decide +kernel
theorem dX1_weightOf_55 : decode cX1_weightOf 55 = .ok (.iadd, 1) := by decide +kernel
theorem dX1_weightOf_56 : decode cX1_weightOf 56 = .ok (.istore_n 2, 1) := by decide +kernel
theorem dX1_weightOf_57 : decode cX1_weightOf 57 = .ok (.iinc 3 1, 3) := by decide +kernel
theorem dX1_weightOf_60 : decode cX1_weightOf 60 = .ok (.goto (-56), 3) := by decide +kernel
theorem dX1_weightOf_63 : decode cX1_weightOf 63 = .ok (.iload_n 2, 1) := by decide +kernel
theorem dX1_weightOf_64 : decode cX1_weightOf 64 = .ok (.ireturn, 1) := by decide +kernel
theorem dX1_weightOfAll_0 : decode cX1_weightOfAll 0 = .ok (.iconst 0, 1) := by decide +kernel
theorem dX1_weightOfAll_1 : decode cX1_weightOfAll 1 = .ok (.istore_n 2, 1) := by decide +kernel
theorem dX1_weightOfAll_2 : decode cX1_weightOfAll 2 = .ok (.iconst 0, 1) := by decide +kernel
theorem dX1_weightOfAll_3 : decode cX1_weightOfAll 3 = .ok (.istore_n 3, 1) := by decide +kernel
theorem dX1_weightOfAll_4 : decode cX1_weightOfAll 4 = .ok (.iload_n 3, 1) := by decide +kernel
theorem dX1_weightOfAll_5 : decode cX1_weightOfAll 5 = .ok (.aload_n 0, 1) := by decide +kernel
theorem dX1_weightOfAll_6 : decode cX1_weightOfAll 6 = .ok (.getfield 28, 3) := by decide +kernel
theorem dX1_weightOfAll_9 : decode cX1_weightOfAll 9 = .ok (.getfield 46, 3) := by decide +kernel
theorem dX1_weightOfAll_12 : decode cX1_weightOfAll 12 = .ok (.if_icmp .ge 25, 3) := by decide +kernel
theorem dX1_weightOfAll_15 : decode cX1_weightOfAll 15 = .ok (.iload_n 1, 1) := by decide +kernel
theorem dX1_weightOfAll_16 : decode cX1_weightOfAll 16 = .ok (.iload_n 3, 1) := by decide +kernel
theorem dX1_weightOfAll_17 : decode cX1_weightOfAll 17 = .ok (.ishr, 1) := by decide +kernel
theorem dX1_weightOfAll_18 : decode cX1_weightOfAll 18 = .ok (.iconst 1, 1) := by decide +kernel
theorem dX1_weightOfAll_19 : decode cX1_weightOfAll 19 = .ok (.iand, 1) := by decide +kernel
theorem dX1_weightOfAll_20 : decode cX1_weightOfAll 20 = .ok (.ifCond .eq 11, 3) := by decide +kernel
theorem dX1_weightOfAll_23 : decode cX1_weightOfAll 23 = .ok (.iload_n 2, 1) := by decide +kernel
theorem dX1_weightOfAll_24 : decode cX1_weightOfAll 24 = .ok (.aload_n 0, 1) := by decide +kernel
theorem dX1_weightOfAll_25 : decode cX1_weightOfAll 25 = .ok (.iload_n 3, 1) := by decide +kernel
theorem dX1_weightOfAll_26 : decode cX1_weightOfAll 26 = .ok (.invokevirtual 77, 3) := by decide +kernel
theorem dX1_weightOfAll_29 : decode cX1_weightOfAll 29 = .ok (.iadd, 1) := by decide +kernel
theorem dX1_weightOfAll_30 : decode cX1_weightOfAll 30 = .ok (.istore_n 2, 1) := by decide +kernel
theorem dX1_weightOfAll_31 : decode cX1_weightOfAll 31 = .ok (.iinc 3 1, 3) := by decide +kernel
theorem dX1_weightOfAll_34 : decode cX1_weightOfAll 34 = .ok (.goto (-30), 3) := by decide +kernel
theorem dX1_weightOfAll_37 : decode cX1_weightOfAll 37 = .ok (.iload_n 2, 1) := by decide +kernel
theorem dX1_weightOfAll_38 : decode cX1_weightOfAll 38 = .ok (.ireturn, 1) := by decide +kernel
theorem dX1_aislesOf_0 : decode cX1_aislesOf 0 = .ok (.iconst 0, 1) := by decide +kernel
theorem dX1_aislesOf_1 : decode cX1_aislesOf 1 = .ok (.istore_n 2, 1) := by decide +kernel
theorem dX1_aislesOf_2 : decode cX1_aislesOf 2 = .ok (.iconst 0, 1) := by decide +kernel
theorem dX1_aislesOf_3 : decode cX1_aislesOf 3 = .ok (.istore_n 3, 1) := by decide +kernel
theorem dX1_aislesOf_4 : decode cX1_aislesOf 4 = .ok (.iload_n 3, 1) := by decide +kernel
theorem dX1_aislesOf_5 : decode cX1_aislesOf 5 = .ok (.aload_n 0, 1) := by decide +kernel
theorem dX1_aislesOf_6 : decode cX1_aislesOf 6 = .ok (.getfield 28, 3) := by decide +kernel
theorem dX1_aislesOf_9 : decode cX1_aislesOf 9 = .ok (.getfield 64, 3) := by decide +kernel
theorem dX1_aislesOf_12 : decode cX1_aislesOf 12 = .ok (.iload_n 1, 1) := by decide +kernel
theorem dX1_aislesOf_13 : decode cX1_aislesOf 13 = .ok (.iaload, 1) := by decide +kernel
theorem dX1_aislesOf_14 : decode cX1_aislesOf 14 = .ok (.if_icmp .ge 36, 3) := by decide +kernel
theorem dX1_aislesOf_17 : decode cX1_aislesOf 17 = .ok (.iload_n 2, 1) := by decide +kernel
theorem dX1_aislesOf_18 : decode cX1_aislesOf 18 = .ok (.iconst 1, 1) := by decide +kernel
theorem dX1_aislesOf_19 : decode cX1_aislesOf 19 = .ok (.aload_n 0, 1) := by decide +kernel
theorem dX1_aislesOf_20 : decode cX1_aislesOf 20 = .ok (.getfield 21, 3) := by decide +kernel
theorem dX1_aislesOf_23 : decode cX1_aislesOf 23 = .ok (.getfield 81, 3) := by decide +kernel
theorem dX1_aislesOf_26 : decode cX1_aislesOf 26 = .ok (.aload_n 0, 1) := by decide +kernel
theorem dX1_aislesOf_27 : decode cX1_aislesOf 27 = .ok (.getfield 28, 3) := by decide +kernel
theorem dX1_aislesOf_30 : decode cX1_aislesOf 30 = .ok (.getfield 74, 3) := by decide +kernel
theorem dX1_aislesOf_33 : decode cX1_aislesOf 33 = .ok (.iload_n 1, 1) := by decide +kernel
theorem dX1_aislesOf_34 : decode cX1_aislesOf 34 = .ok (.bipush 6, 2) := by decide +kernel
theorem dX1_aislesOf_36 : decode cX1_aislesOf 36 = .ok (.imul, 1) := by decide +kernel
theorem dX1_aislesOf_37 : decode cX1_aislesOf 37 = .ok (.iload_n 3, 1) := by decide +kernel
theorem dX1_aislesOf_38 : decode cX1_aislesOf 38 = .ok (.iadd, 1) := by decide +kernel
theorem dX1_aislesOf_39 : decode cX1_aislesOf 39 = .ok (.iaload, 1) := by decide +kernel
theorem dX1_aislesOf_40 : decode cX1_aislesOf 40 = .ok (.iaload, 1) := by decide +kernel
theorem dX1_aislesOf_41 : decode cX1_aislesOf 41 = .ok (.ishl, 1) := by decide +kernel
theorem dX1_aislesOf_42 : decode cX1_aislesOf 42 = .ok (.ior, 1) := by decide +kernel
theorem dX1_aislesOf_43 : decode cX1_aislesOf 43 = .ok (.istore_n 2, 1) := by decide +kernel
theorem dX1_aislesOf_44 : decode cX1_aislesOf 44 = .ok (.iinc 3 1, 3) := by decide +kernel
theorem dX1_aislesOf_47 : decode cX1_aislesOf 47 = .ok (.goto (-43), 3) := by decide +kernel
theorem dX1_aislesOf_50 : decode cX1_aislesOf 50 = .ok (.iload_n 2, 1) := by decide +kernel
theorem dX1_aislesOf_51 : decode cX1_aislesOf 51 = .ok (.ireturn, 1) := by decide +kernel
theorem dX1_itemsOfAll_0 : decode cX1_itemsOfAll 0 = .ok (.iconst 0, 1) := by decide +kernel
theorem dX1_itemsOfAll_1 : decode cX1_itemsOfAll 1 = .ok (.istore_n 2, 1) := by decide +kernel
theorem dX1_itemsOfAll_2 : decode cX1_itemsOfAll 2 = .ok (.iconst 0, 1) := by decide +kernel
theorem dX1_itemsOfAll_3 : decode cX1_itemsOfAll 3 = .ok (.istore_n 3, 1) := by decide +kernel
theorem dX1_itemsOfAll_4 : decode cX1_itemsOfAll 4 = .ok (.iload_n 3, 1) := by decide +kernel
theorem dX1_itemsOfAll_5 : decode cX1_itemsOfAll 5 = .ok (.aload_n 0, 1) := by decide +kernel
theorem dX1_itemsOfAll_6 : decode cX1_itemsOfAll 6 = .ok (.getfield 28, 3) := by decide +kernel
theorem dX1_itemsOfAll_9 : decode cX1_itemsOfAll 9 = .ok (.getfield 46, 3) := by decide +kernel
theorem dX1_itemsOfAll_12 : decode cX1_itemsOfAll 12 = .ok (.if_icmp .ge 60, 3) := by decide +kernel
theorem dX1_itemsOfAll_15 : decode cX1_itemsOfAll 15 = .ok (.iload_n 1, 1) := by decide +kernel
theorem dX1_itemsOfAll_16 : decode cX1_itemsOfAll 16 = .ok (.iload_n 3, 1) := by decide +kernel
theorem dX1_itemsOfAll_17 : decode cX1_itemsOfAll 17 = .ok (.ishr, 1) := by decide +kernel
theorem dX1_itemsOfAll_18 : decode cX1_itemsOfAll 18 = .ok (.iconst 1, 1) := by decide +kernel
theorem dX1_itemsOfAll_19 : decode cX1_itemsOfAll 19 = .ok (.iand, 1) := by decide +kernel
theorem dX1_itemsOfAll_20 : decode cX1_itemsOfAll 20 = .ok (.ifCond .eq 46, 3) := by decide +kernel
theorem dX1_itemsOfAll_23 : decode cX1_itemsOfAll 23 = .ok (.iconst 0, 1) := by decide +kernel
theorem dX1_itemsOfAll_24 : decode cX1_itemsOfAll 24 = .ok (.istore 4, 2) := by decide +kernel
theorem dX1_itemsOfAll_26 : decode cX1_itemsOfAll 26 = .ok (.iload 4, 2) := by decide +kernel
theorem dX1_itemsOfAll_28 : decode cX1_itemsOfAll 28 = .ok (.aload_n 0, 1) := by decide +kernel
theorem dX1_itemsOfAll_29 : decode cX1_itemsOfAll 29 = .ok (.getfield 28, 3) := by decide +kernel
theorem dX1_itemsOfAll_32 : decode cX1_itemsOfAll 32 = .ok (.getfield 64, 3) := by decide +kernel
theorem dX1_itemsOfAll_35 : decode cX1_itemsOfAll 35 = .ok (.iload_n 3, 1) := by decide +kernel
theorem dX1_itemsOfAll_36 : decode cX1_itemsOfAll 36 = .ok (.iaload, 1) := by decide +kernel
theorem dX1_itemsOfAll_37 : decode cX1_itemsOfAll 37 = .ok (.if_icmp .ge 29, 3) := by decide +kernel
theorem dX1_itemsOfAll_40 : decode cX1_itemsOfAll 40 = .ok (.iload_n 2, 1) := by decide +kernel
theorem dX1_itemsOfAll_41 : decode cX1_itemsOfAll 41 = .ok (.iconst 1, 1) := by decide +kernel
theorem dX1_itemsOfAll_42 : decode cX1_itemsOfAll 42 = .ok (.aload_n 0, 1) := by decide +kernel
theorem dX1_itemsOfAll_43 : decode cX1_itemsOfAll 43 = .ok (.getfield 28, 3) := by decide +kernel
theorem dX1_itemsOfAll_46 : decode cX1_itemsOfAll 46 = .ok (.getfield 74, 3) := by decide +kernel
theorem dX1_itemsOfAll_49 : decode cX1_itemsOfAll 49 = .ok (.iload_n 3, 1) := by decide +kernel
theorem dX1_itemsOfAll_50 : decode cX1_itemsOfAll 50 = .ok (.bipush 6, 2) := by decide +kernel
theorem dX1_itemsOfAll_52 : decode cX1_itemsOfAll 52 = .ok (.imul, 1) := by decide +kernel
theorem dX1_itemsOfAll_53 : decode cX1_itemsOfAll 53 = .ok (.iload 4, 2) := by decide +kernel
theorem dX1_itemsOfAll_55 : decode cX1_itemsOfAll 55 = .ok (.iadd, 1) := by decide +kernel
theorem dX1_itemsOfAll_56 : decode cX1_itemsOfAll 56 = .ok (.iaload, 1) := by decide +kernel
theorem dX1_itemsOfAll_57 : decode cX1_itemsOfAll 57 = .ok (.ishl, 1) := by decide +kernel
theorem dX1_itemsOfAll_58 : decode cX1_itemsOfAll 58 = .ok (.ior, 1) := by decide +kernel
theorem dX1_itemsOfAll_59 : decode cX1_itemsOfAll 59 = .ok (.istore_n 2, 1) := by decide +kernel
theorem dX1_itemsOfAll_60 : decode cX1_itemsOfAll 60 = .ok (.iinc 4 1, 3) := by decide +kernel
theorem dX1_itemsOfAll_63 : decode cX1_itemsOfAll 63 = .ok (.goto (-37), 3) := by decide +kernel
theorem dX1_itemsOfAll_66 : decode cX1_itemsOfAll 66 = .ok (.iinc 3 1, 3) := by decide +kernel
theorem dX1_itemsOfAll_69 : decode cX1_itemsOfAll 69 = .ok (.goto (-65), 3) := by decide +kernel
theorem dX1_itemsOfAll_72 : decode cX1_itemsOfAll 72 = .ok (.iload_n 2, 1) := by decide +kernel
theorem dX1_itemsOfAll_73 : decode cX1_itemsOfAll 73 = .ok (.ireturn, 1) := by decide +kernel
theorem dX1_canBeBatched_0 : decode cX1_canBeBatched 0 = .ok (.iconst 0, 1) := by decide +kernel
theorem dX1_canBeBatched_1 : decode cX1_canBeBatched 1 = .ok (.istore_n 2, 1) := by decide +kernel
theorem dX1_canBeBatched_2 : decode cX1_canBeBatched 2 = .ok (.iload_n 2, 1) := by decide +kernel
theorem dX1_canBeBatched_3 : decode cX1_canBeBatched 3 = .ok (.aload_n 0, 1) := by decide +kernel
theorem dX1_canBeBatched_4 : decode cX1_canBeBatched 4 = .ok (.getfield 28, 3) := by decide +kernel
theorem dX1_canBeBatched_7 : decode cX1_canBeBatched 7 = .ok (.getfield 46, 3) := by decide +kernel
theorem dX1_canBeBatched_10 : decode cX1_canBeBatched 10 = .ok (.if_icmp .ge 53, 3) := by decide +kernel
theorem dX1_canBeBatched_13 : decode cX1_canBeBatched 13 = .ok (.aload_n 0, 1) := by decide +kernel
theorem dX1_canBeBatched_14 : decode cX1_canBeBatched 14 = .ok (.getfield 28, 3) := by decide +kernel
theorem dX1_canBeBatched_17 : decode cX1_canBeBatched 17 = .ok (.getfield 84, 3) := by decide +kernel
theorem dX1_canBeBatched_20 : decode cX1_canBeBatched 20 = .ok (.iload_n 2, 1) := by decide +kernel
theorem dX1_canBeBatched_21 : decode cX1_canBeBatched 21 = .ok (.iaload, 1) := by decide +kernel
theorem dX1_canBeBatched_22 : decode cX1_canBeBatched 22 = .ok (.ifCond .ne 19, 3) := by decide +kernel
theorem dX1_canBeBatched_25 : decode cX1_canBeBatched 25 = .ok (.aload_n 0, 1) := by decide +kernel
theorem dX1_canBeBatched_26 : decode cX1_canBeBatched 26 = .ok (.getfield 28, 3) := by decide +kernel
theorem dX1_canBeBatched_29 : decode cX1_canBeBatched 29 = .ok (.getfield 64, 3) := by decide +kernel
theorem dX1_canBeBatched_32 : decode cX1_canBeBatched 32 = .ok (.iload_n 2, 1) := by decide +kernel
theorem dX1_canBeBatched_33 : decode cX1_canBeBatched 33 = .ok (.iaload, 1) := by decide +kernel
theorem dX1_canBeBatched_34 : decode cX1_canBeBatched 34 = .ok (.ifCond .le 7, 3) := by decide +kernel
theorem dX1_canBeBatched_37 : decode cX1_canBeBatched 37 = .ok (.iconst 1, 1) := by decide +kernel
theorem dX1_canBeBatched_38 : decode cX1_canBeBatched 38 = .ok (.goto 4, 3) := by decide +kernel
theorem dX1_canBeBatched_41 : decode cX1_canBeBatched 41 = .ok (.iconst 0, 1) := by decide +kernel
theorem dX1_canBeBatched_42 : decode cX1_canBeBatched 42 = .ok (.istore_n 3, 1) := by decide +kernel
theorem dX1_canBeBatched_43 : decode cX1_canBeBatched 43 = .ok (.iload_n 1, 1) := by decide +kernel
theorem dX1_canBeBatched_44 : decode cX1_canBeBatched 44 = .ok (.iload_n 2, 1) := by decide +kernel
theorem dX1_canBeBatched_45 : decode cX1_canBeBatched 45 = .ok (.ishr, 1) := by decide +kernel
theorem dX1_canBeBatched_46 : decode cX1_canBeBatched 46 = .ok (.iconst 1, 1) := by decide +kernel
theorem dX1_canBeBatched_47 : decode cX1_canBeBatched 47 = .ok (.iand, 1) := by decide +kernel
theorem dX1_canBeBatched_48 : decode cX1_canBeBatched 48 = .ok (.ifCond .eq 9, 3) := by decide +kernel
theorem dX1_canBeBatched_51 : decode cX1_canBeBatched 51 = .ok (.iload_n 3, 1) := by decide +kernel
theorem dX1_canBeBatched_52 : decode cX1_canBeBatched 52 = .ok (.ifCond .ne 5, 3) := by decide +kernel
theorem dX1_canBeBatched_55 : decode cX1_canBeBatched 55 = .ok (.iconst 0, 1) := by decide +kernel
theorem dX1_canBeBatched_56 : decode cX1_canBeBatched 56 = .ok (.ireturn, 1) := by decide +kernel
theorem dX1_canBeBatched_57 : decode cX1_canBeBatched 57 = .ok (.iinc 2 1, 3) := by decide +kernel
theorem dX1_canBeBatched_60 : decode cX1_canBeBatched 60 = .ok (.goto (-58), 3) := by decide +kernel
theorem dX1_canBeBatched_63 : decode cX1_canBeBatched 63 = .ok (.iconst 1, 1) := by decide +kernel
theorem dX1_canBeBatched_64 : decode cX1_canBeBatched 64 = .ok (.ireturn, 1) := by decide +kernel
theorem dX1_openBatch_0 : decode cX1_openBatch 0 = .ok (.aload_n 0, 1) := by decide +kernel
theorem dX1_openBatch_1 : decode cX1_openBatch 1 = .ok (.getfield 28, 3) := by decide +kernel
theorem dX1_openBatch_4 : decode cX1_openBatch 4 = .ok (.iload_n 1, 1) := by decide +kernel
theorem dX1_openBatch_5 : decode cX1_openBatch 5 = .ok (.iconst 1, 1) := by decide +kernel
theorem dX1_openBatch_6 : decode cX1_openBatch 6 = .ok (.invokevirtual 87, 3) := by decide +kernel
theorem dX1_openBatch_9 : decode cX1_openBatch 9 = .ok (.aload_n 0, 1) := by decide +kernel
theorem dX1_openBatch_10 : decode cX1_openBatch 10 = .ok (.getfield 35, 3) := by decide +kernel
theorem dX1_openBatch_13 : decode cX1_openBatch 13 = .ok (.iload_n 1, 1) := by decide +kernel
theorem dX1_openBatch_14 : decode cX1_openBatch 14 = .ok (.invokevirtual 91, 3) := by decide +kernel
theorem dX1_openBatch_17 : decode cX1_openBatch 17 = .ok (.ireturn, 1) := by decide +kernel
theorem dX1_earliestDue_0 : decode cX1_earliestDue 0 = .ok (.sipush 9999, 3) := by decide +kernel
theorem dX1_earliestDue_3 : decode cX1_earliestDue 3 = .ok (.istore_n 2, 1) := by decide +kernel
theorem dX1_earliestDue_4 : decode cX1_earliestDue 4 = .ok (.iconst 0, 1) := by decide +kernel
theorem dX1_earliestDue_5 : decode cX1_earliestDue 5 = .ok (.istore_n 3, 1) := by decide +kernel
theorem dX1_earliestDue_6 : decode cX1_earliestDue 6 = .ok (.iload_n 3, 1) := by decide +kernel
theorem dX1_earliestDue_7 : decode cX1_earliestDue 7 = .ok (.aload_n 0, 1) := by decide +kernel
theorem dX1_earliestDue_8 : decode cX1_earliestDue 8 = .ok (.getfield 28, 3) := by decide +kernel
theorem dX1_earliestDue_11 : decode cX1_earliestDue 11 = .ok (.getfield 46, 3) := by decide +kernel
theorem dX1_earliestDue_14 : decode cX1_earliestDue 14 = .ok (.if_icmp .ge 39, 3) := by decide +kernel
theorem dX1_earliestDue_17 : decode cX1_earliestDue 17 = .ok (.aload_n 0, 1) := by decide +kernel
theorem dX1_earliestDue_18 : decode cX1_earliestDue 18 = .ok (.getfield 35, 3) := by decide +kernel
theorem dX1_earliestDue_21 : decode cX1_earliestDue 21 = .ok (.getfield 94, 3) := by decide +kernel
theorem dX1_earliestDue_24 : decode cX1_earliestDue 24 = .ok (.iload_n 1, 1) := by decide +kernel
theorem dX1_earliestDue_25 : decode cX1_earliestDue 25 = .ok (.iaload, 1) := by decide +kernel
theorem dX1_earliestDue_26 : decode cX1_earliestDue 26 = .ok (.iload_n 3, 1) := by decide +kernel
theorem dX1_earliestDue_27 : decode cX1_earliestDue 27 = .ok (.ishr, 1) := by decide +kernel
theorem dX1_earliestDue_28 : decode cX1_earliestDue 28 = .ok (.iconst 1, 1) := by decide +kernel
theorem dX1_earliestDue_29 : decode cX1_earliestDue 29 = .ok (.iand, 1) := by decide +kernel
theorem dX1_earliestDue_30 : decode cX1_earliestDue 30 = .ok (.ifCond .eq 17, 3) := by decide +kernel
theorem dX1_earliestDue_33 : decode cX1_earliestDue 33 = .ok (.iload_n 2, 1) := by decide +kernel
theorem dX1_earliestDue_34 : decode cX1_earliestDue 34 = .ok (.aload_n 0, 1) := by decide +kernel
theorem dX1_earliestDue_35 : decode cX1_earliestDue 35 = .ok (.getfield 28, 3) := by decide +kernel
theorem dX1_earliestDue_38 : decode cX1_earliestDue 38 = .ok (.getfield 97, 3) := by decide +kernel
theorem dX1_earliestDue_41 : decode cX1_earliestDue 41 = .ok (.iload_n 3, 1) := by decide +kernel
theorem dX1_earliestDue_42 : decode cX1_earliestDue 42 = .ok (.iaload, 1) := by decide +kernel
theorem dX1_earliestDue_43 : decode cX1_earliestDue 43 = .ok (.invokestatic 100, 3) := by decide +kernel
theorem dX1_earliestDue_46 : decode cX1_earliestDue 46 = .ok (.istore_n 2, 1) := by decide +kernel
theorem dX1_earliestDue_47 : decode cX1_earliestDue 47 = .ok (.iinc 3 1, 3) := by decide +kernel
theorem dX1_earliestDue_50 : decode cX1_earliestDue 50 = .ok (.goto (-44), 3) := by decide +kernel
theorem dX1_earliestDue_53 : decode cX1_earliestDue 53 = .ok (.iload_n 2, 1) := by decide +kernel
theorem dX1_earliestDue_54 : decode cX1_earliestDue 54 = .ok (.ireturn, 1) := by decide +kernel
theorem dX1_tardinessOf_0 : decode cX1_tardinessOf 0 = .ok (.iconst 0, 1) := by decide +kernel
theorem dX1_tardinessOf_1 : decode cX1_tardinessOf 1 = .ok (.istore_n 3, 1) := by decide +kernel
theorem dX1_tardinessOf_2 : decode cX1_tardinessOf 2 = .ok (.iconst 0, 1) := by decide +kernel
theorem dX1_tardinessOf_3 : decode cX1_tardinessOf 3 = .ok (.istore 4, 2) := by decide +kernel
theorem dX1_tardinessOf_5 : decode cX1_tardinessOf 5 = .ok (.iload 4, 2) := by decide +kernel
theorem dX1_tardinessOf_7 : decode cX1_tardinessOf 7 = .ok (.aload_n 0, 1) := by decide +kernel
theorem dX1_tardinessOf_8 : decode cX1_tardinessOf 8 = .ok (.getfield 28, 3) := by decide +kernel
theorem dX1_tardinessOf_11 : decode cX1_tardinessOf 11 = .ok (.getfield 46, 3) := by decide +kernel
theorem dX1_tardinessOf_14 : decode cX1_tardinessOf 14 = .ok (.if_icmp .ge 45, 3) := by decide +kernel
theorem dX1_tardinessOf_17 : decode cX1_tardinessOf 17 = .ok (.aload_n 0, 1) := by decide +kernel
theorem dX1_tardinessOf_18 : decode cX1_tardinessOf 18 = .ok (.getfield 35, 3) := by decide +kernel
theorem dX1_tardinessOf_21 : decode cX1_tardinessOf 21 = .ok (.getfield 94, 3) := by decide +kernel
theorem dX1_tardinessOf_24 : decode cX1_tardinessOf 24 = .ok (.iload_n 1, 1) := by decide +kernel
theorem dX1_tardinessOf_25 : decode cX1_tardinessOf 25 = .ok (.iaload, 1) := by decide +kernel
theorem dX1_tardinessOf_26 : decode cX1_tardinessOf 26 = .ok (.iload 4, 2) := by decide +kernel
theorem dX1_tardinessOf_28 : decode cX1_tardinessOf 28 = .ok (.ishr, 1) := by decide +kernel
theorem dX1_tardinessOf_29 : decode cX1_tardinessOf 29 = .ok (.iconst 1, 1) := by decide +kernel
theorem dX1_tardinessOf_30 : decode cX1_tardinessOf 30 = .ok (.iand, 1) := by decide +kernel
theorem dX1_tardinessOf_31 : decode cX1_tardinessOf 31 = .ok (.ifCond .eq 22, 3) := by decide +kernel
theorem dX1_tardinessOf_34 : decode cX1_tardinessOf 34 = .ok (.iload_n 3, 1) := by decide +kernel
theorem dX1_tardinessOf_35 : decode cX1_tardinessOf 35 = .ok (.iconst 0, 1) := by decide +kernel
theorem dX1_tardinessOf_36 : decode cX1_tardinessOf 36 = .ok (.iload_n 2, 1) := by decide +kernel
theorem dX1_tardinessOf_37 : decode cX1_tardinessOf 37 = .ok (.aload_n 0, 1) := by decide +kernel
theorem dX1_tardinessOf_38 : decode cX1_tardinessOf 38 = .ok (.getfield 28, 3) := by decide +kernel
theorem dX1_tardinessOf_41 : decode cX1_tardinessOf 41 = .ok (.getfield 97, 3) := by decide +kernel
theorem dX1_tardinessOf_44 : decode cX1_tardinessOf 44 = .ok (.iload 4, 2) := by decide +kernel
theorem dX1_tardinessOf_46 : decode cX1_tardinessOf 46 = .ok (.iaload, 1) := by decide +kernel
theorem dX1_tardinessOf_47 : decode cX1_tardinessOf 47 = .ok (.isub, 1) := by decide +kernel
theorem dX1_tardinessOf_48 : decode cX1_tardinessOf 48 = .ok (.invokestatic 106, 3) := by decide +kernel
theorem dX1_tardinessOf_51 : decode cX1_tardinessOf 51 = .ok (.iadd, 1) := by decide +kernel
theorem dX1_tardinessOf_52 : decode cX1_tardinessOf 52 = .ok (.istore_n 3, 1) := by decide +kernel
theorem dX1_tardinessOf_53 : decode cX1_tardinessOf 53 = .ok (.iinc 4 1, 3) := by decide +kernel
theorem dX1_tardinessOf_56 : decode cX1_tardinessOf 56 = .ok (.goto (-51), 3) := by decide +kernel
theorem dX1_tardinessOf_59 : decode cX1_tardinessOf 59 = .ok (.iload_n 3, 1) := by decide +kernel
theorem dX1_tardinessOf_60 : decode cX1_tardinessOf 60 = .ok (.ireturn, 1) := by decide +kernel
theorem dX1_pickFirstBatch_0 : decode cX1_pickFirstBatch 0 = .ok (.aload_n 0, 1) := by decide +kernel
theorem dX1_pickFirstBatch_1 : decode cX1_pickFirstBatch 1 = .ok (.getfield 35, 3) := by decide +kernel
theorem dX1_pickFirstBatch_4 : decode cX1_pickFirstBatch 4 = .ok (.getfield 94, 3) := by decide +kernel
theorem dX1_pickFirstBatch_7 : decode cX1_pickFirstBatch 7 = .ok (.iconst 0, 1) := by decide +kernel
theorem dX1_pickFirstBatch_8 : decode cX1_pickFirstBatch 8 = .ok (.iaload, 1) := by decide +kernel
theorem dX1_pickFirstBatch_9 : decode cX1_pickFirstBatch 9 = .ok (.istore_n 1, 1) := by decide +kernel
theorem dX1_pickFirstBatch_10 : decode cX1_pickFirstBatch 10 = .ok (.iconst 0, 1) := by decide +kernel
theorem dX1_pickFirstBatch_11 : decode cX1_pickFirstBatch 11 = .ok (.istore_n 2, 1) := by decide +kernel
theorem dX1_pickFirstBatch_12 : decode cX1_pickFirstBatch 12 = .ok (.iconst 0, 1) := by decide +kernel
theorem dX1_pickFirstBatch_13 : decode cX1_pickFirstBatch 13 = .ok (.istore_n 3, 1) := by decide +kernel
theorem dX1_pickFirstBatch_14 : decode cX1_pickFirstBatch 14 = .ok (.iload_n 3, 1) := by decide +kernel
theorem dX1_pickFirstBatch_15 : decode cX1_pickFirstBatch 15 = .ok (.aload_n 0, 1) := by decide +kernel
theorem dX1_pickFirstBatch_16 : decode cX1_pickFirstBatch 16 = .ok (.getfield 28, 3) := by decide +kernel
theorem dX1_pickFirstBatch_19 : decode cX1_pickFirstBatch 19 = .ok (.getfield 46, 3) := by decide +kernel
theorem dX1_pickFirstBatch_22 : decode cX1_pickFirstBatch 22 = .ok (.if_icmp .ge 25, 3) := by decide +kernel
theorem dX1_pickFirstBatch_25 : decode cX1_pickFirstBatch 25 = .ok (.iload_n 1, 1) := by decide +kernel
theorem dX1_pickFirstBatch_26 : decode cX1_pickFirstBatch 26 = .ok (.iload_n 3, 1) := by decide +kernel
theorem dX1_pickFirstBatch_27 : decode cX1_pickFirstBatch 27 = .ok (.ishr, 1) := by decide +kernel
theorem dX1_pickFirstBatch_28 : decode cX1_pickFirstBatch 28 = .ok (.iconst 1, 1) := by decide +kernel
theorem dX1_pickFirstBatch_29 : decode cX1_pickFirstBatch 29 = .ok (.iand, 1) := by decide +kernel
theorem dX1_pickFirstBatch_30 : decode cX1_pickFirstBatch 30 = .ok (.ifCond .eq 11, 3) := by decide +kernel
theorem dX1_pickFirstBatch_33 : decode cX1_pickFirstBatch 33 = .ok (.iload_n 2, 1) := by decide +kernel
theorem dX1_pickFirstBatch_34 : decode cX1_pickFirstBatch 34 = .ok (.aload_n 0, 1) := by decide +kernel
theorem dX1_pickFirstBatch_35 : decode cX1_pickFirstBatch 35 = .ok (.iload_n 3, 1) := by decide +kernel
theorem dX1_pickFirstBatch_36 : decode cX1_pickFirstBatch 36 = .ok (.invokevirtual 109, 3) := by decide +kernel
theorem dX1_pickFirstBatch_39 : decode cX1_pickFirstBatch 39 = .ok (.iadd, 1) := by decide +kernel
theorem dX1_pickFirstBatch_40 : decode cX1_pickFirstBatch 40 = .ok (.istore_n 2, 1) := by decide +kernel
theorem dX1_pickFirstBatch_41 : decode cX1_pickFirstBatch 41 = .ok (.iinc 3 1, 3) := by decide +kernel
theorem dX1_pickFirstBatch_44 : decode cX1_pickFirstBatch 44 = .ok (.goto (-30), 3) := by decide +kernel
theorem dX1_pickFirstBatch_47 : decode cX1_pickFirstBatch 47 = .ok (.aload_n 0, 1) := by decide +kernel
theorem dX1_pickFirstBatch_48 : decode cX1_pickFirstBatch 48 = .ok (.getfield 28, 3) := by decide +kernel
theorem dX1_pickFirstBatch_51 : decode cX1_pickFirstBatch 51 = .ok (.iload_n 1, 1) := by decide +kernel
theorem dX1_pickFirstBatch_52 : decode cX1_pickFirstBatch 52 = .ok (.iconst 2, 1) := by decide +kernel
theorem dX1_pickFirstBatch_53 : decode cX1_pickFirstBatch 53 = .ok (.invokevirtual 87, 3) := by decide +kernel
theorem dX1_pickFirstBatch_56 : decode cX1_pickFirstBatch 56 = .ok (.aload_n 0, 1) := by decide +kernel
theorem dX1_pickFirstBatch_57 : decode cX1_pickFirstBatch 57 = .ok (.getfield 35, 3) := by decide +kernel
theorem dX1_pickFirstBatch_60 : decode cX1_pickFirstBatch 60 = .ok (.iconst 0, 1) := by decide +kernel
theorem dX1_pickFirstBatch_61 : decode cX1_pickFirstBatch 61 = .ok (.invokevirtual 112, 3) := by decide +kernel
theorem dX1_pickFirstBatch_64 : decode cX1_pickFirstBatch 64 = .ok (.iload_n 2, 1) := by decide +kernel
theorem dX1_pickFirstBatch_65 : decode cX1_pickFirstBatch 65 = .ok (.ireturn, 1) := by decide +kernel
theorem dX1_serve_0 : decode cX1_serve 0 = .ok (.iconst 0, 1) := by decide +kernel
theorem dX1_serve_1 : decode cX1_serve 1 = .ok (.istore_n 2, 1) := by decide +kernel
theorem dX1_serve_2 : decode cX1_serve 2 = .ok (.iconst 0, 1) := by decide +kernel
theorem dX1_serve_3 : decode cX1_serve 3 = .ok (.istore_n 3, 1) := by decide +kernel
theorem dX1_serve_4 : decode cX1_serve 4 = .ok (.iload_n 3, 1) := by decide +kernel
theorem dX1_serve_5 : decode cX1_serve 5 = .ok (.aload_n 0, 1) := by decide +kernel
theorem dX1_serve_6 : decode cX1_serve 6 = .ok (.getfield 28, 3) := by decide +kernel
theorem dX1_serve_9 : decode cX1_serve 9 = .ok (.getfield 64, 3) := by decide +kernel
theorem dX1_serve_12 : decode cX1_serve 12 = .ok (.iload_n 1, 1) := by decide +kernel
theorem dX1_serve_13 : decode cX1_serve 13 = .ok (.iaload, 1) := by decide +kernel
theorem dX1_serve_14 : decode cX1_serve 14 = .ok (.if_icmp .ge 86, 3) := by decide +kernel
theorem dX1_serve_17 : decode cX1_serve 17 = .ok (.iload_n 1, 1) := by decide +kernel
theorem dX1_serve_18 : decode cX1_serve 18 = .ok (.bipush 6, 2) := by decide +kernel
theorem dX1_serve_20 : decode cX1_serve 20 = .ok (.imul, 1) := by decide +kernel
theorem dX1_serve_21 : decode cX1_serve 21 = .ok (.iload_n 3, 1) := by decide +kernel
theorem dX1_serve_22 : decode cX1_serve 22 = .ok (.iadd, 1) := by decide +kernel
theorem dX1_serve_23 : decode cX1_serve 23 = .ok (.istore 4, 2) := by decide +kernel
theorem dX1_serve_25 : decode cX1_serve 25 = .ok (.aload_n 0, 1) := by decide +kernel
theorem dX1_serve_26 : decode cX1_serve 26 = .ok (.getfield 28, 3) := by decide +kernel
theorem dX1_serve_29 : decode cX1_serve 29 = .ok (.getfield 74, 3) := by decide +kernel
theorem dX1_serve_32 : decode cX1_serve 32 = .ok (.iload 4, 2) := by decide +kernel
theorem dX1_serve_34 : decode cX1_serve 34 = .ok (.iaload, 1) := by decide +kernel
theorem dX1_serve_35 : decode cX1_serve 35 = .ok (.istore 5, 2) := by decide +kernel
theorem dX1_serve_37 : decode cX1_serve 37 = .ok (.aload_n 0, 1) := by decide +kernel
theorem dX1_serve_38 : decode cX1_serve 38 = .ok (.getfield 28, 3) := by decide +kernel
theorem dX1_serve_41 : decode cX1_serve 41 = .ok (.getfield 68, 3) := by decide +kernel
theorem dX1_serve_44 : decode cX1_serve 44 = .ok (.iload 4, 2) := by decide +kernel
theorem dX1_serve_46 : decode cX1_serve 46 = .ok (.iaload, 1) := by decide +kernel
theorem dX1_serve_47 : decode cX1_serve 47 = .ok (.aload_n 0, 1) := by decide +kernel
theorem dX1_serve_48 : decode cX1_serve 48 = .ok (.getfield 21, 3) := by decide +kernel
theorem dX1_serve_51 : decode cX1_serve 51 = .ok (.getfield 116, 3) := by decide +kernel
theorem dX1_serve_54 : decode cX1_serve 54 = .ok (.iload 5, 2) := by decide +kernel
theorem dX1_serve_56 : decode cX1_serve 56 = .ok (.iaload, 1) := by decide +kernel
theorem dX1_serve_57 : decode cX1_serve 57 = .ok (.invokestatic 100, 3) := by decide +kernel
theorem dX1_serve_60 : decode cX1_serve 60 = .ok (.istore 6, 2) := by decide +kernel
theorem dX1_serve_62 : decode cX1_serve 62 = .ok (.aload_n 0, 1) := by decide +kernel
theorem dX1_serve_63 : decode cX1_serve 63 = .ok (.getfield 21, 3) := by decide +kernel
theorem dX1_serve_66 : decode cX1_serve 66 = .ok (.getfield 116, 3) := by decide +kernel
theorem dX1_serve_69 : decode cX1_serve 69 = .ok (.iload 5, 2) := by decide +kernel
theorem dX1_serve_71 : decode cX1_serve 71 = .ok (.dup2, 1) := by decide +kernel
theorem dX1_serve_72 : decode cX1_serve 72 = .ok (.iaload, 1) := by decide +kernel
theorem dX1_serve_73 : decode cX1_serve 73 = .ok (.iload 6, 2) := by decide +kernel
theorem dX1_serve_75 : decode cX1_serve 75 = .ok (.isub, 1) := by decide +kernel
theorem dX1_serve_76 : decode cX1_serve 76 = .ok (.iastore, 1) := by decide +kernel
theorem dX1_serve_77 : decode cX1_serve 77 = .ok (.aload_n 0, 1) := by decide +kernel
theorem dX1_serve_78 : decode cX1_serve 78 = .ok (.getfield 28, 3) := by decide +kernel
theorem dX1_serve_81 : decode cX1_serve 81 = .ok (.getfield 119, 3) := by decide +kernel
theorem dX1_serve_84 : decode cX1_serve 84 = .ok (.iload 4, 2) := by decide +kernel
theorem dX1_serve_86 : decode cX1_serve 86 = .ok (.iload 6, 2) := by decide +kernel
theorem dX1_serve_88 : decode cX1_serve 88 = .ok (.iastore, 1) := by decide +kernel
theorem dX1_serve_89 : decode cX1_serve 89 = .ok (.iload_n 2, 1) := by decide +kernel
theorem dX1_serve_90 : decode cX1_serve 90 = .ok (.iload 6, 2) := by decide +kernel
theorem dX1_serve_92 : decode cX1_serve 92 = .ok (.iadd, 1) := by decide +kernel
theorem dX1_serve_93 : decode cX1_serve 93 = .ok (.istore_n 2, 1) := by decide +kernel
theorem dX1_serve_94 : decode cX1_serve 94 = .ok (.iinc 3 1, 3) := by decide +kernel
theorem dX1_serve_97 : decode cX1_serve 97 = .ok (.goto (-93), 3) := by decide +kernel
theorem dX1_serve_100 : decode cX1_serve 100 = .ok (.iload_n 2, 1) := by decide +kernel
theorem dX1_serve_101 : decode cX1_serve 101 = .ok (.ireturn, 1) := by decide +kernel
theorem dX2_init_0 : decode cX2_init 0 = .ok (.aload_n 0, 1) := by decide +kernel
theorem dX2_init_1 : decode cX2_init 1 = .ok (.invokespecial 3, 3) := by decide +kernel
theorem dX2_init_4 : decode cX2_init 4 = .ok (.aload_n 0, 1) := by decide +kernel
theorem dX2_init_5 : decode cX2_init 5 = .ok (.bipush 24, 2) := by decide +kernel
theorem dX2_init_7 : decode cX2_init 7 = .ok (.newarray .int, 2) := by decide +kernel
theorem dX2_init_9 : decode cX2_init 9 = .ok (.putfield 9, 3) := by decide +kernel
theorem dX2_init_12 : decode cX2_init 12 = .ok (.aload_n 0, 1) := by decide +kernel
theorem dX2_init_13 : decode cX2_init 13 = .ok (.bipush 24, 2) := by decide +kernel
theorem dX2_init_15 : decode cX2_init 15 = .ok (.newarray .int, 2) := by decide +kernel
theorem dX2_init_17 : decode cX2_init 17 = .ok (.putfield 15, 3) := by decide +kernel
theorem dX2_init_20 : decode cX2_init 20 = .ok (.aload_n 0, 1) := by decide +kernel
theorem dX2_init_21 : decode cX2_init 21 = .ok (.bipush 24, 2) := by decide +kernel
theorem dX2_init_23 : decode cX2_init 23 = .ok (.newarray .int, 2) := by decide +kernel
theorem dX2_init_25 : decode cX2_init 25 = .ok (.putfield 18, 3) := by decide +kernel
theorem dX2_init_28 : decode cX2_init 28 = .ok (.aload_n 0, 1) := by decide +kernel
theorem dX2_init_29 : decode cX2_init 29 = .ok (.bipush 24, 2) := by decide +kernel
theorem dX2_init_31 : decode cX2_init 31 = .ok (.newarray .int, 2) := by decide +kernel
theorem dX2_init_33 : decode cX2_init 33 = .ok (.putfield 21, 3) := by decide +kernel
theorem dX2_init_36 : decode cX2_init 36 = .ok (.return_, 1) := by decide +kernel
theorem dX2_append_0 : decode cX2_append 0 = .ok (.aload_n 0, 1) := by decide +kernel
theorem dX2_append_1 : decode cX2_append 1 = .ok (.getfield 24, 3) := by decide +kernel
theorem dX2_append_4 : decode cX2_append 4 = .ok (.istore 5, 2) := by decide +kernel
theorem dX2_append_6 : decode cX2_append 6 = .ok (.aload_n 0, 1) := by decide +kernel
theorem dX2_append_7 : decode cX2_append 7 = .ok (.getfield 9, 3) := by decide +kernel
theorem dX2_append_10 : decode cX2_append 10 = .ok (.iload 5, 2) := by decide +kernel
theorem dX2_append_12 : decode cX2_append 12 = .ok (.iload_n 1, 1) := by decide +kernel
theorem dX2_append_13 : decode cX2_append 13 = .ok (.iastore, 1) := by decide +kernel
theorem dX2_append_14 : decode cX2_append 14 = .ok (.aload_n 0, 1) := by decide +kernel
theorem dX2_append_15 : decode cX2_append 15 = .ok (.getfield 15, 3) := by decide +kernel
theorem dX2_append_18 : decode cX2_append 18 = .ok (.iload 5, 2) := by decide +kernel
theorem dX2_append_20 : decode cX2_append 20 = .ok (.iload_n 2, 1) := by decide +kernel
theorem dX2_append_21 : decode cX2_append 21 = .ok (.iastore, 1) := by decide +kernel
theorem dX2_append_22 : decode cX2_append 22 = .ok (.aload_n 0, 1) := by decide +kernel
theorem dX2_append_23 : decode cX2_append 23 = .ok (.getfield 18, 3) := by decide +kernel
theorem dX2_append_26 : decode cX2_append 26 = .ok (.iload 5, 2) := by decide +kernel
theorem dX2_append_28 : decode cX2_append 28 = .ok (.iload_n 3, 1) := by decide +kernel
theorem dX2_append_29 : decode cX2_append 29 = .ok (.iastore, 1) := by decide +kernel
theorem dX2_append_30 : decode cX2_append 30 = .ok (.aload_n 0, 1) := by decide +kernel
theorem dX2_append_31 : decode cX2_append 31 = .ok (.getfield 21, 3) := by decide +kernel
theorem dX2_append_34 : decode cX2_append 34 = .ok (.iload 5, 2) := by decide +kernel
theorem dX2_append_36 : decode cX2_append 36 = .ok (.iload 4, 2) := by decide +kernel
theorem dX2_append_38 : decode cX2_append 38 = .ok (.iastore, 1) := by decide +kernel
theorem dX2_append_39 : decode cX2_append 39 = .ok (.aload_n 0, 1) := by decide +kernel
theorem dX2_append_40 : decode cX2_append 40 = .ok (.dup, 1) := by decide +kernel
theorem dX2_append_41 : decode cX2_append 41 = .ok (.getfield 24, 3) := by decide +kernel
theorem dX2_append_44 : decode cX2_append 44 = .ok (.iconst 1, 1) := by decide +kernel
theorem dX2_append_45 : decode cX2_append 45 = .ok (.iadd, 1) := by decide +kernel
theorem dX2_append_46 : decode cX2_append 46 = .ok (.putfield 24, 3) := by decide +kernel
theorem dX2_append_49 : decode cX2_append 49 = .ok (.iload 5, 2) := by decide +kernel
theorem dX2_append_51 : decode cX2_append 51 = .ok (.ireturn, 1) := by decide +kernel
theorem dX2_copyFrom_0 : decode cX2_copyFrom 0 = .ok (.aload_n 0, 1) := by decide +kernel
theorem dX2_copyFrom_1 : decode cX2_copyFrom 1 = .ok (.aload_n 1, 1) := by decide +kernel
theorem dX2_copyFrom_2 : decode cX2_copyFrom 2 = .ok (.getfield 24, 3) := by decide +kernel
theorem dX2_copyFrom_5 : decode cX2_copyFrom 5 = .ok (.putfield 24, 3) := by decide +kernel
theorem dX2_copyFrom_8 : decode cX2_copyFrom 8 = .ok (.aload_n 1, 1) := by decide +kernel
theorem dX2_copyFrom_9 : decode cX2_copyFrom 9 = .ok (.getfield 9, 3) := by decide +kernel
theorem dX2_copyFrom_12 : decode cX2_copyFrom 12 = .ok (.iconst 0, 1) := by decide +kernel
theorem dX2_copyFrom_13 : decode cX2_copyFrom 13 = .ok (.aload_n 0, 1) := by decide +kernel
theorem dX2_copyFrom_14 : decode cX2_copyFrom 14 = .ok (.getfield 9, 3) := by decide +kernel
theorem dX2_copyFrom_17 : decode cX2_copyFrom 17 = .ok (.iconst 0, 1) := by decide +kernel
theorem dX2_copyFrom_18 : decode cX2_copyFrom 18 = .ok (.bipush 24, 2) := by decide +kernel
theorem dX2_copyFrom_20 : decode cX2_copyFrom 20 = .ok (.invokestatic 28, 3) := by decide +kernel
theorem dX2_copyFrom_23 : decode cX2_copyFrom 23 = .ok (.aload_n 1, 1) := by decide +kernel
theorem dX2_copyFrom_24 : decode cX2_copyFrom 24 = .ok (.getfield 15, 3) := by decide +kernel
theorem dX2_copyFrom_27 : decode cX2_copyFrom 27 = .ok (.iconst 0, 1) := by decide +kernel
theorem dX2_copyFrom_28 : decode cX2_copyFrom 28 = .ok (.aload_n 0, 1) := by decide +kernel
theorem dX2_copyFrom_29 : decode cX2_copyFrom 29 = .ok (.getfield 15, 3) := by decide +kernel
theorem dX2_copyFrom_32 : decode cX2_copyFrom 32 = .ok (.iconst 0, 1) := by decide +kernel
theorem dX2_copyFrom_33 : decode cX2_copyFrom 33 = .ok (.bipush 24, 2) := by decide +kernel
theorem dX2_copyFrom_35 : decode cX2_copyFrom 35 = .ok (.invokestatic 28, 3) := by decide +kernel
theorem dX2_copyFrom_38 : decode cX2_copyFrom 38 = .ok (.aload_n 1, 1) := by decide +kernel
theorem dX2_copyFrom_39 : decode cX2_copyFrom 39 = .ok (.getfield 18, 3) := by decide +kernel
theorem dX2_copyFrom_42 : decode cX2_copyFrom 42 = .ok (.iconst 0, 1) := by decide +kernel
theorem dX2_copyFrom_43 : decode cX2_copyFrom 43 = .ok (.aload_n 0, 1) := by decide +kernel
theorem dX2_copyFrom_44 : decode cX2_copyFrom 44 = .ok (.getfield 18, 3) := by decide +kernel
theorem dX2_copyFrom_47 : decode cX2_copyFrom 47 = .ok (.iconst 0, 1) := by decide +kernel
theorem dX2_copyFrom_48 : decode cX2_copyFrom 48 = .ok (.bipush 24, 2) := by decide +kernel
theorem dX2_copyFrom_50 : decode cX2_copyFrom 50 = .ok (.invokestatic 28, 3) := by decide +kernel
theorem dX2_copyFrom_53 : decode cX2_copyFrom 53 = .ok (.aload_n 1, 1) := by decide +kernel
theorem dX2_copyFrom_54 : decode cX2_copyFrom 54 = .ok (.getfield 21, 3) := by decide +kernel
theorem dX2_copyFrom_57 : decode cX2_copyFrom 57 = .ok (.iconst 0, 1) := by decide +kernel
theorem dX2_copyFrom_58 : decode cX2_copyFrom 58 = .ok (.aload_n 0, 1) := by decide +kernel
theorem dX2_copyFrom_59 : decode cX2_copyFrom 59 = .ok (.getfield 21, 3) := by decide +kernel
theorem dX2_copyFrom_62 : decode cX2_copyFrom 62 = .ok (.iconst 0, 1) := by decide +kernel
theorem dX2_copyFrom_63 : decode cX2_copyFrom 63 = .ok (.bipush 24, 2) := by decide +kernel
theorem dX2_copyFrom_65 : decode cX2_copyFrom 65 = .ok (.invokestatic 28, 3) := by decide +kernel
theorem dX2_copyFrom_68 : decode cX2_copyFrom 68 = .ok (.return_, 1) := by decide +kernel
theorem dX3_init_0 : decode cX3_init 0 = .ok (.aload_n 0, 1) := by decide +kernel
theorem dX3_init_1 : decode cX3_init 1 = .ok (.invokespecial 3, 3) := by decide +kernel
theorem dX3_init_4 : decode cX3_init 4 = .ok (.aload_n 0, 1) := by decide +kernel
theorem dX3_init_5 : decode cX3_init 5 = .ok (.iconst 3, 1) := by decide +kernel
theorem dX3_init_6 : decode cX3_init 6 = .ok (.newarray .int, 2) := by decide +kernel
theorem dX3_init_8 : decode cX3_init 8 = .ok (.putfield 9, 3) := by decide +kernel
theorem dX3_init_11 : decode cX3_init 11 = .ok (.aload_n 0, 1) := by decide +kernel
theorem dX3_init_12 : decode cX3_init 12 = .ok (.iconst 2, 1) := by decide +kernel
theorem dX3_init_13 : decode cX3_init 13 = .ok (.newarray .int, 2) := by decide +kernel
theorem dX3_init_15 : decode cX3_init 15 = .ok (.putfield 15, 3) := by decide +kernel
theorem dX3_init_18 : decode cX3_init 18 = .ok (.return_, 1) := by decide +kernel
theorem dX3_reset_0 : decode cX3_reset 0 = .ok (.aload_n 0, 1) := by decide +kernel
theorem dX3_reset_1 : decode cX3_reset 1 = .ok (.iconst 4, 1) := by decide +kernel
theorem dX3_reset_2 : decode cX3_reset 2 = .ok (.bipush 10, 2) := by decide +kernel
theorem dX3_reset_4 : decode cX3_reset 4 = .ok (.iconst 2, 1) := by decide +kernel
theorem dX3_reset_5 : decode cX3_reset 5 = .ok (.invokevirtual 18, 3) := by decide +kernel
theorem dX3_reset_8 : decode cX3_reset 8 = .ok (.aload_n 0, 1) := by decide +kernel
theorem dX3_reset_9 : decode cX3_reset 9 = .ok (.iconst 0, 1) := by decide +kernel
theorem dX3_reset_10 : decode cX3_reset 10 = .ok (.putfield 22, 3) := by decide +kernel
theorem dX3_reset_13 : decode cX3_reset 13 = .ok (.aload_n 0, 1) := by decide +kernel
theorem dX3_reset_14 : decode cX3_reset 14 = .ok (.iconst 0, 1) := by decide +kernel
theorem dX3_reset_15 : decode cX3_reset 15 = .ok (.putfield 26, 3) := by decide +kernel
theorem dX3_reset_18 : decode cX3_reset 18 = .ok (.aload_n 0, 1) := by decide +kernel
theorem dX3_reset_19 : decode cX3_reset 19 = .ok (.iconst 1, 1) := by decide +kernel
theorem dX3_reset_20 : decode cX3_reset 20 = .ok (.putfield 29, 3) := by decide +kernel
theorem dX3_reset_23 : decode cX3_reset 23 = .ok (.aload_n 0, 1) := by decide +kernel
theorem dX3_reset_24 : decode cX3_reset 24 = .ok (.getfield 15, 3) := by decide +kernel
theorem dX3_reset_27 : decode cX3_reset 27 = .ok (.iconst 0, 1) := by decide +kernel
theorem dX3_reset_28 : decode cX3_reset 28 = .ok (.iconst 1, 1) := by decide +kernel
theorem dX3_reset_29 : decode cX3_reset 29 = .ok (.iastore, 1) := by decide +kernel
theorem dX3_reset_30 : decode cX3_reset 30 = .ok (.aload_n 0, 1) := by decide +kernel
theorem dX3_reset_31 : decode cX3_reset 31 = .ok (.getfield 15, 3) := by decide +kernel
theorem dX3_reset_34 : decode cX3_reset 34 = .ok (.iconst 1, 1) := by decide +kernel
theorem dX3_reset_35 : decode cX3_reset 35 = .ok (.iconst 1, 1) := by decide +kernel
theorem dX3_reset_36 : decode cX3_reset 36 = .ok (.iastore, 1) := by decide +kernel
theorem dX3_reset_37 : decode cX3_reset 37 = .ok (.return_, 1) := by decide +kernel
theorem dX3_build_0 : decode cX3_build 0 = .ok (.aload_n 0, 1) := by decide +kernel
theorem dX3_build_1 : decode cX3_build 1 = .ok (.iload_n 1, 1) := by decide +kernel
theorem dX3_build_2 : decode cX3_build 2 = .ok (.putfield 32, 3) := by decide +kernel
theorem dX3_build_5 : decode cX3_build 5 = .ok (.aload_n 0, 1) := by decide +kernel
theorem dX3_build_6 : decode cX3_build 6 = .ok (.iload_n 2, 1) := by decide +kernel
theorem dX3_build_7 : decode cX3_build 7 = .ok (.putfield 35, 3) := by decide +kernel
theorem dX3_build_10 : decode cX3_build 10 = .ok (.aload_n 0, 1) := by decide +kernel
theorem dX3_build_11 : decode cX3_build 11 = .ok (.iload_n 3, 1) := by decide +kernel
theorem dX3_build_12 : decode cX3_build 12 = .ok (.putfield 38, 3) := by decide +kernel
theorem dX3_build_15 : decode cX3_build 15 = .ok (.aload_n 0, 1) := by decide +kernel
theorem dX3_build_16 : decode cX3_build 16 = .ok (.iconst (-1), 1) := by decide +kernel
theorem dX3_build_17 : decode cX3_build 17 = .ok (.iconst (-1), 1) := by decide +kernel
theorem dX3_build_18 : decode cX3_build 18 = .ok (.invokevirtual 41, 3) := by decide +kernel
theorem dX3_build_21 : decode cX3_build 21 = .ok (.return_, 1) := by decide +kernel
theorem dX3_divide_0 : decode cX3_divide 0 = .ok (.aload_n 0, 1) := by decide +kernel
theorem dX3_divide_1 : decode cX3_divide 1 = .ok (.iload_n 1, 1) := by decide +kernel
theorem dX3_divide_2 : decode cX3_divide 2 = .ok (.iconst (-1), 1) := by decide +kernel
theorem dX3_divide_3 : decode cX3_divide 3 = .ok (.if_icmp .ne 7, 3) := by decide +kernel
theorem dX3_divide_6 : decode cX3_divide 6 = .ok (.iconst 1, 1) := by decide +kernel
theorem dX3_divide_7 : decode cX3_divide 7 = .ok (.goto 13, 3) := by decide +kernel
theorem dX3_divide_10 : decode cX3_divide 10 = .ok (.iload_n 2, 1) := by decide +kernel
theorem dX3_divide_11 : decode cX3_divide 11 = .ok (.iconst (-1), 1) := by decide +kernel
theorem dX3_divide_12 : decode cX3_divide 12 = .ok (.if_icmp .ne 7, 3) := by decide +kernel
theorem dX3_divide_15 : decode cX3_divide 15 = .ok (.iconst 2, 1) := by decide +kernel
theorem dX3_divide_16 : decode cX3_divide 16 = .ok (.goto 4, 3) := by decide +kernel
theorem dX3_divide_19 : decode cX3_divide 19 = .ok (.iconst 3, 1) := by decide +kernel
theorem dX3_divide_20 : decode cX3_divide 20 = .ok (.putfield 45, 3) := by decide +kernel
theorem dX3_divide_23 : decode cX3_divide 23 = .ok (.aload_n 0, 1) := by decide +kernel
theorem dX3_divide_24 : decode cX3_divide 24 = .ok (.getfield 9, 3) := by decide +kernel
theorem dX3_divide_27 : decode cX3_divide 27 = .ok (.iconst 0, 1) := by decide +kernel
theorem dX3_divide_28 : decode cX3_divide 28 = .ok (.iconst 0, 1) := by decide +kernel
theorem dX3_divide_29 : decode cX3_divide 29 = .ok (.iastore, 1) := by decide +kernel
theorem dX3_divide_30 : decode cX3_divide 30 = .ok (.aload_n 0, 1) := by decide +kernel
theorem dX3_divide_31 : decode cX3_divide 31 = .ok (.getfield 9, 3) := by decide +kernel
theorem dX3_divide_34 : decode cX3_divide 34 = .ok (.iconst 1, 1) := by decide +kernel
theorem dX3_divide_35 : decode cX3_divide 35 = .ok (.iload_n 1, 1) := by decide +kernel
theorem dX3_divide_36 : decode cX3_divide 36 = .ok (.iastore, 1) := by decide +kernel
theorem dX3_divide_37 : decode cX3_divide 37 = .ok (.aload_n 0, 1) := by decide +kernel
theorem dX3_divide_38 : decode cX3_divide 38 = .ok (.getfield 9, 3) := by decide +kernel
theorem dX3_divide_41 : decode cX3_divide 41 = .ok (.iconst 2, 1) := by decide +kernel
theorem dX3_divide_42 : decode cX3_divide 42 = .ok (.iload_n 2, 1) := by decide +kernel
theorem dX3_divide_43 : decode cX3_divide 43 = .ok (.iastore, 1) := by decide +kernel
theorem dX3_divide_44 : decode cX3_divide 44 = .ok (.return_, 1) := by decide +kernel
theorem dX3_endOf_0 : decode cX3_endOf 0 = .ok (.iload_n 1, 1) := by decide +kernel
theorem dX3_endOf_1 : decode cX3_endOf 1 = .ok (.iconst 1, 1) := by decide +kernel
theorem dX3_endOf_2 : decode cX3_endOf 2 = .ok (.iadd, 1) := by decide +kernel
theorem dX3_endOf_3 : decode cX3_endOf 3 = .ok (.aload_n 0, 1) := by decide +kernel
theorem dX3_endOf_4 : decode cX3_endOf 4 = .ok (.getfield 45, 3) := by decide +kernel
theorem dX3_endOf_7 : decode cX3_endOf 7 = .ok (.if_icmp .ge 14, 3) := by decide +kernel
theorem dX3_endOf_10 : decode cX3_endOf 10 = .ok (.aload_n 0, 1) := by decide +kernel
theorem dX3_endOf_11 : decode cX3_endOf 11 = .ok (.getfield 9, 3) := by decide +kernel
theorem dX3_endOf_14 : decode cX3_endOf 14 = .ok (.iload_n 1, 1) := by decide +kernel
theorem dX3_endOf_15 : decode cX3_endOf 15 = .ok (.iconst 1, 1) := by decide +kernel
theorem dX3_endOf_16 : decode cX3_endOf 16 = .ok (.iadd, 1) := by decide +kernel
theorem dX3_endOf_17 : decode cX3_endOf 17 = .ok (.iaload, 1) := by decide +kernel
theorem dX3_endOf_18 : decode cX3_endOf 18 = .ok (.goto 7, 3) := by decide +kernel
theorem dX3_endOf_21 : decode cX3_endOf 21 = .ok (.aload_n 0, 1) := by decide +kernel
theorem dX3_endOf_22 : decode cX3_endOf 22 = .ok (.getfield 32, 3) := by decide +kernel
theorem dX3_endOf_25 : decode cX3_endOf 25 = .ok (.ireturn, 1) := by decide +kernel
theorem dX3_zoneWith_0 : decode cX3_zoneWith 0 = .ok (.iconst 0, 1) := by decide +kernel
theorem dX3_zoneWith_1 : decode cX3_zoneWith 1 = .ok (.istore_n 2, 1) := by decide +kernel
theorem dX3_zoneWith_2 : decode cX3_zoneWith 2 = .ok (.iconst 1, 1) := by decide +kernel
theorem dX3_zoneWith_3 : decode cX3_zoneWith 3 = .ok (.istore_n 3, 1) := by decide +kernel
theorem dX3_zoneWith_4 : decode cX3_zoneWith 4 = .ok (.iload_n 3, 1) := by decide +kernel
theorem dX3_zoneWith_5 : decode cX3_zoneWith 5 = .ok (.aload_n 0, 1) := by decide +kernel
theorem dX3_zoneWith_6 : decode cX3_zoneWith 6 = .ok (.getfield 45, 3) := by decide +kernel
theorem dX3_zoneWith_9 : decode cX3_zoneWith 9 = .ok (.if_icmp .ge 21, 3) := by decide +kernel
theorem dX3_zoneWith_12 : decode cX3_zoneWith 12 = .ok (.iload_n 1, 1) := by decide +kernel
theorem dX3_zoneWith_13 : decode cX3_zoneWith 13 = .ok (.aload_n 0, 1) := by decide +kernel
theorem dX3_zoneWith_14 : decode cX3_zoneWith 14 = .ok (.getfield 9, 3) := by decide +kernel
theorem dX3_zoneWith_17 : decode cX3_zoneWith 17 = .ok (.iload_n 3, 1) := by decide +kernel
theorem dX3_zoneWith_18 : decode cX3_zoneWith 18 = .ok (.iaload, 1) := by decide +kernel
theorem dX3_zoneWith_19 : decode cX3_zoneWith 19 = .ok (.if_icmp .lt 5, 3) := by decide +kernel
theorem dX3_zoneWith_22 : decode cX3_zoneWith 22 = .ok (.iload_n 3, 1) := by decide +kernel
theorem dX3_zoneWith_23 : decode cX3_zoneWith 23 = .ok (.istore_n 2, 1) := by decide +kernel
theorem dX3_zoneWith_24 : decode cX3_zoneWith 24 = .ok (.iinc 3 1, 3) := by decide +kernel
theorem dX3_zoneWith_27 : decode cX3_zoneWith 27 = .ok (.goto (-23), 3) := by decide +kernel
theorem dX3_zoneWith_30 : decode cX3_zoneWith 30 = .ok (.iload_n 2, 1) := by decide +kernel
theorem dX3_zoneWith_31 : decode cX3_zoneWith 31 = .ok (.ireturn, 1) := by decide +kernel
theorem dX3_copyFrom_0 : decode cX3_copyFrom 0 = .ok (.aload_n 0, 1) := by decide +kernel
theorem dX3_copyFrom_1 : decode cX3_copyFrom 1 = .ok (.aload_n 1, 1) := by decide +kernel
theorem dX3_copyFrom_2 : decode cX3_copyFrom 2 = .ok (.getfield 32, 3) := by decide +kernel
theorem dX3_copyFrom_5 : decode cX3_copyFrom 5 = .ok (.putfield 32, 3) := by decide +kernel
theorem dX3_copyFrom_8 : decode cX3_copyFrom 8 = .ok (.aload_n 0, 1) := by decide +kernel
theorem dX3_copyFrom_9 : decode cX3_copyFrom 9 = .ok (.aload_n 1, 1) := by decide +kernel
theorem dX3_copyFrom_10 : decode cX3_copyFrom 10 = .ok (.getfield 35, 3) := by decide +kernel
theorem dX3_copyFrom_13 : decode cX3_copyFrom 13 = .ok (.putfield 35, 3) := by decide +kernel
theorem dX3_copyFrom_16 : decode cX3_copyFrom 16 = .ok (.aload_n 0, 1) := by decide +kernel
theorem dX3_copyFrom_17 : decode cX3_copyFrom 17 = .ok (.aload_n 1, 1) := by decide +kernel
theorem dX3_copyFrom_18 : decode cX3_copyFrom 18 = .ok (.getfield 38, 3) := by decide +kernel
theorem dX3_copyFrom_21 : decode cX3_copyFrom 21 = .ok (.putfield 38, 3) := by decide +kernel
theorem dX3_copyFrom_24 : decode cX3_copyFrom 24 = .ok (.aload_n 0, 1) := by decide +kernel
theorem dX3_copyFrom_25 : decode cX3_copyFrom 25 = .ok (.aload_n 1, 1) := by decide +kernel
theorem dX3_copyFrom_26 : decode cX3_copyFrom 26 = .ok (.getfield 45, 3) := by decide +kernel
theorem dX3_copyFrom_29 : decode cX3_copyFrom 29 = .ok (.putfield 45, 3) := by decide +kernel
theorem dX3_copyFrom_32 : decode cX3_copyFrom 32 = .ok (.aload_n 1, 1) := by decide +kernel
theorem dX3_copyFrom_33 : decode cX3_copyFrom 33 = .ok (.getfield 9, 3) := by decide +kernel
theorem dX3_copyFrom_36 : decode cX3_copyFrom 36 = .ok (.iconst 0, 1) := by decide +kernel
theorem dX3_copyFrom_37 : decode cX3_copyFrom 37 = .ok (.aload_n 0, 1) := by decide +kernel
theorem dX3_copyFrom_38 : decode cX3_copyFrom 38 = .ok (.getfield 9, 3) := by decide +kernel
theorem dX3_copyFrom_41 : decode cX3_copyFrom 41 = .ok (.iconst 0, 1) := by decide +kernel
theorem dX3_copyFrom_42 : decode cX3_copyFrom 42 = .ok (.iconst 3, 1) := by decide +kernel
theorem dX3_copyFrom_43 : decode cX3_copyFrom 43 = .ok (.invokestatic 48, 3) := by decide +kernel
theorem dX3_copyFrom_46 : decode cX3_copyFrom 46 = .ok (.aload_n 0, 1) := by decide +kernel
theorem dX3_copyFrom_47 : decode cX3_copyFrom 47 = .ok (.aload_n 1, 1) := by decide +kernel
theorem dX3_copyFrom_48 : decode cX3_copyFrom 48 = .ok (.getfield 22, 3) := by decide +kernel
theorem dX3_copyFrom_51 : decode cX3_copyFrom 51 = .ok (.putfield 22, 3) := by decide +kernel
theorem dX3_copyFrom_54 : decode cX3_copyFrom 54 = .ok (.aload_n 0, 1) := by decide +kernel
theorem dX3_copyFrom_55 : decode cX3_copyFrom 55 = .ok (.aload_n 1, 1) := by decide +kernel
theorem dX3_copyFrom_56 : decode cX3_copyFrom 56 = .ok (.getfield 26, 3) := by decide +kernel
theorem dX3_copyFrom_59 : decode cX3_copyFrom 59 = .ok (.putfield 26, 3) := by decide +kernel
theorem dX3_copyFrom_62 : decode cX3_copyFrom 62 = .ok (.aload_n 0, 1) := by decide +kernel
theorem dX3_copyFrom_63 : decode cX3_copyFrom 63 = .ok (.aload_n 1, 1) := by decide +kernel
theorem dX3_copyFrom_64 : decode cX3_copyFrom 64 = .ok (.getfield 29, 3) := by decide +kernel
theorem dX3_copyFrom_67 : decode cX3_copyFrom 67 = .ok (.putfield 29, 3) := by decide +kernel
theorem dX3_copyFrom_70 : decode cX3_copyFrom 70 = .ok (.aload_n 1, 1) := by decide +kernel
theorem dX3_copyFrom_71 : decode cX3_copyFrom 71 = .ok (.getfield 15, 3) := by decide +kernel
theorem dX3_copyFrom_74 : decode cX3_copyFrom 74 = .ok (.iconst 0, 1) := by decide +kernel
theorem dX3_copyFrom_75 : decode cX3_copyFrom 75 = .ok (.aload_n 0, 1) := by decide +kernel
theorem dX3_copyFrom_76 : decode cX3_copyFrom 76 = .ok (.getfield 15, 3) := by decide +kernel
theorem dX3_copyFrom_79 : decode cX3_copyFrom 79 = .ok (.iconst 0, 1) := by decide +kernel
theorem dX3_copyFrom_80 : decode cX3_copyFrom 80 = .ok (.iconst 2, 1) := by decide +kernel
theorem dX3_copyFrom_81 : decode cX3_copyFrom 81 = .ok (.invokestatic 48, 3) := by decide +kernel
theorem dX3_copyFrom_84 : decode cX3_copyFrom 84 = .ok (.return_, 1) := by decide +kernel
theorem dX4_init_0 : decode cX4_init 0 = .ok (.aload_n 0, 1) := by decide +kernel
theorem dX4_init_1 : decode cX4_init 1 = .ok (.invokespecial 3, 3) := by decide +kernel
theorem dX4_init_4 : decode cX4_init 4 = .ok (.aload_n 0, 1) := by decide +kernel
theorem dX4_init_5 : decode cX4_init 5 = .ok (.new 9, 3) := by decide +kernel
theorem dX4_init_8 : decode cX4_init 8 = .ok (.dup, 1) := by decide +kernel
theorem dX4_init_9 : decode cX4_init 9 = .ok (.invokespecial 11, 3) := by decide +kernel
theorem dX4_init_12 : decode cX4_init 12 = .ok (.putfield 12, 3) := by decide +kernel
theorem dX4_init_15 : decode cX4_init 15 = .ok (.aload_n 0, 1) := by decide +kernel
theorem dX4_init_16 : decode cX4_init 16 = .ok (.bipush 8, 2) := by decide +kernel
theorem dX4_init_18 : decode cX4_init 18 = .ok (.newarray .int, 2) := by decide +kernel
theorem dX4_init_20 : decode cX4_init 20 = .ok (.putfield 18, 3) := by decide +kernel
theorem dX4_init_23 : decode cX4_init 23 = .ok (.return_, 1) := by decide +kernel
theorem dX4_makeAll_0 : decode cX4_makeAll 0 = .ok (.iconst 0, 1) := by decide +kernel
theorem dX4_makeAll_1 : decode cX4_makeAll 1 = .ok (.istore 4, 2) := by decide +kernel
theorem dX4_makeAll_3 : decode cX4_makeAll 3 = .ok (.iload 4, 2) := by decide +kernel
theorem dX4_makeAll_5 : decode cX4_makeAll 5 = .ok (.sipush 10000, 3) := by decide +kernel
theorem dX4_makeAll_8 : decode cX4_makeAll 8 = .ok (.if_icmp .ge 74, 3) := by decide +kernel
theorem dX4_makeAll_11 : decode cX4_makeAll 11 = .ok (.aload_n 0, 1) := by decide +kernel
theorem dX4_makeAll_12 : decode cX4_makeAll 12 = .ok (.aload_n 1, 1) := by decide +kernel
theorem dX4_makeAll_13 : decode cX4_makeAll 13 = .ok (.invokevirtual 22, 3) := by decide +kernel
theorem dX4_makeAll_16 : decode cX4_makeAll 16 = .ok (.aload_n 0, 1) := by decide +kernel
theorem dX4_makeAll_17 : decode cX4_makeAll 17 = .ok (.iconst 0, 1) := by decide +kernel
theorem dX4_makeAll_18 : decode cX4_makeAll 18 = .ok (.putfield 26, 3) := by decide +kernel
theorem dX4_makeAll_21 : decode cX4_makeAll 21 = .ok (.iconst 0, 1) := by decide +kernel
theorem dX4_makeAll_22 : decode cX4_makeAll 22 = .ok (.istore 5, 2) := by decide +kernel
theorem dX4_makeAll_24 : decode cX4_makeAll 24 = .ok (.iload 5, 2) := by decide +kernel
theorem dX4_makeAll_26 : decode cX4_makeAll 26 = .ok (.aload_n 1, 1) := by decide +kernel
theorem dX4_makeAll_27 : decode cX4_makeAll 27 = .ok (.getfield 30, 3) := by decide +kernel
theorem dX4_makeAll_30 : decode cX4_makeAll 30 = .ok (.getfield 36, 3) := by decide +kernel
theorem dX4_makeAll_33 : decode cX4_makeAll 33 = .ok (.if_icmp .ge 18, 3) := by decide +kernel
theorem dX4_makeAll_36 : decode cX4_makeAll 36 = .ok (.aload_n 0, 1) := by decide +kernel
theorem dX4_makeAll_37 : decode cX4_makeAll 37 = .ok (.aload_n 1, 1) := by decide +kernel
theorem dX4_makeAll_38 : decode cX4_makeAll 38 = .ok (.iload 5, 2) := by decide +kernel
theorem dX4_makeAll_40 : decode cX4_makeAll 40 = .ok (.iload_n 2, 1) := by decide +kernel
theorem dX4_makeAll_41 : decode cX4_makeAll 41 = .ok (.iload_n 3, 1) := by decide +kernel
theorem dX4_makeAll_42 : decode cX4_makeAll 42 = .ok (.invokevirtual 41, 3) := by decide +kernel
theorem dX4_makeAll_45 : decode cX4_makeAll 45 = .ok (.iinc 5 1, 3) := by decide +kernel
theorem dX4_makeAll_48 : decode cX4_makeAll 48 = .ok (.goto (-24), 3) := by decide +kernel
theorem dX4_makeAll_51 : decode cX4_makeAll 51 = .ok (.aload_n 0, 1) := by decide +kernel
theorem dX4_makeAll_52 : decode cX4_makeAll 52 = .ok (.getfield 26, 3) := by decide +kernel
theorem dX4_makeAll_55 : decode cX4_makeAll 55 = .ok (.ifCond .ne 6, 3) := by decide +kernel
theorem dX4_makeAll_58 : decode cX4_makeAll 58 = .ok (.iload 4, 2) := by decide +kernel
theorem dX4_makeAll_60 : decode cX4_makeAll 60 = .ok (.ireturn, 1) := by decide +kernel
theorem dX4_makeAll_61 : decode cX4_makeAll 61 = .ok (.aload_n 1, 1) := by decide +kernel
theorem dX4_makeAll_62 : decode cX4_makeAll 62 = .ok (.getfield 45, 3) := by decide +kernel
theorem dX4_makeAll_65 : decode cX4_makeAll 65 = .ok (.aload_n 0, 1) := by decide +kernel
theorem dX4_makeAll_66 : decode cX4_makeAll 66 = .ok (.getfield 49, 3) := by decide +kernel
theorem dX4_makeAll_69 : decode cX4_makeAll 69 = .ok (.aload_n 0, 1) := by decide +kernel
theorem dX4_makeAll_70 : decode cX4_makeAll 70 = .ok (.getfield 52, 3) := by decide +kernel
theorem dX4_makeAll_73 : decode cX4_makeAll 73 = .ok (.invokevirtual 55, 3) := by decide +kernel
theorem dX4_makeAll_76 : decode cX4_makeAll 76 = .ok (.iinc 4 1, 3) := by decide +kernel
theorem dX4_makeAll_79 : decode cX4_makeAll 79 = .ok (.goto (-76), 3) := by decide +kernel
theorem dX4_makeAll_82 : decode cX4_makeAll 82 = .ok (.sipush 10000, 3) := by decide +kernel
theorem dX4_makeAll_85 : decode cX4_makeAll 85 = .ok (.ireturn, 1) := by decide +kernel
theorem dX4_measureBatches_0 : decode cX4_measureBatches 0 = .ok (.iconst 0, 1) := by decide +kernel
theorem dX4_measureBatches_1 : decode cX4_measureBatches 1 = .ok (.istore_n 2, 1) := by decide +kernel
theorem dX4_measureBatches_2 : decode cX4_measureBatches 2 = .ok (.iload_n 2, 1) := by decide +kernel
theorem dX4_measureBatches_3 : decode cX4_measureBatches 3 = .ok (.aload_n 1, 1) := by decide +kernel
theorem dX4_measureBatches_4 : decode cX4_measureBatches 4 = .ok (.getfield 45, 3) := by decide +kernel
theorem dX4_measureBatches_7 : decode cX4_measureBatches 7 = .ok (.getfield 61, 3) := by decide +kernel
theorem dX4_measureBatches_10 : decode cX4_measureBatches 10 = .ok (.if_icmp .ge 39, 3) := by decide +kernel
theorem dX4_measureBatches_13 : decode cX4_measureBatches 13 = .ok (.aload_n 0, 1) := by decide +kernel
theorem dX4_measureBatches_14 : decode cX4_measureBatches 14 = .ok (.getfield 18, 3) := by decide +kernel
theorem dX4_measureBatches_17 : decode cX4_measureBatches 17 = .ok (.iload_n 2, 1) := by decide +kernel
theorem dX4_measureBatches_18 : decode cX4_measureBatches 18 = .ok (.aload_n 0, 1) := by decide +kernel
theorem dX4_measureBatches_19 : decode cX4_measureBatches 19 = .ok (.getfield 12, 3) := by decide +kernel
theorem dX4_measureBatches_22 : decode cX4_measureBatches 22 = .ok (.aload_n 1, 1) := by decide +kernel
theorem dX4_measureBatches_23 : decode cX4_measureBatches 23 = .ok (.aload_n 1, 1) := by decide +kernel
theorem dX4_measureBatches_24 : decode cX4_measureBatches 24 = .ok (.getfield 45, 3) := by decide +kernel
theorem dX4_measureBatches_27 : decode cX4_measureBatches 27 = .ok (.getfield 62, 3) := by decide +kernel
theorem dX4_measureBatches_30 : decode cX4_measureBatches 30 = .ok (.iload_n 2, 1) := by decide +kernel
theorem dX4_measureBatches_31 : decode cX4_measureBatches 31 = .ok (.iaload, 1) := by decide +kernel
theorem dX4_measureBatches_32 : decode cX4_measureBatches 32 = .ok (.aload_n 1, 1) := by decide +kernel
theorem dX4_measureBatches_33 : decode cX4_measureBatches 33 = .ok (.getfield 65, 3) := by decide +kernel
theorem dX4_measureBatches_36 : decode cX4_measureBatches 36 = .ok (.getfield 69, 3) := by decide +kernel
theorem dX4_measureBatches_39 : decode cX4_measureBatches 39 = .ok (.invokevirtual 74, 3) := by decide +kernel
theorem dX4_measureBatches_42 : decode cX4_measureBatches 42 = .ok (.iastore, 1) := by decide +kernel
theorem dX4_measureBatches_43 : decode cX4_measureBatches 43 = .ok (.iinc 2 1, 3) := by decide +kernel
theorem dX4_measureBatches_46 : decode cX4_measureBatches 46 = .ok (.goto (-44), 3) := by decide +kernel
theorem dX4_measureBatches_49 : decode cX4_measureBatches 49 = .ok (.return_, 1) := by decide +kernel
theorem dX4_tryMoves_0 : decode cX4_tryMoves 0 = .ok (.aload_n 1, 1) := by decide +kernel
theorem dX4_tryMoves_1 : decode cX4_tryMoves 1 = .ok (.getfield 45, 3) := by decide +kernel
theorem dX4_tryMoves_4 : decode cX4_tryMoves 4 = .ok (.iload_n 2, 1) := by decide +kernel
theorem dX4_tryMoves_5 : decode cX4_tryMoves 5 = .ok (.invokevirtual 78, 3) := by decide +kernel
theorem dX4_tryMoves_8 : decode cX4_tryMoves 8 = .ok (.istore 5, 2) := by decide +kernel
theorem dX4_tryMoves_10 : decode cX4_tryMoves 10 = .ok (.iload 5, 2) := by decide +kernel
theorem dX4_tryMoves_12 : decode cX4_tryMoves 12 = .ok (.iconst (-1), 1) := by decide +kernel
theorem dX4_tryMoves_13 : decode cX4_tryMoves 13 = .ok (.if_icmp .ne 4, 3) := by decide +kernel
theorem dX4_tryMoves_16 : decode cX4_tryMoves 16 = .ok (.return_, 1) := by decide +kernel
theorem dX4_tryMoves_17 : decode cX4_tryMoves 17 = .ok (.aload_n 1, 1) := by decide +kernel
theorem dX4_tryMoves_18 : decode cX4_tryMoves 18 = .ok (.getfield 45, 3) := by decide +kernel
theorem dX4_tryMoves_21 : decode cX4_tryMoves 21 = .ok (.getfield 62, 3) := by decide +kernel
theorem dX4_tryMoves_24 : decode cX4_tryMoves 24 = .ok (.iload 5, 2) := by decide +kernel
theorem dX4_tryMoves_26 : decode cX4_tryMoves 26 = .ok (.iaload, 1) := by decide +kernel
theorem dX4_tryMoves_27 : decode cX4_tryMoves 27 = .ok (.iconst 1, 1) := by decide +kernel
theorem dX4_tryMoves_28 : decode cX4_tryMoves 28 = .ok (.iload_n 2, 1) := by decide +kernel
theorem dX4_tryMoves_29 : decode cX4_tryMoves 29 = .ok (.ishl, 1) := by decide +kernel
theorem dX4_tryMoves_30 : decode cX4_tryMoves 30 = .ok (.iconst (-1), 1) := by decide +kernel
theorem dX4_tryMoves_31 : decode cX4_tryMoves 31 = .ok (.ixor, 1) := by decide +kernel
theorem dX4_tryMoves_32 : decode cX4_tryMoves 32 = .ok (.iand, 1) := by decide +kernel
theorem dX4_tryMoves_33 : decode cX4_tryMoves 33 = .ok (.istore 6, 2) := by decide +kernel
theorem dX4_tryMoves_35 : decode cX4_tryMoves 35 = .ok (.aload_n 0, 1) := by decide +kernel
theorem dX4_tryMoves_36 : decode cX4_tryMoves 36 = .ok (.getfield 18, 3) := by decide +kernel
theorem dX4_tryMoves_39 : decode cX4_tryMoves 39 = .ok (.iload 5, 2) := by decide +kernel
theorem dX4_tryMoves_41 : decode cX4_tryMoves 41 = .ok (.iaload, 1) := by decide +kernel
theorem dX4_tryMoves_42 : decode cX4_tryMoves 42 = .ok (.aload_n 0, 1) := by decide +kernel
theorem dX4_tryMoves_43 : decode cX4_tryMoves 43 = .ok (.getfield 12, 3) := by decide +kernel
theorem dX4_tryMoves_46 : decode cX4_tryMoves 46 = .ok (.aload_n 1, 1) := by decide +kernel
theorem dX4_tryMoves_47 : decode cX4_tryMoves 47 = .ok (.iload 6, 2) := by decide +kernel
theorem dX4_tryMoves_49 : decode cX4_tryMoves 49 = .ok (.aload_n 1, 1) := by decide +kernel
theorem dX4_tryMoves_50 : decode cX4_tryMoves 50 = .ok (.getfield 65, 3) := by decide +kernel
theorem dX4_tryMoves_53 : decode cX4_tryMoves 53 = .ok (.getfield 69, 3) := by decide +kernel
theorem dX4_tryMoves_56 : decode cX4_tryMoves 56 = .ok (.invokevirtual 74, 3) := by decide +kernel
theorem dX4_tryMoves_59 : decode cX4_tryMoves 59 = .ok (.isub, 1) := by decide +kernel
theorem dX4_tryMoves_60 : decode cX4_tryMoves 60 = .ok (.istore 7, 2) := by decide +kernel
theorem dX4_tryMoves_62 : decode cX4_tryMoves 62 = .ok (.iconst 0, 1) := by decide +kernel
theorem dX4_tryMoves_63 : decode cX4_tryMoves 63 = .ok (.istore 8, 2) := by decide +kernel
theorem dX4_tryMoves_65 : decode cX4_tryMoves 65 = .ok (.iload 8, 2) := by decide +kernel
theorem dX4_tryMoves_67 : decode cX4_tryMoves 67 = .ok (.aload_n 1, 1) := by decide +kernel
theorem dX4_tryMoves_68 : decode cX4_tryMoves 68 = .ok (.getfield 45, 3) := by decide +kernel
theorem dX4_tryMoves_71 : decode cX4_tryMoves 71 = .ok (.getfield 61, 3) := by decide +kernel
theorem dX4_tryMoves_74 : decode cX4_tryMoves 74 = .ok (.if_icmp .ge 103, 3) := by decide +kernel
theorem dX4_tryMoves_77 : decode cX4_tryMoves 77 = .ok (.aload_n 1, 1) := by decide +kernel
theorem dX4_tryMoves_78 : decode cX4_tryMoves 78 = .ok (.getfield 45, 3) := by decide +kernel
theorem dX4_tryMoves_81 : decode cX4_tryMoves 81 = .ok (.getfield 62, 3) := by decide +kernel
theorem dX4_tryMoves_84 : decode cX4_tryMoves 84 = .ok (.iload 8, 2) := by decide +kernel
theorem dX4_tryMoves_86 : decode cX4_tryMoves 86 = .ok (.iaload, 1) := by decide +kernel
theorem dX4_tryMoves_87 : decode cX4_tryMoves 87 = .ok (.iconst 1, 1) := by decide +kernel
theorem dX4_tryMoves_88 : decode cX4_tryMoves 88 = .ok (.iload_n 2, 1) := by decide +kernel
theorem dX4_tryMoves_89 : decode cX4_tryMoves 89 = .ok (.ishl, 1) := by decide +kernel
theorem dX4_tryMoves_90 : decode cX4_tryMoves 90 = .ok (.ior, 1) := by decide +kernel
theorem dX4_tryMoves_91 : decode cX4_tryMoves 91 = .ok (.istore 9, 2) := by decide +kernel
theorem dX4_tryMoves_93 : decode cX4_tryMoves 93 = .ok (.iload 9, 2) := by decide +kernel
theorem dX4_tryMoves_95 : decode cX4_tryMoves 95 = .ok (.invokestatic 82, 3) := by decide +kernel
theorem dX4_tryMoves_98 : decode cX4_tryMoves 98 = .ok (.iload_n 3, 1) := by decide +kernel
theorem dX4_tryMoves_99 : decode cX4_tryMoves 99 = .ok (.if_icmp .gt 18, 3) := by decide +kernel
theorem dX4_tryMoves_102 : decode cX4_tryMoves 102 = .ok (.aload_n 1, 1) := by decide +kernel
theorem dX4_tryMoves_103 : decode cX4_tryMoves 103 = .ok (.iload 9, 2) := by decide +kernel
theorem dX4_tryMoves_105 : decode cX4_tryMoves 105 = .ok (.invokevirtual 87, 3) := by decide +kernel
theorem dX4_tryMoves_108 : decode cX4_tryMoves 108 = .ok (.iload 4, 2) := by decide +kernel
theorem dX4_tryMoves_110 : decode cX4_tryMoves 110 = .ok (.if_icmp .gt 7, 3) := by decide +kernel
theorem dX4_tryMoves_113 : decode cX4_tryMoves 113 = .ok (.iconst 1, 1) := by decide +kernel
theorem dX4_tryMoves_114 : decode cX4_tryMoves 114 = .ok (.goto 4, 3) := by decide +kernel
theorem dX4_tryMoves_117 : decode cX4_tryMoves 117 = .ok (.iconst 0, 1) := by decide +kernel
theorem dX4_tryMoves_118 : decode cX4_tryMoves 118 = .ok (.istore 10, 2) := by decide +kernel
theorem dX4_tryMoves_120 : decode cX4_tryMoves 120 = .ok (.iload 8, 2) := by decide +kernel
theorem dX4_tryMoves_122 : decode cX4_tryMoves 122 = .ok (.iload 5, 2) := by decide +kernel
theorem dX4_tryMoves_124 : decode cX4_tryMoves 124 = .ok (.if_icmp .eq 47, 3) := by decide +kernel
theorem dX4_tryMoves_127 : decode cX4_tryMoves 127 = .ok (.iload 10, 2) := by decide +kernel
theorem dX4_tryMoves_129 : decode cX4_tryMoves 129 = .ok (.ifCond .eq 42, 3) := by decide +kernel
theorem dX4_tryMoves_132 : decode cX4_tryMoves 132 = .ok (.aload_n 0, 1) := by decide +kernel
theorem dX4_tryMoves_133 : decode cX4_tryMoves 133 = .ok (.getfield 12, 3) := by decide +kernel
theorem dX4_tryMoves_136 : decode cX4_tryMoves 136 = .ok (.aload_n 1, 1) := by decide +kernel
theorem dX4_tryMoves_137 : decode cX4_tryMoves 137 = .ok (.iload 9, 2) := by decide +kernel
theorem dX4_tryMoves_139 : decode cX4_tryMoves 139 = .ok (.aload_n 1, 1) := by decide +kernel
theorem dX4_tryMoves_140 : decode cX4_tryMoves 140 = .ok (.getfield 65, 3) := by decide +kernel
theorem dX4_tryMoves_143 : decode cX4_tryMoves 143 = .ok (.getfield 69, 3) := by decide +kernel
theorem dX4_tryMoves_146 : decode cX4_tryMoves 146 = .ok (.invokevirtual 74, 3) := by decide +kernel
theorem dX4_tryMoves_149 : decode cX4_tryMoves 149 = .ok (.aload_n 0, 1) := by decide +kernel
theorem dX4_tryMoves_150 : decode cX4_tryMoves 150 = .ok (.getfield 18, 3) := by decide +kernel
theorem dX4_tryMoves_153 : decode cX4_tryMoves 153 = .ok (.iload 8, 2) := by decide +kernel
theorem dX4_tryMoves_155 : decode cX4_tryMoves 155 = .ok (.iaload, 1) := by decide +kernel
theorem dX4_tryMoves_156 : decode cX4_tryMoves 156 = .ok (.isub, 1) := by decide +kernel
theorem dX4_tryMoves_157 : decode cX4_tryMoves 157 = .ok (.istore 11, 2) := by decide +kernel
theorem dX4_tryMoves_159 : decode cX4_tryMoves 159 = .ok (.aload_n 0, 1) := by decide +kernel
theorem dX4_tryMoves_160 : decode cX4_tryMoves 160 = .ok (.iload 7, 2) := by decide +kernel
theorem dX4_tryMoves_162 : decode cX4_tryMoves 162 = .ok (.iload 11, 2) := by decide +kernel
theorem dX4_tryMoves_164 : decode cX4_tryMoves 164 = .ok (.isub, 1) := by decide +kernel
theorem dX4_tryMoves_165 : decode cX4_tryMoves 165 = .ok (.iload_n 2, 1) := by decide +kernel
theorem dX4_tryMoves_166 : decode cX4_tryMoves 166 = .ok (.iload 8, 2) := by decide +kernel
theorem dX4_tryMoves_168 : decode cX4_tryMoves 168 = .ok (.invokevirtual 90, 3) := by decide +kernel
theorem dX4_tryMoves_171 : decode cX4_tryMoves 171 = .ok (.iinc 8 1, 3) := by decide +kernel
theorem dX4_tryMoves_174 : decode cX4_tryMoves 174 = .ok (.goto (-109), 3) := by decide +kernel
theorem dX4_tryMoves_177 : decode cX4_tryMoves 177 = .ok (.return_, 1) := by decide +kernel
theorem dX4_keepBetter_0 : decode cX4_keepBetter 0 = .ok (.iload_n 1, 1) := by decide +kernel
theorem dX4_keepBetter_1 : decode cX4_keepBetter 1 = .ok (.aload_n 0, 1) := by decide +kernel
theorem dX4_keepBetter_2 : decode cX4_keepBetter 2 = .ok (.getfield 26, 3) := by decide +kernel
theorem dX4_keepBetter_5 : decode cX4_keepBetter 5 = .ok (.if_icmp .le 18, 3) := by decide +kernel
theorem dX4_keepBetter_8 : decode cX4_keepBetter 8 = .ok (.aload_n 0, 1) := by decide +kernel
theorem dX4_keepBetter_9 : decode cX4_keepBetter 9 = .ok (.iload_n 1, 1) := by decide +kernel
theorem dX4_keepBetter_10 : decode cX4_keepBetter 10 = .ok (.putfield 26, 3) := by decide +kernel
theorem dX4_keepBetter_13 : decode cX4_keepBetter 13 = .ok (.aload_n 0, 1) := by decide +kernel
theorem dX4_keepBetter_14 : decode cX4_keepBetter 14 = .ok (.iload_n 2, 1) := by decide +kernel
theorem dX4_keepBetter_15 : decode cX4_keepBetter 15 = .ok (.putfield 49, 3) := by decide +kernel
theorem dX4_keepBetter_18 : decode cX4_keepBetter 18 = .ok (.aload_n 0, 1) := by decide +kernel
theorem dX4_keepBetter_19 : decode cX4_keepBetter 19 = .ok (.iload_n 3, 1) := by decide +kernel
theorem dX4_keepBetter_20 : decode cX4_keepBetter 20 = .ok (.putfield 52, 3) := by decide +kernel
theorem dX4_keepBetter_23 : decode cX4_keepBetter 23 = .ok (.return_, 1) := by decide +kernel
theorem dX5_init_0 : decode cX5_init 0 = .ok (.aload_n 0, 1) := by decide +kernel
theorem dX5_init_1 : decode cX5_init 1 = .ok (.invokespecial 3, 3) := by decide +kernel
theorem dX5_init_4 : decode cX5_init 4 = .ok (.aload_n 0, 1) := by decide +kernel
theorem dX5_init_5 : decode cX5_init 5 = .ok (.bipush 16, 2) := by decide +kernel
theorem dX5_init_7 : decode cX5_init 7 = .ok (.newarray .int, 2) := by decide +kernel
theorem dX5_init_9 : decode cX5_init 9 = .ok (.putfield 9, 3) := by decide +kernel
theorem dX5_init_12 : decode cX5_init 12 = .ok (.aload_n 0, 1) := by decide +kernel
theorem dX5_init_13 : decode cX5_init 13 = .ok (.bipush 16, 2) := by decide +kernel
theorem dX5_init_15 : decode cX5_init 15 = .ok (.newarray .int, 2) := by decide +kernel
theorem dX5_init_17 : decode cX5_init 17 = .ok (.putfield 15, 3) := by decide +kernel
theorem dX5_init_20 : decode cX5_init 20 = .ok (.aload_n 0, 1) := by decide +kernel
theorem dX5_init_21 : decode cX5_init 21 = .ok (.bipush 16, 2) := by decide +kernel
theorem dX5_init_23 : decode cX5_init 23 = .ok (.newarray .int, 2) := by decide +kernel
theorem dX5_init_25 : decode cX5_init 25 = .ok (.putfield 18, 3) := by decide +kernel
theorem dX5_init_28 : decode cX5_init 28 = .ok (.aload_n 0, 1) := by decide +kernel
theorem dX5_init_29 : decode cX5_init 29 = .ok (.bipush 96, 2) := by decide +kernel
theorem dX5_init_31 : decode cX5_init 31 = .ok (.newarray .int, 2) := by decide +kernel
theorem dX5_init_33 : decode cX5_init 33 = .ok (.putfield 21, 3) := by decide +kernel
theorem dX5_init_36 : decode cX5_init 36 = .ok (.aload_n 0, 1) := by decide +kernel
theorem dX5_init_37 : decode cX5_init 37 = .ok (.bipush 96, 2) := by decide +kernel
theorem dX5_init_39 : decode cX5_init 39 = .ok (.newarray .int, 2) := by decide +kernel
theorem dX5_init_41 : decode cX5_init 41 = .ok (.putfield 24, 3) := by decide +kernel
theorem dX5_init_44 : decode cX5_init 44 = .ok (.aload_n 0, 1) := by decide +kernel
theorem dX5_init_45 : decode cX5_init 45 = .ok (.bipush 96, 2) := by decide +kernel
theorem dX5_init_47 : decode cX5_init 47 = .ok (.newarray .int, 2) := by decide +kernel
theorem dX5_init_49 : decode cX5_init 49 = .ok (.putfield 27, 3) := by decide +kernel
theorem dX5_init_52 : decode cX5_init 52 = .ok (.return_, 1) := by decide +kernel
theorem dX5_append_0 : decode cX5_append 0 = .ok (.aload_n 0, 1) := by decide +kernel
theorem dX5_append_1 : decode cX5_append 1 = .ok (.getfield 30, 3) := by decide +kernel
theorem dX5_append_4 : decode cX5_append 4 = .ok (.istore_n 2, 1) := by decide +kernel
theorem dX5_append_5 : decode cX5_append 5 = .ok (.aload_n 0, 1) := by decide +kernel
theorem dX5_append_6 : decode cX5_append 6 = .ok (.getfield 9, 3) := by decide +kernel
theorem dX5_append_9 : decode cX5_append 9 = .ok (.iload_n 2, 1) := by decide +kernel
theorem dX5_append_10 : decode cX5_append 10 = .ok (.iload_n 1, 1) := by decide +kernel
theorem dX5_append_11 : decode cX5_append 11 = .ok (.iastore, 1) := by decide +kernel
theorem dX5_append_12 : decode cX5_append 12 = .ok (.aload_n 0, 1) := by decide +kernel
theorem dX5_append_13 : decode cX5_append 13 = .ok (.getfield 15, 3) := by decide +kernel
theorem dX5_append_16 : decode cX5_append 16 = .ok (.iload_n 2, 1) := by decide +kernel
theorem dX5_append_17 : decode cX5_append 17 = .ok (.iconst 0, 1) := by decide +kernel
theorem dX5_append_18 : decode cX5_append 18 = .ok (.iastore, 1) := by decide +kernel
theorem dX5_append_19 : decode cX5_append 19 = .ok (.aload_n 0, 1) := by decide +kernel
theorem dX5_append_20 : decode cX5_append 20 = .ok (.getfield 18, 3) := by decide +kernel
theorem dX5_append_23 : decode cX5_append 23 = .ok (.iload_n 2, 1) := by decide +kernel
theorem dX5_append_24 : decode cX5_append 24 = .ok (.iconst 0, 1) := by decide +kernel
theorem dX5_append_25 : decode cX5_append 25 = .ok (.iastore, 1) := by decide +kernel
theorem dX5_append_26 : decode cX5_append 26 = .ok (.aload_n 0, 1) := by decide +kernel
theorem dX5_append_27 : decode cX5_append 27 = .ok (.dup, 1) := by decide +kernel
theorem dX5_append_28 : decode cX5_append 28 = .ok (.getfield 30, 3) := by decide +kernel
theorem dX5_append_31 : decode cX5_append 31 = .ok (.iconst 1, 1) := by decide +kernel
theorem dX5_append_32 : decode cX5_append 32 = .ok (.iadd, 1) := by decide +kernel
theorem dX5_append_33 : decode cX5_append 33 = .ok (.putfield 30, 3) := by decide +kernel
theorem dX5_append_36 : decode cX5_append 36 = .ok (.iload_n 2, 1) := by decide +kernel
theorem dX5_append_37 : decode cX5_append 37 = .ok (.ireturn, 1) := by decide +kernel
theorem dX5_appendLine_0 : decode cX5_appendLine 0 = .ok (.aload_n 0, 1) := by decide +kernel
theorem dX5_appendLine_1 : decode cX5_appendLine 1 = .ok (.getfield 18, 3) := by decide +kernel
theorem dX5_appendLine_4 : decode cX5_appendLine 4 = .ok (.iload_n 1, 1) := by decide +kernel
theorem dX5_appendLine_5 : decode cX5_appendLine 5 = .ok (.iaload, 1) := by decide +kernel
theorem dX5_appendLine_6 : decode cX5_appendLine 6 = .ok (.istore 4, 2) := by decide +kernel
theorem dX5_appendLine_8 : decode cX5_appendLine 8 = .ok (.iload_n 1, 1) := by decide +kernel
theorem dX5_appendLine_9 : decode cX5_appendLine 9 = .ok (.bipush 6, 2) := by decide +kernel
theorem dX5_appendLine_11 : decode cX5_appendLine 11 = .ok (.imul, 1) := by decide +kernel
theorem dX5_appendLine_12 : decode cX5_appendLine 12 = .ok (.iload 4, 2) := by decide +kernel
theorem dX5_appendLine_14 : decode cX5_appendLine 14 = .ok (.iadd, 1) := by decide +kernel
theorem dX5_appendLine_15 : decode cX5_appendLine 15 = .ok (.istore 5, 2) := by decide +kernel
theorem dX5_appendLine_17 : decode cX5_appendLine 17 = .ok (.aload_n 0, 1) := by decide +kernel
theorem dX5_appendLine_18 : decode cX5_appendLine 18 = .ok (.getfield 21, 3) := by decide +kernel
theorem dX5_appendLine_21 : decode cX5_appendLine 21 = .ok (.iload 5, 2) := by decide +kernel
theorem dX5_appendLine_23 : decode cX5_appendLine 23 = .ok (.iload_n 2, 1) := by decide +kernel
theorem dX5_appendLine_24 : decode cX5_appendLine 24 = .ok (.iastore, 1) := by decide +kernel
theorem dX5_appendLine_25 : decode cX5_appendLine 25 = .ok (.aload_n 0, 1) := by decide +kernel
theorem dX5_appendLine_26 : decode cX5_appendLine 26 = .ok (.getfield 24, 3) := by decide +kernel
theorem dX5_appendLine_29 : decode cX5_appendLine 29 = .ok (.iload 5, 2) := by decide +kernel
theorem dX5_appendLine_31 : decode cX5_appendLine 31 = .ok (.iload_n 3, 1) := by decide +kernel
theorem dX5_appendLine_32 : decode cX5_appendLine 32 = .ok (.iastore, 1) := by decide +kernel
theorem dX5_appendLine_33 : decode cX5_appendLine 33 = .ok (.aload_n 0, 1) := by decide +kernel
theorem dX5_appendLine_34 : decode cX5_appendLine 34 = .ok (.getfield 27, 3) := by decide +kernel
theorem dX5_appendLine_37 : decode cX5_appendLine 37 = .ok (.iload 5, 2) := by decide +kernel
theorem dX5_appendLine_39 : decode cX5_appendLine 39 = .ok (.iconst 0, 1) := by decide +kernel
theorem dX5_appendLine_40 : decode cX5_appendLine 40 = .ok (.iastore, 1) := by decide +kernel
theorem dX5_appendLine_41 : decode cX5_appendLine 41 = .ok (.aload_n 0, 1) := by decide +kernel
theorem dX5_appendLine_42 : decode cX5_appendLine 42 = .ok (.getfield 18, 3) := by decide +kernel
theorem dX5_appendLine_45 : decode cX5_appendLine 45 = .ok (.iload_n 1, 1) := by decide +kernel
theorem dX5_appendLine_46 : decode cX5_appendLine 46 = .ok (.dup2, 1) := by decide +kernel
theorem dX5_appendLine_47 : decode cX5_appendLine 47 = .ok (.iaload, 1) := by decide +kernel
theorem dX5_appendLine_48 : decode cX5_appendLine 48 = .ok (.iconst 1, 1) := by decide +kernel
theorem dX5_appendLine_49 : decode cX5_appendLine 49 = .ok (.iadd, 1) := by decide +kernel
theorem dX5_appendLine_50 : decode cX5_appendLine 50 = .ok (.iastore, 1) := by decide +kernel
theorem dX5_appendLine_51 : decode cX5_appendLine 51 = .ok (.iload 4, 2) := by decide +kernel
theorem dX5_appendLine_53 : decode cX5_appendLine 53 = .ok (.ireturn, 1) := by decide +kernel
theorem dX5_hasItem_0 : decode cX5_hasItem 0 = .ok (.iconst 0, 1) := by decide +kernel
theorem dX5_hasItem_1 : decode cX5_hasItem 1 = .ok (.istore_n 3, 1) := by decide +kernel
theorem dX5_hasItem_2 : decode cX5_hasItem 2 = .ok (.iload_n 3, 1) := by decide +kernel
theorem dX5_hasItem_3 : decode cX5_hasItem 3 = .ok (.aload_n 0, 1) := by decide +kernel
theorem dX5_hasItem_4 : decode cX5_hasItem 4 = .ok (.getfield 18, 3) := by decide +kernel
theorem dX5_hasItem_7 : decode cX5_hasItem 7 = .ok (.iload_n 1, 1) := by decide +kernel
theorem dX5_hasItem_8 : decode cX5_hasItem 8 = .ok (.iaload, 1) := by decide +kernel
theorem dX5_hasItem_9 : decode cX5_hasItem 9 = .ok (.if_icmp .ge 26, 3) := by decide +kernel
theorem dX5_hasItem_12 : decode cX5_hasItem 12 = .ok (.aload_n 0, 1) := by decide +kernel
theorem dX5_hasItem_13 : decode cX5_hasItem 13 = .ok (.getfield 21, 3) := by decide +kernel
theorem dX5_hasItem_16 : decode cX5_hasItem 16 = .ok (.iload_n 1, 1) := by decide +kernel
theorem dX5_hasItem_17 : decode cX5_hasItem 17 = .ok (.bipush 6, 2) := by decide +kernel
theorem dX5_hasItem_19 : decode cX5_hasItem 19 = .ok (.imul, 1) := by decide +kernel
theorem dX5_hasItem_20 : decode cX5_hasItem 20 = .ok (.iload_n 3, 1) := by decide +kernel
theorem dX5_hasItem_21 : decode cX5_hasItem 21 = .ok (.iadd, 1) := by decide +kernel
theorem dX5_hasItem_22 : decode cX5_hasItem 22 = .ok (.iaload, 1) := by decide +kernel
theorem dX5_hasItem_23 : decode cX5_hasItem 23 = .ok (.iload_n 2, 1) := by decide +kernel
theorem dX5_hasItem_24 : decode cX5_hasItem 24 = .ok (.if_icmp .ne 5, 3) := by decide +kernel
theorem dX5_hasItem_27 : decode cX5_hasItem 27 = .ok (.iconst 1, 1) := by decide +kernel
theorem dX5_hasItem_28 : decode cX5_hasItem 28 = .ok (.ireturn, 1) := by decide +kernel
theorem dX5_hasItem_29 : decode cX5_hasItem 29 = .ok (.iinc 3 1, 3) := by decide +kernel
theorem dX5_hasItem_32 : decode cX5_hasItem 32 = .ok (.goto (-30), 3) := by decide +kernel
theorem dX5_hasItem_35 : decode cX5_hasItem 35 = .ok (.iconst 0, 1) := by decide +kernel
theorem dX5_hasItem_36 : decode cX5_hasItem 36 = .ok (.ireturn, 1) := by decide +kernel
theorem dX5_setStates_0 : decode cX5_setStates 0 = .ok (.iconst 0, 1) := by decide +kernel
theorem dX5_setStates_1 : decode cX5_setStates 1 = .ok (.istore_n 3, 1) := by decide +kernel
theorem dX5_setStates_2 : decode cX5_setStates 2 = .ok (.iload_n 3, 1) := by decide +kernel
theorem dX5_setStates_3 : decode cX5_setStates 3 = .ok (.aload_n 0, 1) := by decide +kernel
theorem dX5_setStates_4 : decode cX5_setStates 4 = .ok (.getfield 30, 3) := by decide +kernel
theorem dX5_setStates_7 : decode cX5_setStates 7 = .ok (.if_icmp .ge 24, 3) := by decide +kernel
theorem dX5_setStates_10 : decode cX5_setStates 10 = .ok (.iload_n 1, 1) := by decide +kernel
theorem dX5_setStates_11 : decode cX5_setStates 11 = .ok (.iload_n 3, 1) := by decide +kernel
theorem dX5_setStates_12 : decode cX5_setStates 12 = .ok (.ishr, 1) := by decide +kernel
theorem dX5_setStates_13 : decode cX5_setStates 13 = .ok (.iconst 1, 1) := by decide +kernel
theorem dX5_setStates_14 : decode cX5_setStates 14 = .ok (.iand, 1) := by decide +kernel
theorem dX5_setStates_15 : decode cX5_setStates 15 = .ok (.ifCond .eq 10, 3) := by decide +kernel
theorem dX5_setStates_18 : decode cX5_setStates 18 = .ok (.aload_n 0, 1) := by decide +kernel
theorem dX5_setStates_19 : decode cX5_setStates 19 = .ok (.getfield 15, 3) := by decide +kernel
theorem dX5_setStates_22 : decode cX5_setStates 22 = .ok (.iload_n 3, 1) := by decide +kernel
theorem dX5_setStates_23 : decode cX5_setStates 23 = .ok (.iload_n 2, 1) := by decide +kernel
theorem dX5_setStates_24 : decode cX5_setStates 24 = .ok (.iastore, 1) := by decide +kernel
theorem dX5_setStates_25 : decode cX5_setStates 25 = .ok (.iinc 3 1, 3) := by decide +kernel
theorem dX5_setStates_28 : decode cX5_setStates 28 = .ok (.goto (-26), 3) := by decide +kernel
theorem dX5_setStates_31 : decode cX5_setStates 31 = .ok (.return_, 1) := by decide +kernel
theorem dX5_countIn_0 : decode cX5_countIn 0 = .ok (.iconst 0, 1) := by decide +kernel
theorem dX5_countIn_1 : decode cX5_countIn 1 = .ok (.istore_n 2, 1) := by decide +kernel
theorem dX5_countIn_2 : decode cX5_countIn 2 = .ok (.iconst 0, 1) := by decide +kernel
theorem dX5_countIn_3 : decode cX5_countIn 3 = .ok (.istore_n 3, 1) := by decide +kernel
theorem dX5_countIn_4 : decode cX5_countIn 4 = .ok (.iload_n 3, 1) := by decide +kernel
theorem dX5_countIn_5 : decode cX5_countIn 5 = .ok (.aload_n 0, 1) := by decide +kernel
theorem dX5_countIn_6 : decode cX5_countIn 6 = .ok (.getfield 30, 3) := by decide +kernel
theorem dX5_countIn_9 : decode cX5_countIn 9 = .ok (.if_icmp .ge 22, 3) := by decide +kernel
theorem dX5_countIn_12 : decode cX5_countIn 12 = .ok (.aload_n 0, 1) := by decide +kernel
theorem dX5_countIn_13 : decode cX5_countIn 13 = .ok (.getfield 15, 3) := by decide +kernel
theorem dX5_countIn_16 : decode cX5_countIn 16 = .ok (.iload_n 3, 1) := by decide +kernel
theorem dX5_countIn_17 : decode cX5_countIn 17 = .ok (.iaload, 1) := by decide +kernel
theorem dX5_countIn_18 : decode cX5_countIn 18 = .ok (.iload_n 1, 1) := by decide +kernel
theorem dX5_countIn_19 : decode cX5_countIn 19 = .ok (.if_icmp .ne 6, 3) := by decide +kernel
theorem dX5_countIn_22 : decode cX5_countIn 22 = .ok (.iinc 2 1, 3) := by decide +kernel
theorem dX5_countIn_25 : decode cX5_countIn 25 = .ok (.iinc 3 1, 3) := by decide +kernel
theorem dX5_countIn_28 : decode cX5_countIn 28 = .ok (.goto (-24), 3) := by decide +kernel
theorem dX5_countIn_31 : decode cX5_countIn 31 = .ok (.iload_n 2, 1) := by decide +kernel
theorem dX5_countIn_32 : decode cX5_countIn 32 = .ok (.ireturn, 1) := by decide +kernel
theorem dX5_dueBefore_0 : decode cX5_dueBefore 0 = .ok (.iconst 0, 1) := by decide +kernel
theorem dX5_dueBefore_1 : decode cX5_dueBefore 1 = .ok (.istore_n 3, 1) := by decide +kernel
theorem dX5_dueBefore_2 : decode cX5_dueBefore 2 = .ok (.iconst 0, 1) := by decide +kernel
theorem dX5_dueBefore_3 : decode cX5_dueBefore 3 = .ok (.istore 4, 2) := by decide +kernel
theorem dX5_dueBefore_5 : decode cX5_dueBefore 5 = .ok (.iload 4, 2) := by decide +kernel
theorem dX5_dueBefore_7 : decode cX5_dueBefore 7 = .ok (.aload_n 0, 1) := by decide +kernel
theorem dX5_dueBefore_8 : decode cX5_dueBefore 8 = .ok (.getfield 30, 3) := by decide +kernel
theorem dX5_dueBefore_11 : decode cX5_dueBefore 11 = .ok (.if_icmp .ge 36, 3) := by decide +kernel
theorem dX5_dueBefore_14 : decode cX5_dueBefore 14 = .ok (.iload_n 1, 1) := by decide +kernel
theorem dX5_dueBefore_15 : decode cX5_dueBefore 15 = .ok (.iload 4, 2) := by decide +kernel
theorem dX5_dueBefore_17 : decode cX5_dueBefore 17 = .ok (.ishr, 1) := by decide +kernel
theorem dX5_dueBefore_18 : decode cX5_dueBefore 18 = .ok (.iconst 1, 1) := by decide +kernel
theorem dX5_dueBefore_19 : decode cX5_dueBefore 19 = .ok (.iand, 1) := by decide +kernel
theorem dX5_dueBefore_20 : decode cX5_dueBefore 20 = .ok (.ifCond .eq 21, 3) := by decide +kernel
theorem dX5_dueBefore_23 : decode cX5_dueBefore 23 = .ok (.aload_n 0, 1) := by decide +kernel
theorem dX5_dueBefore_24 : decode cX5_dueBefore 24 = .ok (.getfield 9, 3) := by decide +kernel
theorem dX5_dueBefore_27 : decode cX5_dueBefore 27 = .ok (.iload 4, 2) := by decide +kernel
theorem dX5_dueBefore_29 : decode cX5_dueBefore 29 = .ok (.iaload, 1) := by decide +kernel
theorem dX5_dueBefore_30 : decode cX5_dueBefore 30 = .ok (.iload_n 2, 1) := by decide +kernel
theorem dX5_dueBefore_31 : decode cX5_dueBefore 31 = .ok (.if_icmp .ge 10, 3) := by decide +kernel
theorem dX5_dueBefore_34 : decode cX5_dueBefore 34 = .ok (.iload_n 3, 1) := by decide +kernel
theorem dX5_dueBefore_35 : decode cX5_dueBefore 35 = .ok (.iconst 1, 1) := by decide +kernel
theorem dX5_dueBefore_36 : decode cX5_dueBefore 36 = .ok (.iload 4, 2) := by decide +kernel
theorem dX5_dueBefore_38 : decode cX5_dueBefore 38 = .ok (.ishl, 1) := by decide +kernel
theorem dX5_dueBefore_39 : decode cX5_dueBefore 39 = .ok (.ior, 1) := by decide +kernel
theorem dX5_dueBefore_40 : decode cX5_dueBefore 40 = .ok (.istore_n 3, 1) := by decide +kernel
theorem dX5_dueBefore_41 : decode cX5_dueBefore 41 = .ok (.iinc 4 1, 3) := by decide +kernel
theorem dX5_dueBefore_44 : decode cX5_dueBefore 44 = .ok (.goto (-39), 3) := by decide +kernel
theorem dX5_dueBefore_47 : decode cX5_dueBefore 47 = .ok (.iload_n 3, 1) := by decide +kernel
theorem dX5_dueBefore_48 : decode cX5_dueBefore 48 = .ok (.ireturn, 1) := by decide +kernel
theorem dX5_pickedIn_0 : decode cX5_pickedIn 0 = .ok (.aload_n 0, 1) := by decide +kernel
theorem dX5_pickedIn_1 : decode cX5_pickedIn 1 = .ok (.getfield 15, 3) := by decide +kernel
theorem dX5_pickedIn_4 : decode cX5_pickedIn 4 = .ok (.iload_n 1, 1) := by decide +kernel
theorem dX5_pickedIn_5 : decode cX5_pickedIn 5 = .ok (.iaload, 1) := by decide +kernel
theorem dX5_pickedIn_6 : decode cX5_pickedIn 6 = .ok (.iconst 2, 1) := by decide +kernel
theorem dX5_pickedIn_7 : decode cX5_pickedIn 7 = .ok (.if_icmp .ne 17, 3) := by decide +kernel
theorem dX5_pickedIn_10 : decode cX5_pickedIn 10 = .ok (.aload_n 0, 1) := by decide +kernel
theorem dX5_pickedIn_11 : decode cX5_pickedIn 11 = .ok (.getfield 27, 3) := by decide +kernel
theorem dX5_pickedIn_14 : decode cX5_pickedIn 14 = .ok (.iload_n 1, 1) := by decide +kernel
theorem dX5_pickedIn_15 : decode cX5_pickedIn 15 = .ok (.bipush 6, 2) := by decide +kernel
theorem dX5_pickedIn_17 : decode cX5_pickedIn 17 = .ok (.imul, 1) := by decide +kernel
theorem dX5_pickedIn_18 : decode cX5_pickedIn 18 = .ok (.iload_n 2, 1) := by decide +kernel
theorem dX5_pickedIn_19 : decode cX5_pickedIn 19 = .ok (.iadd, 1) := by decide +kernel
theorem dX5_pickedIn_20 : decode cX5_pickedIn 20 = .ok (.iaload, 1) := by decide +kernel
theorem dX5_pickedIn_21 : decode cX5_pickedIn 21 = .ok (.goto 4, 3) := by decide +kernel
theorem dX5_pickedIn_24 : decode cX5_pickedIn 24 = .ok (.iconst 0, 1) := by decide +kernel
theorem dX5_pickedIn_25 : decode cX5_pickedIn 25 = .ok (.ireturn, 1) := by decide +kernel
theorem dX5_shortIn_0 : decode cX5_shortIn 0 = .ok (.iload_n 1, 1) := by decide +kernel
theorem dX5_shortIn_1 : decode cX5_shortIn 1 = .ok (.bipush 6, 2) := by decide +kernel
theorem dX5_shortIn_3 : decode cX5_shortIn 3 = .ok (.imul, 1) := by decide +kernel
theorem dX5_shortIn_4 : decode cX5_shortIn 4 = .ok (.iload_n 2, 1) := by decide +kernel
theorem dX5_shortIn_5 : decode cX5_shortIn 5 = .ok (.iadd, 1) := by decide +kernel
theorem dX5_shortIn_6 : decode cX5_shortIn 6 = .ok (.istore_n 3, 1) := by decide +kernel
theorem dX5_shortIn_7 : decode cX5_shortIn 7 = .ok (.aload_n 0, 1) := by decide +kernel
theorem dX5_shortIn_8 : decode cX5_shortIn 8 = .ok (.getfield 15, 3) := by decide +kernel
theorem dX5_shortIn_11 : decode cX5_shortIn 11 = .ok (.iload_n 1, 1) := by decide +kernel
theorem dX5_shortIn_12 : decode cX5_shortIn 12 = .ok (.iaload, 1) := by decide +kernel
theorem dX5_shortIn_13 : decode cX5_shortIn 13 = .ok (.iconst 2, 1) := by decide +kernel
theorem dX5_shortIn_14 : decode cX5_shortIn 14 = .ok (.if_icmp .ne 19, 3) := by decide +kernel
theorem dX5_shortIn_17 : decode cX5_shortIn 17 = .ok (.aload_n 0, 1) := by decide +kernel
theorem dX5_shortIn_18 : decode cX5_shortIn 18 = .ok (.getfield 24, 3) := by decide +kernel
theorem dX5_shortIn_21 : decode cX5_shortIn 21 = .ok (.iload_n 3, 1) := by decide +kernel
theorem dX5_shortIn_22 : decode cX5_shortIn 22 = .ok (.iaload, 1) := by decide +kernel
theorem dX5_shortIn_23 : decode cX5_shortIn 23 = .ok (.aload_n 0, 1) := by decide +kernel
theorem dX5_shortIn_24 : decode cX5_shortIn 24 = .ok (.getfield 27, 3) := by decide +kernel
theorem dX5_shortIn_27 : decode cX5_shortIn 27 = .ok (.iload_n 3, 1) := by decide +kernel
theorem dX5_shortIn_28 : decode cX5_shortIn 28 = .ok (.iaload, 1) := by decide +kernel
theorem dX5_shortIn_29 : decode cX5_shortIn 29 = .ok (.isub, 1) := by decide +kernel
theorem dX5_shortIn_30 : decode cX5_shortIn 30 = .ok (.goto 4, 3) := by decide +kernel
theorem dX5_shortIn_33 : decode cX5_shortIn 33 = .ok (.iconst 0, 1) := by decide +kernel
theorem dX5_shortIn_34 : decode cX5_shortIn 34 = .ok (.ireturn, 1) := by decide +kernel
theorem dX5_shortInAll_0 : decode cX5_shortInAll 0 = .ok (.iconst 0, 1) := by decide +kernel
theorem dX5_shortInAll_1 : decode cX5_shortInAll 1 = .ok (.istore_n 2, 1) := by decide +kernel
theorem dX5_shortInAll_2 : decode cX5_shortInAll 2 = .ok (.iconst 0, 1) := by decide +kernel
theorem dX5_shortInAll_3 : decode cX5_shortInAll 3 = .ok (.istore_n 3, 1) := by decide +kernel
theorem dX5_shortInAll_4 : decode cX5_shortInAll 4 = .ok (.iload_n 3, 1) := by decide +kernel
theorem dX5_shortInAll_5 : decode cX5_shortInAll 5 = .ok (.aload_n 0, 1) := by decide +kernel
theorem dX5_shortInAll_6 : decode cX5_shortInAll 6 = .ok (.getfield 18, 3) := by decide +kernel
theorem dX5_shortInAll_9 : decode cX5_shortInAll 9 = .ok (.iload_n 1, 1) := by decide +kernel
theorem dX5_shortInAll_10 : decode cX5_shortInAll 10 = .ok (.iaload, 1) := by decide +kernel
theorem dX5_shortInAll_11 : decode cX5_shortInAll 11 = .ok (.if_icmp .ge 18, 3) := by decide +kernel
theorem dX5_shortInAll_14 : decode cX5_shortInAll 14 = .ok (.iload_n 2, 1) := by decide +kernel
theorem dX5_shortInAll_15 : decode cX5_shortInAll 15 = .ok (.aload_n 0, 1) := by decide +kernel
theorem dX5_shortInAll_16 : decode cX5_shortInAll 16 = .ok (.iload_n 1, 1) := by decide +kernel
theorem dX5_shortInAll_17 : decode cX5_shortInAll 17 = .ok (.iload_n 3, 1) := by decide +kernel
theorem dX5_shortInAll_18 : decode cX5_shortInAll 18 = .ok (.invokevirtual 34, 3) := by decide +kernel
theorem dX5_shortInAll_21 : decode cX5_shortInAll 21 = .ok (.iadd, 1) := by decide +kernel
theorem dX5_shortInAll_22 : decode cX5_shortInAll 22 = .ok (.istore_n 2, 1) := by decide +kernel
theorem dX5_shortInAll_23 : decode cX5_shortInAll 23 = .ok (.iinc 3 1, 3) := by decide +kernel
theorem dX5_shortInAll_26 : decode cX5_shortInAll 26 = .ok (.goto (-22), 3) := by decide +kernel
theorem dX5_shortInAll_29 : decode cX5_shortInAll 29 = .ok (.iload_n 2, 1) := by decide +kernel
theorem dX5_shortInAll_30 : decode cX5_shortInAll 30 = .ok (.ireturn, 1) := by decide +kernel
theorem dX5_shortOfDone_0 : decode cX5_shortOfDone 0 = .ok (.iconst 0, 1) := by decide +kernel
theorem dX5_shortOfDone_1 : decode cX5_shortOfDone 1 = .ok (.istore_n 1, 1) := by decide +kernel
theorem dX5_shortOfDone_2 : decode cX5_shortOfDone 2 = .ok (.iconst 0, 1) := by decide +kernel
theorem dX5_shortOfDone_3 : decode cX5_shortOfDone 3 = .ok (.istore_n 2, 1) := by decide +kernel
theorem dX5_shortOfDone_4 : decode cX5_shortOfDone 4 = .ok (.iload_n 2, 1) := by decide +kernel
theorem dX5_shortOfDone_5 : decode cX5_shortOfDone 5 = .ok (.aload_n 0, 1) := by decide +kernel
theorem dX5_shortOfDone_6 : decode cX5_shortOfDone 6 = .ok (.getfield 30, 3) := by decide +kernel
theorem dX5_shortOfDone_9 : decode cX5_shortOfDone 9 = .ok (.if_icmp .ge 17, 3) := by decide +kernel
theorem dX5_shortOfDone_12 : decode cX5_shortOfDone 12 = .ok (.iload_n 1, 1) := by decide +kernel
theorem dX5_shortOfDone_13 : decode cX5_shortOfDone 13 = .ok (.aload_n 0, 1) := by decide +kernel
theorem dX5_shortOfDone_14 : decode cX5_shortOfDone 14 = .ok (.iload_n 2, 1) := by decide +kernel
theorem dX5_shortOfDone_15 : decode cX5_shortOfDone 15 = .ok (.invokevirtual 38, 3) := by decide +kernel
theorem dX5_shortOfDone_18 : decode cX5_shortOfDone 18 = .ok (.iadd, 1) := by decide +kernel
theorem dX5_shortOfDone_19 : decode cX5_shortOfDone 19 = .ok (.istore_n 1, 1) := by decide +kernel
theorem dX5_shortOfDone_20 : decode cX5_shortOfDone 20 = .ok (.iinc 2 1, 3) := by decide +kernel
theorem dX5_shortOfDone_23 : decode cX5_shortOfDone 23 = .ok (.goto (-19), 3) := by decide +kernel
theorem dX5_shortOfDone_26 : decode cX5_shortOfDone 26 = .ok (.iload_n 1, 1) := by decide +kernel
theorem dX5_shortOfDone_27 : decode cX5_shortOfDone 27 = .ok (.ireturn, 1) := by decide +kernel
theorem dX5_pickedOfDone_0 : decode cX5_pickedOfDone 0 = .ok (.iconst 0, 1) := by decide +kernel
theorem dX5_pickedOfDone_1 : decode cX5_pickedOfDone 1 = .ok (.istore_n 1, 1) := by decide +kernel
theorem dX5_pickedOfDone_2 : decode cX5_pickedOfDone 2 = .ok (.iconst 0, 1) := by decide +kernel
theorem dX5_pickedOfDone_3 : decode cX5_pickedOfDone 3 = .ok (.istore_n 2, 1) := by decide +kernel
theorem dX5_pickedOfDone_4 : decode cX5_pickedOfDone 4 = .ok (.iload_n 2, 1) := by decide +kernel
theorem dX5_pickedOfDone_5 : decode cX5_pickedOfDone 5 = .ok (.aload_n 0, 1) := by decide +kernel
theorem dX5_pickedOfDone_6 : decode cX5_pickedOfDone 6 = .ok (.getfield 30, 3) := by decide +kernel
theorem dX5_pickedOfDone_9 : decode cX5_pickedOfDone 9 = .ok (.if_icmp .ge 36, 3) := by decide +kernel
theorem dX5_pickedOfDone_12 : decode cX5_pickedOfDone 12 = .ok (.iconst 0, 1) := by decide +kernel
theorem dX5_pickedOfDone_13 : decode cX5_pickedOfDone 13 = .ok (.istore_n 3, 1) := by decide +kernel
theorem dX5_pickedOfDone_14 : decode cX5_pickedOfDone 14 = .ok (.iload_n 3, 1) := by decide +kernel
theorem dX5_pickedOfDone_15 : decode cX5_pickedOfDone 15 = .ok (.aload_n 0, 1) := by decide +kernel
theorem dX5_pickedOfDone_16 : decode cX5_pickedOfDone 16 = .ok (.getfield 18, 3) := by decide +kernel
theorem dX5_pickedOfDone_19 : decode cX5_pickedOfDone 19 = .ok (.iload_n 2, 1) := by decide +kernel
theorem dX5_pickedOfDone_20 : decode cX5_pickedOfDone 20 = .ok (.iaload, 1) := by decide +kernel
theorem dX5_pickedOfDone_21 : decode cX5_pickedOfDone 21 = .ok (.if_icmp .ge 18, 3) := by decide +kernel
theorem dX5_pickedOfDone_24 : decode cX5_pickedOfDone 24 = .ok (.iload_n 1, 1) := by decide +kernel
theorem dX5_pickedOfDone_25 : decode cX5_pickedOfDone 25 = .ok (.aload_n 0, 1) := by decide +kernel
theorem dX5_pickedOfDone_26 : decode cX5_pickedOfDone 26 = .ok (.iload_n 2, 1) := by decide +kernel
theorem dX5_pickedOfDone_27 : decode cX5_pickedOfDone 27 = .ok (.iload_n 3, 1) := by decide +kernel
theorem dX5_pickedOfDone_28 : decode cX5_pickedOfDone 28 = .ok (.invokevirtual 42, 3) := by decide +kernel
theorem dX5_pickedOfDone_31 : decode cX5_pickedOfDone 31 = .ok (.iadd, 1) := by decide +kernel
theorem dX5_pickedOfDone_32 : decode cX5_pickedOfDone 32 = .ok (.istore_n 1, 1) := by decide +kernel
theorem dX5_pickedOfDone_33 : decode cX5_pickedOfDone 33 = .ok (.iinc 3 1, 3) := by decide +kernel
theorem dX5_pickedOfDone_36 : decode cX5_pickedOfDone 36 = .ok (.goto (-22), 3) := by decide +kernel
theorem dX5_pickedOfDone_39 : decode cX5_pickedOfDone 39 = .ok (.iinc 2 1, 3) := by decide +kernel
theorem dX5_pickedOfDone_42 : decode cX5_pickedOfDone 42 = .ok (.goto (-38), 3) := by decide +kernel
theorem dX5_pickedOfDone_45 : decode cX5_pickedOfDone 45 = .ok (.iload_n 1, 1) := by decide +kernel
theorem dX5_pickedOfDone_46 : decode cX5_pickedOfDone 46 = .ok (.ireturn, 1) := by decide +kernel
theorem dX5_canBeRepeated_0 : decode cX5_canBeRepeated 0 = .ok (.aload_n 0, 1) := by decide +kernel
theorem dX5_canBeRepeated_1 : decode cX5_canBeRepeated 1 = .ok (.getfield 45, 3) := by decide +kernel
theorem dX5_canBeRepeated_4 : decode cX5_canBeRepeated 4 = .ok (.iload_n 1, 1) := by decide +kernel
theorem dX5_canBeRepeated_5 : decode cX5_canBeRepeated 5 = .ok (.ishr, 1) := by decide +kernel
theorem dX5_canBeRepeated_6 : decode cX5_canBeRepeated 6 = .ok (.iconst 1, 1) := by decide +kernel
theorem dX5_canBeRepeated_7 : decode cX5_canBeRepeated 7 = .ok (.iand, 1) := by decide +kernel
theorem dX5_canBeRepeated_8 : decode cX5_canBeRepeated 8 = .ok (.ifCond .ne 15, 3) := by decide +kernel
theorem dX5_canBeRepeated_11 : decode cX5_canBeRepeated 11 = .ok (.aload_n 0, 1) := by decide +kernel
theorem dX5_canBeRepeated_12 : decode cX5_canBeRepeated 12 = .ok (.iload_n 1, 1) := by decide +kernel
theorem dX5_canBeRepeated_13 : decode cX5_canBeRepeated 13 = .ok (.invokevirtual 38, 3) := by decide +kernel
theorem dX5_canBeRepeated_16 : decode cX5_canBeRepeated 16 = .ok (.ifCond .le 7, 3) := by decide +kernel
theorem dX5_canBeRepeated_19 : decode cX5_canBeRepeated 19 = .ok (.iconst 1, 1) := by decide +kernel
theorem dX5_canBeRepeated_20 : decode cX5_canBeRepeated 20 = .ok (.goto 4, 3) := by decide +kernel
theorem dX5_canBeRepeated_23 : decode cX5_canBeRepeated 23 = .ok (.iconst 0, 1) := by decide +kernel
theorem dX5_canBeRepeated_24 : decode cX5_canBeRepeated 24 = .ok (.ireturn, 1) := by decide +kernel
theorem dX5_repeatShort_0 : decode cX5_repeatShort 0 = .ok (.aload_n 0, 1) := by decide +kernel
theorem dX5_repeatShort_1 : decode cX5_repeatShort 1 = .ok (.iload_n 2, 1) := by decide +kernel
theorem dX5_repeatShort_2 : decode cX5_repeatShort 2 = .ok (.invokevirtual 48, 3) := by decide +kernel
theorem dX5_repeatShort_5 : decode cX5_repeatShort 5 = .ok (.istore_n 3, 1) := by decide +kernel
theorem dX5_repeatShort_6 : decode cX5_repeatShort 6 = .ok (.iconst 0, 1) := by decide +kernel
theorem dX5_repeatShort_7 : decode cX5_repeatShort 7 = .ok (.istore 4, 2) := by decide +kernel
theorem dX5_repeatShort_9 : decode cX5_repeatShort 9 = .ok (.iload 4, 2) := by decide +kernel
theorem dX5_repeatShort_11 : decode cX5_repeatShort 11 = .ok (.aload_n 0, 1) := by decide +kernel
theorem dX5_repeatShort_12 : decode cX5_repeatShort 12 = .ok (.getfield 18, 3) := by decide +kernel
theorem dX5_repeatShort_15 : decode cX5_repeatShort 15 = .ok (.iload_n 1, 1) := by decide +kernel
theorem dX5_repeatShort_16 : decode cX5_repeatShort 16 = .ok (.iaload, 1) := by decide +kernel
theorem dX5_repeatShort_17 : decode cX5_repeatShort 17 = .ok (.if_icmp .ge 43, 3) := by decide +kernel
theorem dX5_repeatShort_20 : decode cX5_repeatShort 20 = .ok (.aload_n 0, 1) := by decide +kernel
theorem dX5_repeatShort_21 : decode cX5_repeatShort 21 = .ok (.iload_n 1, 1) := by decide +kernel
theorem dX5_repeatShort_22 : decode cX5_repeatShort 22 = .ok (.iload 4, 2) := by decide +kernel
theorem dX5_repeatShort_24 : decode cX5_repeatShort 24 = .ok (.invokevirtual 34, 3) := by decide +kernel
theorem dX5_repeatShort_27 : decode cX5_repeatShort 27 = .ok (.istore 5, 2) := by decide +kernel
theorem dX5_repeatShort_29 : decode cX5_repeatShort 29 = .ok (.iload 5, 2) := by decide +kernel
theorem dX5_repeatShort_31 : decode cX5_repeatShort 31 = .ok (.ifCond .le 23, 3) := by decide +kernel
theorem dX5_repeatShort_34 : decode cX5_repeatShort 34 = .ok (.aload_n 0, 1) := by decide +kernel
theorem dX5_repeatShort_35 : decode cX5_repeatShort 35 = .ok (.iload_n 3, 1) := by decide +kernel
theorem dX5_repeatShort_36 : decode cX5_repeatShort 36 = .ok (.aload_n 0, 1) := by decide +kernel
theorem dX5_repeatShort_37 : decode cX5_repeatShort 37 = .ok (.getfield 21, 3) := by decide +kernel
theorem dX5_repeatShort_40 : decode cX5_repeatShort 40 = .ok (.iload_n 1, 1) := by decide +kernel
theorem dX5_repeatShort_41 : decode cX5_repeatShort 41 = .ok (.bipush 6, 2) := by decide +kernel
theorem dX5_repeatShort_43 : decode cX5_repeatShort 43 = .ok (.imul, 1) := by decide +kernel
theorem dX5_repeatShort_44 : decode cX5_repeatShort 44 = .ok (.iload 4, 2) := by decide +kernel
theorem dX5_repeatShort_46 : decode cX5_repeatShort 46 = .ok (.iadd, 1) := by decide +kernel
theorem dX5_repeatShort_47 : decode cX5_repeatShort 47 = .ok (.iaload, 1) := by decide +kernel
theorem dX5_repeatShort_48 : decode cX5_repeatShort 48 = .ok (.iload 5, 2) := by decide +kernel
theorem dX5_repeatShort_50 : decode cX5_repeatShort 50 = .ok (.invokevirtual 51, 3) := by decide +kernel
theorem dX5_repeatShort_53 : decode cX5_repeatShort 53 = .ok (.pop, 1) := by decide +kernel
theorem dX5_repeatShort_54 : decode cX5_repeatShort 54 = .ok (.iinc 4 1, 3) := by decide +kernel
theorem dX5_repeatShort_57 : decode cX5_repeatShort 57 = .ok (.goto (-48), 3) := by decide +kernel
theorem dX5_repeatShort_60 : decode cX5_repeatShort 60 = .ok (.aload_n 0, 1) := by decide +kernel
theorem dX5_repeatShort_61 : decode cX5_repeatShort 61 = .ok (.dup, 1) := by decide +kernel
theorem dX5_repeatShort_62 : decode cX5_repeatShort 62 = .ok (.getfield 45, 3) := by decide +kernel
theorem dX5_repeatShort_65 : decode cX5_repeatShort 65 = .ok (.iconst 1, 1) := by decide +kernel
theorem dX5_repeatShort_66 : decode cX5_repeatShort 66 = .ok (.iload_n 1, 1) := by decide +kernel
theorem dX5_repeatShort_67 : decode cX5_repeatShort 67 = .ok (.ishl, 1) := by decide +kernel
theorem dX5_repeatShort_68 : decode cX5_repeatShort 68 = .ok (.ior, 1) := by decide +kernel
theorem dX5_repeatShort_69 : decode cX5_repeatShort 69 = .ok (.putfield 45, 3) := by decide +kernel
theorem dX5_repeatShort_72 : decode cX5_repeatShort 72 = .ok (.iload_n 3, 1) := by decide +kernel
theorem dX5_repeatShort_73 : decode cX5_repeatShort 73 = .ok (.ireturn, 1) := by decide +kernel
theorem dX5_copyFrom_0 : decode cX5_copyFrom 0 = .ok (.aload_n 0, 1) := by decide +kernel
theorem dX5_copyFrom_1 : decode cX5_copyFrom 1 = .ok (.aload_n 1, 1) := by decide +kernel
theorem dX5_copyFrom_2 : decode cX5_copyFrom 2 = .ok (.getfield 30, 3) := by decide +kernel
theorem dX5_copyFrom_5 : decode cX5_copyFrom 5 = .ok (.putfield 30, 3) := by decide +kernel
theorem dX5_copyFrom_8 : decode cX5_copyFrom 8 = .ok (.aload_n 0, 1) := by decide +kernel
theorem dX5_copyFrom_9 : decode cX5_copyFrom 9 = .ok (.aload_n 1, 1) := by decide +kernel
theorem dX5_copyFrom_10 : decode cX5_copyFrom 10 = .ok (.getfield 45, 3) := by decide +kernel
theorem dX5_copyFrom_13 : decode cX5_copyFrom 13 = .ok (.putfield 45, 3) := by decide +kernel
theorem dX5_copyFrom_16 : decode cX5_copyFrom 16 = .ok (.aload_n 1, 1) := by decide +kernel
theorem dX5_copyFrom_17 : decode cX5_copyFrom 17 = .ok (.getfield 9, 3) := by decide +kernel
theorem dX5_copyFrom_20 : decode cX5_copyFrom 20 = .ok (.iconst 0, 1) := by decide +kernel
theorem dX5_copyFrom_21 : decode cX5_copyFrom 21 = .ok (.aload_n 0, 1) := by decide +kernel
theorem dX5_copyFrom_22 : decode cX5_copyFrom 22 = .ok (.getfield 9, 3) := by decide +kernel
theorem dX5_copyFrom_25 : decode cX5_copyFrom 25 = .ok (.iconst 0, 1) := by decide +kernel
theorem dX5_copyFrom_26 : decode cX5_copyFrom 26 = .ok (.bipush 16, 2) := by decide +kernel
theorem dX5_copyFrom_28 : decode cX5_copyFrom 28 = .ok (.invokestatic 55, 3) := by decide +kernel
theorem dX5_copyFrom_31 : decode cX5_copyFrom 31 = .ok (.aload_n 1, 1) := by decide +kernel
theorem dX5_copyFrom_32 : decode cX5_copyFrom 32 = .ok (.getfield 15, 3) := by decide +kernel
theorem dX5_copyFrom_35 : decode cX5_copyFrom 35 = .ok (.iconst 0, 1) := by decide +kernel
theorem dX5_copyFrom_36 : decode cX5_copyFrom 36 = .ok (.aload_n 0, 1) := by decide +kernel
theorem dX5_copyFrom_37 : decode cX5_copyFrom 37 = .ok (.getfield 15, 3) := by decide +kernel
theorem dX5_copyFrom_40 : decode cX5_copyFrom 40 = .ok (.iconst 0, 1) := by decide +kernel
theorem dX5_copyFrom_41 : decode cX5_copyFrom 41 = .ok (.bipush 16, 2) := by decide +kernel
theorem dX5_copyFrom_43 : decode cX5_copyFrom 43 = .ok (.invokestatic 55, 3) := by decide +kernel
theorem dX5_copyFrom_46 : decode cX5_copyFrom 46 = .ok (.aload_n 1, 1) := by decide +kernel
theorem dX5_copyFrom_47 : decode cX5_copyFrom 47 = .ok (.getfield 18, 3) := by decide +kernel
theorem dX5_copyFrom_50 : decode cX5_copyFrom 50 = .ok (.iconst 0, 1) := by decide +kernel
theorem dX5_copyFrom_51 : decode cX5_copyFrom 51 = .ok (.aload_n 0, 1) := by decide +kernel
theorem dX5_copyFrom_52 : decode cX5_copyFrom 52 = .ok (.getfield 18, 3) := by decide +kernel
theorem dX5_copyFrom_55 : decode cX5_copyFrom 55 = .ok (.iconst 0, 1) := by decide +kernel
theorem dX5_copyFrom_56 : decode cX5_copyFrom 56 = .ok (.bipush 16, 2) := by decide +kernel
theorem dX5_copyFrom_58 : decode cX5_copyFrom 58 = .ok (.invokestatic 55, 3) := by decide +kernel
theorem dX5_copyFrom_61 : decode cX5_copyFrom 61 = .ok (.aload_n 1, 1) := by decide +kernel
theorem dX5_copyFrom_62 : decode cX5_copyFrom 62 = .ok (.getfield 21, 3) := by decide +kernel
theorem dX5_copyFrom_65 : decode cX5_copyFrom 65 = .ok (.iconst 0, 1) := by decide +kernel
theorem dX5_copyFrom_66 : decode cX5_copyFrom 66 = .ok (.aload_n 0, 1) := by decide +kernel
theorem dX5_copyFrom_67 : decode cX5_copyFrom 67 = .ok (.getfield 21, 3) := by decide +kernel
theorem dX5_copyFrom_70 : decode cX5_copyFrom 70 = .ok (.iconst 0, 1) := by decide +kernel
theorem dX5_copyFrom_71 : decode cX5_copyFrom 71 = .ok (.bipush 96, 2) := by decide +kernel
theorem dX5_copyFrom_73 : decode cX5_copyFrom 73 = .ok (.invokestatic 55, 3) := by decide +kernel
theorem dX5_copyFrom_76 : decode cX5_copyFrom 76 = .ok (.aload_n 1, 1) := by decide +kernel
theorem dX5_copyFrom_77 : decode cX5_copyFrom 77 = .ok (.getfield 24, 3) := by decide +kernel
theorem dX5_copyFrom_80 : decode cX5_copyFrom 80 = .ok (.iconst 0, 1) := by decide +kernel
theorem dX5_copyFrom_81 : decode cX5_copyFrom 81 = .ok (.aload_n 0, 1) := by decide +kernel
theorem dX5_copyFrom_82 : decode cX5_copyFrom 82 = .ok (.getfield 24, 3) := by decide +kernel
theorem dX5_copyFrom_85 : decode cX5_copyFrom 85 = .ok (.iconst 0, 1) := by decide +kernel
theorem dX5_copyFrom_86 : decode cX5_copyFrom 86 = .ok (.bipush 96, 2) := by decide +kernel
theorem dX5_copyFrom_88 : decode cX5_copyFrom 88 = .ok (.invokestatic 55, 3) := by decide +kernel
theorem dX5_copyFrom_91 : decode cX5_copyFrom 91 = .ok (.aload_n 1, 1) := by decide +kernel
theorem dX5_copyFrom_92 : decode cX5_copyFrom 92 = .ok (.getfield 27, 3) := by decide +kernel
theorem dX5_copyFrom_95 : decode cX5_copyFrom 95 = .ok (.iconst 0, 1) := by decide +kernel
theorem dX5_copyFrom_96 : decode cX5_copyFrom 96 = .ok (.aload_n 0, 1) := by decide +kernel
theorem dX5_copyFrom_97 : decode cX5_copyFrom 97 = .ok (.getfield 27, 3) := by decide +kernel
theorem dX5_copyFrom_100 : decode cX5_copyFrom 100 = .ok (.iconst 0, 1) := by decide +kernel
theorem dX5_copyFrom_101 : decode cX5_copyFrom 101 = .ok (.bipush 96, 2) := by decide +kernel
theorem dX5_copyFrom_103 : decode cX5_copyFrom 103 = .ok (.invokestatic 55, 3) := by decide +kernel
theorem dX5_copyFrom_106 : decode cX5_copyFrom 106 = .ok (.return_, 1) := by decide +kernel
theorem dX6_init_0 : decode cX6_init 0 = .ok (.aload_n 0, 1) := by decide +kernel
theorem dX6_init_1 : decode cX6_init 1 = .ok (.invokespecial 3, 3) := by decide +kernel
theorem dX6_init_4 : decode cX6_init 4 = .ok (.aload_n 0, 1) := by decide +kernel
theorem dX6_init_5 : decode cX6_init 5 = .ok (.bipush 6, 2) := by decide +kernel
theorem dX6_init_7 : decode cX6_init 7 = .ok (.newarray .int, 2) := by decide +kernel
theorem dX6_init_9 : decode cX6_init 9 = .ok (.putfield 9, 3) := by decide +kernel
theorem dX6_init_12 : decode cX6_init 12 = .ok (.aload_n 0, 1) := by decide +kernel
theorem dX6_init_13 : decode cX6_init 13 = .ok (.bipush 6, 2) := by decide +kernel
theorem dX6_init_15 : decode cX6_init 15 = .ok (.newarray .int, 2) := by decide +kernel
theorem dX6_init_17 : decode cX6_init 17 = .ok (.putfield 15, 3) := by decide +kernel
theorem dX6_init_20 : decode cX6_init 20 = .ok (.aload_n 0, 1) := by decide +kernel
theorem dX6_init_21 : decode cX6_init 21 = .ok (.bipush 6, 2) := by decide +kernel
theorem dX6_init_23 : decode cX6_init 23 = .ok (.newarray .int, 2) := by decide +kernel
theorem dX6_init_25 : decode cX6_init 25 = .ok (.putfield 18, 3) := by decide +kernel
theorem dX6_init_28 : decode cX6_init 28 = .ok (.aload_n 0, 1) := by decide +kernel
theorem dX6_init_29 : decode cX6_init 29 = .ok (.bipush 6, 2) := by decide +kernel
theorem dX6_init_31 : decode cX6_init 31 = .ok (.newarray .int, 2) := by decide +kernel
theorem dX6_init_33 : decode cX6_init 33 = .ok (.putfield 21, 3) := by decide +kernel
theorem dX6_init_36 : decode cX6_init 36 = .ok (.aload_n 0, 1) := by decide +kernel
theorem dX6_init_37 : decode cX6_init 37 = .ok (.bipush 6, 2) := by decide +kernel
theorem dX6_init_39 : decode cX6_init 39 = .ok (.newarray .int, 2) := by decide +kernel
theorem dX6_init_41 : decode cX6_init 41 = .ok (.putfield 24, 3) := by decide +kernel
theorem dX6_init_44 : decode cX6_init 44 = .ok (.aload_n 0, 1) := by decide +kernel
theorem dX6_init_45 : decode cX6_init 45 = .ok (.bipush 7, 2) := by decide +kernel
theorem dX6_init_47 : decode cX6_init 47 = .ok (.newarray .int, 2) := by decide +kernel
theorem dX6_init_49 : decode cX6_init 49 = .ok (.putfield 27, 3) := by decide +kernel
theorem dX6_init_52 : decode cX6_init 52 = .ok (.aload_n 0, 1) := by decide +kernel
theorem dX6_init_53 : decode cX6_init 53 = .ok (.bipush 7, 2) := by decide +kernel
theorem dX6_init_55 : decode cX6_init 55 = .ok (.newarray .int, 2) := by decide +kernel
theorem dX6_init_57 : decode cX6_init 57 = .ok (.putfield 30, 3) := by decide +kernel
theorem dX6_init_60 : decode cX6_init 60 = .ok (.aload_n 0, 1) := by decide +kernel
theorem dX6_init_61 : decode cX6_init 61 = .ok (.bipush 24, 2) := by decide +kernel
theorem dX6_init_63 : decode cX6_init 63 = .ok (.newarray .int, 2) := by decide +kernel
theorem dX6_init_65 : decode cX6_init 65 = .ok (.putfield 33, 3) := by decide +kernel
theorem dX6_init_68 : decode cX6_init 68 = .ok (.return_, 1) := by decide +kernel
theorem dX6_survey_0 : decode cX6_survey 0 = .ok (.aload_n 0, 1) := by decide +kernel
theorem dX6_survey_1 : decode cX6_survey 1 = .ok (.aload_n 1, 1) := by decide +kernel
theorem dX6_survey_2 : decode cX6_survey 2 = .ok (.iload_n 2, 1) := by decide +kernel
theorem dX6_survey_3 : decode cX6_survey 3 = .ok (.invokevirtual 36, 3) := by decide +kernel
theorem dX6_survey_6 : decode cX6_survey 6 = .ok (.putfield 42, 3) := by decide +kernel
theorem dX6_survey_9 : decode cX6_survey 9 = .ok (.aload_n 0, 1) := by decide +kernel
theorem dX6_survey_10 : decode cX6_survey 10 = .ok (.aload_n 1, 1) := by decide +kernel
theorem dX6_survey_11 : decode cX6_survey 11 = .ok (.getfield 46, 3) := by decide +kernel
theorem dX6_survey_14 : decode cX6_survey 14 = .ok (.getfield 50, 3) := by decide +kernel
theorem dX6_survey_17 : decode cX6_survey 17 = .ok (.iconst 1, 1) := by decide +kernel
theorem dX6_survey_18 : decode cX6_survey 18 = .ok (.iadd, 1) := by decide +kernel
theorem dX6_survey_19 : decode cX6_survey 19 = .ok (.putfield 55, 3) := by decide +kernel
theorem dX6_survey_22 : decode cX6_survey 22 = .ok (.iconst 0, 1) := by decide +kernel
theorem dX6_survey_23 : decode cX6_survey 23 = .ok (.istore_n 3, 1) := by decide +kernel
theorem dX6_survey_24 : decode cX6_survey 24 = .ok (.iload_n 3, 1) := by decide +kernel
theorem dX6_survey_25 : decode cX6_survey 25 = .ok (.bipush 6, 2) := by decide +kernel
theorem dX6_survey_27 : decode cX6_survey 27 = .ok (.if_icmp .ge 38, 3) := by decide +kernel
theorem dX6_survey_30 : decode cX6_survey 30 = .ok (.aload_n 0, 1) := by decide +kernel
theorem dX6_survey_31 : decode cX6_survey 31 = .ok (.getfield 9, 3) := by decide +kernel
theorem dX6_survey_34 : decode cX6_survey 34 = .ok (.iload_n 3, 1) := by decide +kernel
theorem dX6_survey_35 : decode cX6_survey 35 = .ok (.iconst 0, 1) := by decide +kernel
theorem dX6_survey_36 : decode cX6_survey 36 = .ok (.iastore, 1) := by decide +kernel
theorem dX6_survey_37 : decode cX6_survey 37 = .ok (.aload_n 0, 1) := by decide +kernel
theorem dX6_survey_38 : decode cX6_survey 38 = .ok (.getfield 21, 3) := by decide +kernel
theorem dX6_survey_41 : decode cX6_survey 41 = .ok (.iload_n 3, 1) := by decide +kernel
theorem dX6_survey_42 : decode cX6_survey 42 = .ok (.iconst 0, 1) := by decide +kernel
theorem dX6_survey_43 : decode cX6_survey 43 = .ok (.iastore, 1) := by decide +kernel
theorem dX6_survey_44 : decode cX6_survey 44 = .ok (.aload_n 0, 1) := by decide +kernel
theorem dX6_survey_45 : decode cX6_survey 45 = .ok (.getfield 15, 3) := by decide +kernel
theorem dX6_survey_48 : decode cX6_survey 48 = .ok (.iload_n 3, 1) := by decide +kernel
theorem dX6_survey_49 : decode cX6_survey 49 = .ok (.bipush 20, 2) := by decide +kernel
theorem dX6_survey_51 : decode cX6_survey 51 = .ok (.iastore, 1) := by decide +kernel
theorem dX6_survey_52 : decode cX6_survey 52 = .ok (.aload_n 0, 1) := by decide +kernel
theorem dX6_survey_53 : decode cX6_survey 53 = .ok (.getfield 18, 3) := by decide +kernel
theorem dX6_survey_56 : decode cX6_survey 56 = .ok (.iload_n 3, 1) := by decide +kernel
theorem dX6_survey_57 : decode cX6_survey 57 = .ok (.iconst 0, 1) := by decide +kernel
theorem dX6_survey_58 : decode cX6_survey 58 = .ok (.iastore, 1) := by decide +kernel
theorem dX6_survey_59 : decode cX6_survey 59 = .ok (.iinc 3 1, 3) := by decide +kernel
theorem dX6_survey_62 : decode cX6_survey 62 = .ok (.goto (-38), 3) := by decide +kernel
theorem dX6_survey_65 : decode cX6_survey 65 = .ok (.iconst 0, 1) := by decide +kernel
theorem dX6_survey_66 : decode cX6_survey 66 = .ok (.istore_n 3, 1) := by decide +kernel
theorem dX6_survey_67 : decode cX6_survey 67 = .ok (.iload_n 3, 1) := by decide +kernel
theorem dX6_survey_68 : decode cX6_survey 68 = .ok (.aload_n 1, 1) := by decide +kernel
theorem dX6_survey_69 : decode cX6_survey 69 = .ok (.getfield 58, 3) := by decide +kernel
theorem dX6_survey_72 : decode cX6_survey 72 = .ok (.getfield 62, 3) := by decide +kernel
theorem dX6_survey_75 : decode cX6_survey 75 = .ok (.if_icmp .ge 42, 3) := by decide +kernel
theorem dX6_survey_78 : decode cX6_survey 78 = .ok (.aload_n 0, 1) := by decide +kernel
theorem dX6_survey_79 : decode cX6_survey 79 = .ok (.getfield 42, 3) := by decide +kernel
theorem dX6_survey_82 : decode cX6_survey 82 = .ok (.iload_n 3, 1) := by decide +kernel
theorem dX6_survey_83 : decode cX6_survey 83 = .ok (.ishr, 1) := by decide +kernel
theorem dX6_survey_84 : decode cX6_survey 84 = .ok (.iconst 1, 1) := by decide +kernel
theorem dX6_survey_85 : decode cX6_survey 85 = .ok (.iand, 1) := by decide +kernel
theorem dX6_survey_86 : decode cX6_survey 86 = .ok (.ifCond .eq 25, 3) := by decide +kernel
theorem dX6_survey_89 : decode cX6_survey 89 = .ok (.aload_n 0, 1) := by decide +kernel
theorem dX6_survey_90 : decode cX6_survey 90 = .ok (.aload_n 1, 1) := by decide +kernel
theorem dX6_survey_91 : decode cX6_survey 91 = .ok (.getfield 58, 3) := by decide +kernel
theorem dX6_survey_94 : decode cX6_survey 94 = .ok (.getfield 67, 3) := by decide +kernel
theorem dX6_survey_97 : decode cX6_survey 97 = .ok (.iload_n 3, 1) := by decide +kernel
theorem dX6_survey_98 : decode cX6_survey 98 = .ok (.iaload, 1) := by decide +kernel
theorem dX6_survey_99 : decode cX6_survey 99 = .ok (.aload_n 1, 1) := by decide +kernel
theorem dX6_survey_100 : decode cX6_survey 100 = .ok (.getfield 58, 3) := by decide +kernel
theorem dX6_survey_103 : decode cX6_survey 103 = .ok (.getfield 70, 3) := by decide +kernel
theorem dX6_survey_106 : decode cX6_survey 106 = .ok (.iload_n 3, 1) := by decide +kernel
theorem dX6_survey_107 : decode cX6_survey 107 = .ok (.iaload, 1) := by decide +kernel
theorem dX6_survey_108 : decode cX6_survey 108 = .ok (.invokevirtual 73, 3) := by decide +kernel
theorem dX6_survey_111 : decode cX6_survey 111 = .ok (.iinc 3 1, 3) := by decide +kernel
theorem dX6_survey_114 : decode cX6_survey 114 = .ok (.goto (-47), 3) := by decide +kernel
theorem dX6_survey_117 : decode cX6_survey 117 = .ok (.return_, 1) := by decide +kernel
theorem dX6_note_0 : decode cX6_note 0 = .ok (.aload_n 0, 1) := by decide +kernel
theorem dX6_note_1 : decode cX6_note 1 = .ok (.getfield 9, 3) := by decide +kernel
theorem dX6_note_4 : decode cX6_note 4 = .ok (.iload_n 1, 1) := by decide +kernel
theorem dX6_note_5 : decode cX6_note 5 = .ok (.dup2, 1) := by decide +kernel
theorem dX6_note_6 : decode cX6_note 6 = .ok (.iaload, 1) := by decide +kernel
theorem dX6_note_7 : decode cX6_note 7 = .ok (.iconst 1, 1) := by decide +kernel
theorem dX6_note_8 : decode cX6_note 8 = .ok (.iload_n 2, 1) := by decide +kernel
theorem dX6_note_9 : decode cX6_note 9 = .ok (.ishl, 1) := by decide +kernel
theorem dX6_note_10 : decode cX6_note 10 = .ok (.ior, 1) := by decide +kernel
theorem dX6_note_11 : decode cX6_note 11 = .ok (.iastore, 1) := by decide +kernel
theorem dX6_note_12 : decode cX6_note 12 = .ok (.aload_n 0, 1) := by decide +kernel
theorem dX6_note_13 : decode cX6_note 13 = .ok (.getfield 21, 3) := by decide +kernel
theorem dX6_note_16 : decode cX6_note 16 = .ok (.iload_n 1, 1) := by decide +kernel
theorem dX6_note_17 : decode cX6_note 17 = .ok (.dup2, 1) := by decide +kernel
theorem dX6_note_18 : decode cX6_note 18 = .ok (.iaload, 1) := by decide +kernel
theorem dX6_note_19 : decode cX6_note 19 = .ok (.iconst 1, 1) := by decide +kernel
theorem dX6_note_20 : decode cX6_note 20 = .ok (.iadd, 1) := by decide +kernel
theorem dX6_note_21 : decode cX6_note 21 = .ok (.iastore, 1) := by decide +kernel
theorem dX6_note_22 : decode cX6_note 22 = .ok (.aload_n 0, 1) := by decide +kernel
theorem dX6_note_23 : decode cX6_note 23 = .ok (.getfield 15, 3) := by decide +kernel
theorem dX6_note_26 : decode cX6_note 26 = .ok (.iload_n 1, 1) := by decide +kernel
theorem dX6_note_27 : decode cX6_note 27 = .ok (.aload_n 0, 1) := by decide +kernel
theorem dX6_note_28 : decode cX6_note 28 = .ok (.getfield 15, 3) := by decide +kernel
theorem dX6_note_31 : decode cX6_note 31 = .ok (.iload_n 1, 1) := by decide +kernel
theorem dX6_note_32 : decode cX6_note 32 = .ok (.iaload, 1) := by decide +kernel
theorem dX6_note_33 : decode cX6_note 33 = .ok (.iload_n 2, 1) := by decide +kernel
theorem dX6_note_34 : decode cX6_note 34 = .ok (.invokestatic 77, 3) := by decide +kernel
theorem dX6_note_37 : decode cX6_note 37 = .ok (.iastore, 1) := by decide +kernel
theorem dX6_note_38 : decode cX6_note 38 = .ok (.aload_n 0, 1) := by decide +kernel
theorem dX6_note_39 : decode cX6_note 39 = .ok (.getfield 18, 3) := by decide +kernel
theorem dX6_note_42 : decode cX6_note 42 = .ok (.iload_n 1, 1) := by decide +kernel
theorem dX6_note_43 : decode cX6_note 43 = .ok (.aload_n 0, 1) := by decide +kernel
theorem dX6_note_44 : decode cX6_note 44 = .ok (.getfield 18, 3) := by decide +kernel
theorem dX6_note_47 : decode cX6_note 47 = .ok (.iload_n 1, 1) := by decide +kernel
theorem dX6_note_48 : decode cX6_note 48 = .ok (.iaload, 1) := by decide +kernel
theorem dX6_note_49 : decode cX6_note 49 = .ok (.iload_n 2, 1) := by decide +kernel
theorem dX6_note_50 : decode cX6_note 50 = .ok (.invokestatic 83, 3) := by decide +kernel
theorem dX6_note_53 : decode cX6_note 53 = .ok (.iastore, 1) := by decide +kernel
theorem dX6_note_54 : decode cX6_note 54 = .ok (.return_, 1) := by decide +kernel
theorem dX6_lengthFor_0 : decode cX6_lengthFor 0 = .ok (.aload_n 0, 1) := by decide +kernel
theorem dX6_lengthFor_1 : decode cX6_lengthFor 1 = .ok (.aload_n 1, 1) := by decide +kernel
theorem dX6_lengthFor_2 : decode cX6_lengthFor 2 = .ok (.iload_n 2, 1) := by decide +kernel
theorem dX6_lengthFor_3 : decode cX6_lengthFor 3 = .ok (.invokevirtual 86, 3) := by decide +kernel
theorem dX6_lengthFor_6 : decode cX6_lengthFor 6 = .ok (.iconst 0, 1) := by decide +kernel
theorem dX6_lengthFor_7 : decode cX6_lengthFor 7 = .ok (.istore 4, 2) := by decide +kernel
theorem dX6_lengthFor_9 : decode cX6_lengthFor 9 = .ok (.iconst 0, 1) := by decide +kernel
theorem dX6_lengthFor_10 : decode cX6_lengthFor 10 = .ok (.istore 5, 2) := by decide +kernel
theorem dX6_lengthFor_12 : decode cX6_lengthFor 12 = .ok (.iload 5, 2) := by decide +kernel
theorem dX6_lengthFor_14 : decode cX6_lengthFor 14 = .ok (.aload_n 1, 1) := by decide +kernel
theorem dX6_lengthFor_15 : decode cX6_lengthFor 15 = .ok (.getfield 46, 3) := by decide +kernel
theorem dX6_lengthFor_18 : decode cX6_lengthFor 18 = .ok (.getfield 90, 3) := by decide +kernel
theorem dX6_lengthFor_21 : decode cX6_lengthFor 21 = .ok (.if_icmp .ge 25, 3) := by decide +kernel
theorem dX6_lengthFor_24 : decode cX6_lengthFor 24 = .ok (.iload 4, 2) := by decide +kernel
theorem dX6_lengthFor_26 : decode cX6_lengthFor 26 = .ok (.aload_n 0, 1) := by decide +kernel
theorem dX6_lengthFor_27 : decode cX6_lengthFor 27 = .ok (.aload_n 1, 1) := by decide +kernel
theorem dX6_lengthFor_28 : decode cX6_lengthFor 28 = .ok (.getfield 46, 3) := by decide +kernel
theorem dX6_lengthFor_31 : decode cX6_lengthFor 31 = .ok (.iload 5, 2) := by decide +kernel
theorem dX6_lengthFor_33 : decode cX6_lengthFor 33 = .ok (.iload_n 3, 1) := by decide +kernel
theorem dX6_lengthFor_34 : decode cX6_lengthFor 34 = .ok (.invokevirtual 93, 3) := by decide +kernel
theorem dX6_lengthFor_37 : decode cX6_lengthFor 37 = .ok (.iadd, 1) := by decide +kernel
theorem dX6_lengthFor_38 : decode cX6_lengthFor 38 = .ok (.istore 4, 2) := by decide +kernel
theorem dX6_lengthFor_40 : decode cX6_lengthFor 40 = .ok (.iinc 5 1, 3) := by decide +kernel
theorem dX6_lengthFor_43 : decode cX6_lengthFor 43 = .ok (.goto (-31), 3) := by decide +kernel
theorem dX6_lengthFor_46 : decode cX6_lengthFor 46 = .ok (.iload 4, 2) := by decide +kernel
theorem dX6_lengthFor_48 : decode cX6_lengthFor 48 = .ok (.ireturn, 1) := by decide +kernel
theorem dX6_itemsIn_0 : decode cX6_itemsIn 0 = .ok (.iconst 0, 1) := by decide +kernel
theorem dX6_itemsIn_1 : decode cX6_itemsIn 1 = .ok (.istore_n 3, 1) := by decide +kernel
theorem dX6_itemsIn_2 : decode cX6_itemsIn 2 = .ok (.aload_n 1, 1) := by decide +kernel
theorem dX6_itemsIn_3 : decode cX6_itemsIn 3 = .ok (.getfield 97, 3) := by decide +kernel
theorem dX6_itemsIn_6 : decode cX6_itemsIn 6 = .ok (.iload_n 2, 1) := by decide +kernel
theorem dX6_itemsIn_7 : decode cX6_itemsIn 7 = .ok (.iaload, 1) := by decide +kernel
theorem dX6_itemsIn_8 : decode cX6_itemsIn 8 = .ok (.istore 4, 2) := by decide +kernel
theorem dX6_itemsIn_10 : decode cX6_itemsIn 10 = .ok (.iload 4, 2) := by decide +kernel
theorem dX6_itemsIn_12 : decode cX6_itemsIn 12 = .ok (.aload_n 1, 1) := by decide +kernel
theorem dX6_itemsIn_13 : decode cX6_itemsIn 13 = .ok (.iload_n 2, 1) := by decide +kernel
theorem dX6_itemsIn_14 : decode cX6_itemsIn 14 = .ok (.invokevirtual 100, 3) := by decide +kernel
theorem dX6_itemsIn_17 : decode cX6_itemsIn 17 = .ok (.if_icmp .ge 19, 3) := by decide +kernel
theorem dX6_itemsIn_20 : decode cX6_itemsIn 20 = .ok (.iload_n 3, 1) := by decide +kernel
theorem dX6_itemsIn_21 : decode cX6_itemsIn 21 = .ok (.aload_n 0, 1) := by decide +kernel
theorem dX6_itemsIn_22 : decode cX6_itemsIn 22 = .ok (.getfield 21, 3) := by decide +kernel
theorem dX6_itemsIn_25 : decode cX6_itemsIn 25 = .ok (.iload 4, 2) := by decide +kernel
theorem dX6_itemsIn_27 : decode cX6_itemsIn 27 = .ok (.iaload, 1) := by decide +kernel
theorem dX6_itemsIn_28 : decode cX6_itemsIn 28 = .ok (.iadd, 1) := by decide +kernel
theorem dX6_itemsIn_29 : decode cX6_itemsIn 29 = .ok (.istore_n 3, 1) := by decide +kernel
theorem dX6_itemsIn_30 : decode cX6_itemsIn 30 = .ok (.iinc 4 1, 3) := by decide +kernel
theorem dX6_itemsIn_33 : decode cX6_itemsIn 33 = .ok (.goto (-23), 3) := by decide +kernel
theorem dX6_itemsIn_36 : decode cX6_itemsIn 36 = .ok (.iload_n 3, 1) := by decide +kernel
theorem dX6_itemsIn_37 : decode cX6_itemsIn 37 = .ok (.ireturn, 1) := by decide +kernel
theorem dX6_lengthIn_0 : decode cX6_lengthIn 0 = .ok (.aload_n 0, 1) := by decide +kernel
theorem dX6_lengthIn_1 : decode cX6_lengthIn 1 = .ok (.aload_n 1, 1) := by decide +kernel
theorem dX6_lengthIn_2 : decode cX6_lengthIn 2 = .ok (.iload_n 2, 1) := by decide +kernel
theorem dX6_lengthIn_3 : decode cX6_lengthIn 3 = .ok (.invokevirtual 103, 3) := by decide +kernel
theorem dX6_lengthIn_6 : decode cX6_lengthIn 6 = .ok (.aload_n 0, 1) := by decide +kernel
theorem dX6_lengthIn_7 : decode cX6_lengthIn 7 = .ok (.getfield 107, 3) := by decide +kernel
theorem dX6_lengthIn_10 : decode cX6_lengthIn 10 = .ok (.ifCond .ne 5, 3) := by decide +kernel
theorem dX6_lengthIn_13 : decode cX6_lengthIn 13 = .ok (.iconst 0, 1) := by decide +kernel
theorem dX6_lengthIn_14 : decode cX6_lengthIn 14 = .ok (.ireturn, 1) := by decide +kernel
theorem dX6_lengthIn_15 : decode cX6_lengthIn 15 = .ok (.aload_n 0, 1) := by decide +kernel
theorem dX6_lengthIn_16 : decode cX6_lengthIn 16 = .ok (.getfield 24, 3) := by decide +kernel
theorem dX6_lengthIn_19 : decode cX6_lengthIn 19 = .ok (.aload_n 0, 1) := by decide +kernel
theorem dX6_lengthIn_20 : decode cX6_lengthIn 20 = .ok (.getfield 107, 3) := by decide +kernel
theorem dX6_lengthIn_23 : decode cX6_lengthIn 23 = .ok (.iconst 1, 1) := by decide +kernel
theorem dX6_lengthIn_24 : decode cX6_lengthIn 24 = .ok (.isub, 1) := by decide +kernel
theorem dX6_lengthIn_25 : decode cX6_lengthIn 25 = .ok (.iaload, 1) := by decide +kernel
theorem dX6_lengthIn_26 : decode cX6_lengthIn 26 = .ok (.istore 4, 2) := by decide +kernel
theorem dX6_lengthIn_28 : decode cX6_lengthIn 28 = .ok (.iconst 2, 1) := by decide +kernel
theorem dX6_lengthIn_29 : decode cX6_lengthIn 29 = .ok (.aload_n 1, 1) := by decide +kernel
theorem dX6_lengthIn_30 : decode cX6_lengthIn 30 = .ok (.getfield 110, 3) := by decide +kernel
theorem dX6_lengthIn_33 : decode cX6_lengthIn 33 = .ok (.imul, 1) := by decide +kernel
theorem dX6_lengthIn_34 : decode cX6_lengthIn 34 = .ok (.iload 4, 2) := by decide +kernel
theorem dX6_lengthIn_36 : decode cX6_lengthIn 36 = .ok (.aload_n 1, 1) := by decide +kernel
theorem dX6_lengthIn_37 : decode cX6_lengthIn 37 = .ok (.getfield 97, 3) := by decide +kernel
theorem dX6_lengthIn_40 : decode cX6_lengthIn 40 = .ok (.iload_n 2, 1) := by decide +kernel
theorem dX6_lengthIn_41 : decode cX6_lengthIn 41 = .ok (.iaload, 1) := by decide +kernel
theorem dX6_lengthIn_42 : decode cX6_lengthIn 42 = .ok (.isub, 1) := by decide +kernel
theorem dX6_lengthIn_43 : decode cX6_lengthIn 43 = .ok (.imul, 1) := by decide +kernel
theorem dX6_lengthIn_44 : decode cX6_lengthIn 44 = .ok (.istore 5, 2) := by decide +kernel
theorem dX6_lengthIn_46 : decode cX6_lengthIn 46 = .ok (.iload_n 3, 1) := by decide +kernel
theorem dX6_lengthIn_47 : decode cX6_lengthIn 47 = .ok (.tableswitch 55 1 3 #[25, 33, 41], 25) := by decide +kernel
theorem dX6_lengthIn_72 : decode cX6_lengthIn 72 = .ok (.iload 5, 2) := by decide +kernel
theorem dX6_lengthIn_74 : decode cX6_lengthIn 74 = .ok (.aload_n 0, 1) := by decide +kernel
theorem dX6_lengthIn_75 : decode cX6_lengthIn 75 = .ok (.invokevirtual 113, 3) := by decide +kernel
theorem dX6_lengthIn_78 : decode cX6_lengthIn 78 = .ok (.iadd, 1) := by decide +kernel
theorem dX6_lengthIn_79 : decode cX6_lengthIn 79 = .ok (.ireturn, 1) := by decide +kernel
theorem dX6_lengthIn_80 : decode cX6_lengthIn 80 = .ok (.iload 5, 2) := by decide +kernel
theorem dX6_lengthIn_82 : decode cX6_lengthIn 82 = .ok (.aload_n 0, 1) := by decide +kernel
theorem dX6_lengthIn_83 : decode cX6_lengthIn 83 = .ok (.invokevirtual 117, 3) := by decide +kernel
theorem dX6_lengthIn_86 : decode cX6_lengthIn 86 = .ok (.iadd, 1) := by decide +kernel
theorem dX6_lengthIn_87 : decode cX6_lengthIn 87 = .ok (.ireturn, 1) := by decide +kernel
theorem dX6_lengthIn_88 : decode cX6_lengthIn 88 = .ok (.aload_n 0, 1) := by decide +kernel
theorem dX6_lengthIn_89 : decode cX6_lengthIn 89 = .ok (.invokevirtual 120, 3) := by decide +kernel
theorem dX6_lengthIn_92 : decode cX6_lengthIn 92 = .ok (.iload 5, 2) := by decide +kernel
theorem dX6_lengthIn_94 : decode cX6_lengthIn 94 = .ok (.aload_n 0, 1) := by decide +kernel
theorem dX6_lengthIn_95 : decode cX6_lengthIn 95 = .ok (.getfield 27, 3) := by decide +kernel
theorem dX6_lengthIn_98 : decode cX6_lengthIn 98 = .ok (.iconst 0, 1) := by decide +kernel
theorem dX6_lengthIn_99 : decode cX6_lengthIn 99 = .ok (.iaload, 1) := by decide +kernel
theorem dX6_lengthIn_100 : decode cX6_lengthIn 100 = .ok (.iadd, 1) := by decide +kernel
theorem dX6_lengthIn_101 : decode cX6_lengthIn 101 = .ok (.ireturn, 1) := by decide +kernel
theorem dX6_lengthIn_102 : decode cX6_lengthIn 102 = .ok (.iload 5, 2) := by decide +kernel
theorem dX6_lengthIn_104 : decode cX6_lengthIn 104 = .ok (.aload_n 0, 1) := by decide +kernel
theorem dX6_lengthIn_105 : decode cX6_lengthIn 105 = .ok (.invokevirtual 123, 3) := by decide +kernel
theorem dX6_lengthIn_108 : decode cX6_lengthIn 108 = .ok (.iadd, 1) := by decide +kernel
theorem dX6_lengthIn_109 : decode cX6_lengthIn 109 = .ok (.ireturn, 1) := by decide +kernel
theorem dX6_findAisles_0 : decode cX6_findAisles 0 = .ok (.aload_n 0, 1) := by decide +kernel
theorem dX6_findAisles_1 : decode cX6_findAisles 1 = .ok (.iconst 0, 1) := by decide +kernel
theorem dX6_findAisles_2 : decode cX6_findAisles 2 = .ok (.putfield 107, 3) := by decide +kernel
theorem dX6_findAisles_5 : decode cX6_findAisles 5 = .ok (.aload_n 1, 1) := by decide +kernel
theorem dX6_findAisles_6 : decode cX6_findAisles 6 = .ok (.getfield 97, 3) := by decide +kernel
theorem dX6_findAisles_9 : decode cX6_findAisles 9 = .ok (.iload_n 2, 1) := by decide +kernel
theorem dX6_findAisles_10 : decode cX6_findAisles 10 = .ok (.iaload, 1) := by decide +kernel
theorem dX6_findAisles_11 : decode cX6_findAisles 11 = .ok (.istore_n 3, 1) := by decide +kernel
theorem dX6_findAisles_12 : decode cX6_findAisles 12 = .ok (.iload_n 3, 1) := by decide +kernel
theorem dX6_findAisles_13 : decode cX6_findAisles 13 = .ok (.aload_n 1, 1) := by decide +kernel
theorem dX6_findAisles_14 : decode cX6_findAisles 14 = .ok (.iload_n 2, 1) := by decide +kernel
theorem dX6_findAisles_15 : decode cX6_findAisles 15 = .ok (.invokevirtual 100, 3) := by decide +kernel
theorem dX6_findAisles_18 : decode cX6_findAisles 18 = .ok (.if_icmp .ge 38, 3) := by decide +kernel
theorem dX6_findAisles_21 : decode cX6_findAisles 21 = .ok (.aload_n 0, 1) := by decide +kernel
theorem dX6_findAisles_22 : decode cX6_findAisles 22 = .ok (.getfield 9, 3) := by decide +kernel
theorem dX6_findAisles_25 : decode cX6_findAisles 25 = .ok (.iload_n 3, 1) := by decide +kernel
theorem dX6_findAisles_26 : decode cX6_findAisles 26 = .ok (.iaload, 1) := by decide +kernel
theorem dX6_findAisles_27 : decode cX6_findAisles 27 = .ok (.ifCond .eq 23, 3) := by decide +kernel
theorem dX6_findAisles_30 : decode cX6_findAisles 30 = .ok (.aload_n 0, 1) := by decide +kernel
theorem dX6_findAisles_31 : decode cX6_findAisles 31 = .ok (.getfield 24, 3) := by decide +kernel
theorem dX6_findAisles_34 : decode cX6_findAisles 34 = .ok (.aload_n 0, 1) := by decide +kernel
theorem dX6_findAisles_35 : decode cX6_findAisles 35 = .ok (.getfield 107, 3) := by decide +kernel
theorem dX6_findAisles_38 : decode cX6_findAisles 38 = .ok (.iload_n 3, 1) := by decide +kernel
theorem dX6_findAisles_39 : decode cX6_findAisles 39 = .ok (.iastore, 1) := by decide +kernel
theorem dX6_findAisles_40 : decode cX6_findAisles 40 = .ok (.aload_n 0, 1) := by decide +kernel
theorem dX6_findAisles_41 : decode cX6_findAisles 41 = .ok (.dup, 1) := by decide +kernel
theorem dX6_findAisles_42 : decode cX6_findAisles 42 = .ok (.getfield 107, 3) := by decide +kernel
theorem dX6_findAisles_45 : decode cX6_findAisles 45 = .ok (.iconst 1, 1) := by decide +kernel
theorem dX6_findAisles_46 : decode cX6_findAisles 46 = .ok (.iadd, 1) := by decide +kernel
theorem dX6_findAisles_47 : decode cX6_findAisles 47 = .ok (.putfield 107, 3) := by decide +kernel
theorem dX6_findAisles_50 : decode cX6_findAisles 50 = .ok (.iinc 3 1, 3) := by decide +kernel
theorem dX6_findAisles_53 : decode cX6_findAisles 53 = .ok (.goto (-41), 3) := by decide +kernel
theorem dX6_findAisles_56 : decode cX6_findAisles 56 = .ok (.return_, 1) := by decide +kernel
theorem dX6_returnCost_0 : decode cX6_returnCost 0 = .ok (.iconst 0, 1) := by decide +kernel
theorem dX6_returnCost_1 : decode cX6_returnCost 1 = .ok (.istore_n 1, 1) := by decide +kernel
theorem dX6_returnCost_2 : decode cX6_returnCost 2 = .ok (.iconst 0, 1) := by decide +kernel
theorem dX6_returnCost_3 : decode cX6_returnCost 3 = .ok (.istore_n 2, 1) := by decide +kernel
theorem dX6_returnCost_4 : decode cX6_returnCost 4 = .ok (.iload_n 2, 1) := by decide +kernel
theorem dX6_returnCost_5 : decode cX6_returnCost 5 = .ok (.aload_n 0, 1) := by decide +kernel
theorem dX6_returnCost_6 : decode cX6_returnCost 6 = .ok (.getfield 107, 3) := by decide +kernel
theorem dX6_returnCost_9 : decode cX6_returnCost 9 = .ok (.if_icmp .ge 25, 3) := by decide +kernel
theorem dX6_returnCost_12 : decode cX6_returnCost 12 = .ok (.iload_n 1, 1) := by decide +kernel
theorem dX6_returnCost_13 : decode cX6_returnCost 13 = .ok (.iconst 2, 1) := by decide +kernel
theorem dX6_returnCost_14 : decode cX6_returnCost 14 = .ok (.aload_n 0, 1) := by decide +kernel
theorem dX6_returnCost_15 : decode cX6_returnCost 15 = .ok (.getfield 18, 3) := by decide +kernel
theorem dX6_returnCost_18 : decode cX6_returnCost 18 = .ok (.aload_n 0, 1) := by decide +kernel
theorem dX6_returnCost_19 : decode cX6_returnCost 19 = .ok (.getfield 24, 3) := by decide +kernel
theorem dX6_returnCost_22 : decode cX6_returnCost 22 = .ok (.iload_n 2, 1) := by decide +kernel
theorem dX6_returnCost_23 : decode cX6_returnCost 23 = .ok (.iaload, 1) := by decide +kernel
theorem dX6_returnCost_24 : decode cX6_returnCost 24 = .ok (.iaload, 1) := by decide +kernel
theorem dX6_returnCost_25 : decode cX6_returnCost 25 = .ok (.imul, 1) := by decide +kernel
theorem dX6_returnCost_26 : decode cX6_returnCost 26 = .ok (.iadd, 1) := by decide +kernel
theorem dX6_returnCost_27 : decode cX6_returnCost 27 = .ok (.istore_n 1, 1) := by decide +kernel
theorem dX6_returnCost_28 : decode cX6_returnCost 28 = .ok (.iinc 2 1, 3) := by decide +kernel
theorem dX6_returnCost_31 : decode cX6_returnCost 31 = .ok (.goto (-27), 3) := by decide +kernel
theorem dX6_returnCost_34 : decode cX6_returnCost 34 = .ok (.iload_n 1, 1) := by decide +kernel
theorem dX6_returnCost_35 : decode cX6_returnCost 35 = .ok (.ireturn, 1) := by decide +kernel
theorem dX6_sShapeCost_0 : decode cX6_sShapeCost 0 = .ok (.aload_n 0, 1) := by decide +kernel
theorem dX6_sShapeCost_1 : decode cX6_sShapeCost 1 = .ok (.getfield 107, 3) := by decide +kernel
theorem dX6_sShapeCost_4 : decode cX6_sShapeCost 4 = .ok (.iconst 2, 1) := by decide +kernel
theorem dX6_sShapeCost_5 : decode cX6_sShapeCost 5 = .ok (.irem, 1) := by decide +kernel
theorem dX6_sShapeCost_6 : decode cX6_sShapeCost 6 = .ok (.ifCond .ne 13, 3) := by decide +kernel
theorem dX6_sShapeCost_9 : decode cX6_sShapeCost 9 = .ok (.aload_n 0, 1) := by decide +kernel
theorem dX6_sShapeCost_10 : decode cX6_sShapeCost 10 = .ok (.getfield 107, 3) := by decide +kernel
theorem dX6_sShapeCost_13 : decode cX6_sShapeCost 13 = .ok (.aload_n 0, 1) := by decide +kernel
theorem dX6_sShapeCost_14 : decode cX6_sShapeCost 14 = .ok (.getfield 55, 3) := by decide +kernel
theorem dX6_sShapeCost_17 : decode cX6_sShapeCost 17 = .ok (.imul, 1) := by decide +kernel
theorem dX6_sShapeCost_18 : decode cX6_sShapeCost 18 = .ok (.ireturn, 1) := by decide +kernel
theorem dX6_sShapeCost_19 : decode cX6_sShapeCost 19 = .ok (.aload_n 0, 1) := by decide +kernel
theorem dX6_sShapeCost_20 : decode cX6_sShapeCost 20 = .ok (.getfield 107, 3) := by decide +kernel
theorem dX6_sShapeCost_23 : decode cX6_sShapeCost 23 = .ok (.iconst 1, 1) := by decide +kernel
theorem dX6_sShapeCost_24 : decode cX6_sShapeCost 24 = .ok (.isub, 1) := by decide +kernel
theorem dX6_sShapeCost_25 : decode cX6_sShapeCost 25 = .ok (.aload_n 0, 1) := by decide +kernel
theorem dX6_sShapeCost_26 : decode cX6_sShapeCost 26 = .ok (.getfield 55, 3) := by decide +kernel
theorem dX6_sShapeCost_29 : decode cX6_sShapeCost 29 = .ok (.imul, 1) := by decide +kernel
theorem dX6_sShapeCost_30 : decode cX6_sShapeCost 30 = .ok (.iconst 2, 1) := by decide +kernel
theorem dX6_sShapeCost_31 : decode cX6_sShapeCost 31 = .ok (.aload_n 0, 1) := by decide +kernel
theorem dX6_sShapeCost_32 : decode cX6_sShapeCost 32 = .ok (.getfield 18, 3) := by decide +kernel
theorem dX6_sShapeCost_35 : decode cX6_sShapeCost 35 = .ok (.aload_n 0, 1) := by decide +kernel
theorem dX6_sShapeCost_36 : decode cX6_sShapeCost 36 = .ok (.getfield 24, 3) := by decide +kernel
theorem dX6_sShapeCost_39 : decode cX6_sShapeCost 39 = .ok (.aload_n 0, 1) := by decide +kernel
theorem dX6_sShapeCost_40 : decode cX6_sShapeCost 40 = .ok (.getfield 107, 3) := by decide +kernel
theorem dX6_sShapeCost_43 : decode cX6_sShapeCost 43 = .ok (.iconst 1, 1) := by decide +kernel
theorem dX6_sShapeCost_44 : decode cX6_sShapeCost 44 = .ok (.isub, 1) := by decide +kernel
theorem dX6_sShapeCost_45 : decode cX6_sShapeCost 45 = .ok (.iaload, 1) := by decide +kernel
theorem dX6_sShapeCost_46 : decode cX6_sShapeCost 46 = .ok (.iaload, 1) := by decide +kernel
theorem dX6_sShapeCost_47 : decode cX6_sShapeCost 47 = .ok (.imul, 1) := by decide +kernel
theorem dX6_sShapeCost_48 : decode cX6_sShapeCost 48 = .ok (.iadd, 1) := by decide +kernel
theorem dX6_sShapeCost_49 : decode cX6_sShapeCost 49 = .ok (.ireturn, 1) := by decide +kernel
theorem dX6_largestGapCost_0 : decode cX6_largestGapCost 0 = .ok (.aload_n 0, 1) := by decide +kernel
theorem dX6_largestGapCost_1 : decode cX6_largestGapCost 1 = .ok (.getfield 107, 3) := by decide +kernel
theorem dX6_largestGapCost_4 : decode cX6_largestGapCost 4 = .ok (.iconst 2, 1) := by decide +kernel
theorem dX6_largestGapCost_5 : decode cX6_largestGapCost 5 = .ok (.if_icmp .ge 8, 3) := by decide +kernel
theorem dX6_largestGapCost_8 : decode cX6_largestGapCost 8 = .ok (.aload_n 0, 1) := by decide +kernel
theorem dX6_largestGapCost_9 : decode cX6_largestGapCost 9 = .ok (.invokevirtual 123, 3) := by decide +kernel
theorem dX6_largestGapCost_12 : decode cX6_largestGapCost 12 = .ok (.ireturn, 1) := by decide +kernel
theorem dX6_largestGapCost_13 : decode cX6_largestGapCost 13 = .ok (.iconst 2, 1) := by decide +kernel
theorem dX6_largestGapCost_14 : decode cX6_largestGapCost 14 = .ok (.aload_n 0, 1) := by decide +kernel
theorem dX6_largestGapCost_15 : decode cX6_largestGapCost 15 = .ok (.getfield 55, 3) := by decide +kernel
theorem dX6_largestGapCost_18 : decode cX6_largestGapCost 18 = .ok (.imul, 1) := by decide +kernel
theorem dX6_largestGapCost_19 : decode cX6_largestGapCost 19 = .ok (.istore_n 1, 1) := by decide +kernel
theorem dX6_largestGapCost_20 : decode cX6_largestGapCost 20 = .ok (.iconst 1, 1) := by decide +kernel
theorem dX6_largestGapCost_21 : decode cX6_largestGapCost 21 = .ok (.istore_n 2, 1) := by decide +kernel
theorem dX6_largestGapCost_22 : decode cX6_largestGapCost 22 = .ok (.iload_n 2, 1) := by decide +kernel
theorem dX6_largestGapCost_23 : decode cX6_largestGapCost 23 = .ok (.aload_n 0, 1) := by decide +kernel
theorem dX6_largestGapCost_24 : decode cX6_largestGapCost 24 = .ok (.getfield 107, 3) := by decide +kernel
theorem dX6_largestGapCost_27 : decode cX6_largestGapCost 27 = .ok (.iconst 1, 1) := by decide +kernel
theorem dX6_largestGapCost_28 : decode cX6_largestGapCost 28 = .ok (.isub, 1) := by decide +kernel
theorem dX6_largestGapCost_29 : decode cX6_largestGapCost 29 = .ok (.if_icmp .ge 33, 3) := by decide +kernel
theorem dX6_largestGapCost_32 : decode cX6_largestGapCost 32 = .ok (.aload_n 0, 1) := by decide +kernel
theorem dX6_largestGapCost_33 : decode cX6_largestGapCost 33 = .ok (.aload_n 0, 1) := by decide +kernel
theorem dX6_largestGapCost_34 : decode cX6_largestGapCost 34 = .ok (.getfield 24, 3) := by decide +kernel
theorem dX6_largestGapCost_37 : decode cX6_largestGapCost 37 = .ok (.iload_n 2, 1) := by decide +kernel
theorem dX6_largestGapCost_38 : decode cX6_largestGapCost 38 = .ok (.iaload, 1) := by decide +kernel
theorem dX6_largestGapCost_39 : decode cX6_largestGapCost 39 = .ok (.invokevirtual 126, 3) := by decide +kernel
theorem dX6_largestGapCost_42 : decode cX6_largestGapCost 42 = .ok (.iload_n 1, 1) := by decide +kernel
theorem dX6_largestGapCost_43 : decode cX6_largestGapCost 43 = .ok (.iconst 2, 1) := by decide +kernel
theorem dX6_largestGapCost_44 : decode cX6_largestGapCost 44 = .ok (.aload_n 0, 1) := by decide +kernel
theorem dX6_largestGapCost_45 : decode cX6_largestGapCost 45 = .ok (.getfield 55, 3) := by decide +kernel
theorem dX6_largestGapCost_48 : decode cX6_largestGapCost 48 = .ok (.aload_n 0, 1) := by decide +kernel
theorem dX6_largestGapCost_49 : decode cX6_largestGapCost 49 = .ok (.getfield 130, 3) := by decide +kernel
theorem dX6_largestGapCost_52 : decode cX6_largestGapCost 52 = .ok (.isub, 1) := by decide +kernel
theorem dX6_largestGapCost_53 : decode cX6_largestGapCost 53 = .ok (.imul, 1) := by decide +kernel
theorem dX6_largestGapCost_54 : decode cX6_largestGapCost 54 = .ok (.iadd, 1) := by decide +kernel
theorem dX6_largestGapCost_55 : decode cX6_largestGapCost 55 = .ok (.istore_n 1, 1) := by decide +kernel
theorem dX6_largestGapCost_56 : decode cX6_largestGapCost 56 = .ok (.iinc 2 1, 3) := by decide +kernel
theorem dX6_largestGapCost_59 : decode cX6_largestGapCost 59 = .ok (.goto (-37), 3) := by decide +kernel
theorem dX6_largestGapCost_62 : decode cX6_largestGapCost 62 = .ok (.iload_n 1, 1) := by decide +kernel
theorem dX6_largestGapCost_63 : decode cX6_largestGapCost 63 = .ok (.ireturn, 1) := by decide +kernel
theorem dX6_findLargestGap_0 : decode cX6_findLargestGap 0 = .ok (.aload_n 0, 1) := by decide +kernel
theorem dX6_findLargestGap_1 : decode cX6_findLargestGap 1 = .ok (.iconst 0, 1) := by decide +kernel
theorem dX6_findLargestGap_2 : decode cX6_findLargestGap 2 = .ok (.putfield 133, 3) := by decide +kernel
theorem dX6_findLargestGap_5 : decode cX6_findLargestGap 5 = .ok (.aload_n 0, 1) := by decide +kernel
theorem dX6_findLargestGap_6 : decode cX6_findLargestGap 6 = .ok (.iconst 0, 1) := by decide +kernel
theorem dX6_findLargestGap_7 : decode cX6_findLargestGap 7 = .ok (.putfield 130, 3) := by decide +kernel
theorem dX6_findLargestGap_10 : decode cX6_findLargestGap 10 = .ok (.iconst 0, 1) := by decide +kernel
theorem dX6_findLargestGap_11 : decode cX6_findLargestGap 11 = .ok (.istore_n 2, 1) := by decide +kernel
theorem dX6_findLargestGap_12 : decode cX6_findLargestGap 12 = .ok (.iconst 1, 1) := by decide +kernel
theorem dX6_findLargestGap_13 : decode cX6_findLargestGap 13 = .ok (.istore_n 3, 1) := by decide +kernel
theorem dX6_findLargestGap_14 : decode cX6_findLargestGap 14 = .ok (.iload_n 3, 1) := by decide +kernel
theorem dX6_findLargestGap_15 : decode cX6_findLargestGap 15 = .ok (.aload_n 0, 1) := by decide +kernel
theorem dX6_findLargestGap_16 : decode cX6_findLargestGap 16 = .ok (.getfield 55, 3) := by decide +kernel
theorem dX6_findLargestGap_19 : decode cX6_findLargestGap 19 = .ok (.if_icmp .gt 71, 3) := by decide +kernel
theorem dX6_findLargestGap_22 : decode cX6_findLargestGap 22 = .ok (.iload_n 3, 1) := by decide +kernel
theorem dX6_findLargestGap_23 : decode cX6_findLargestGap 23 = .ok (.aload_n 0, 1) := by decide +kernel
theorem dX6_findLargestGap_24 : decode cX6_findLargestGap 24 = .ok (.getfield 55, 3) := by decide +kernel
theorem dX6_findLargestGap_27 : decode cX6_findLargestGap 27 = .ok (.if_icmp .eq 16, 3) := by decide +kernel
theorem dX6_findLargestGap_30 : decode cX6_findLargestGap 30 = .ok (.aload_n 0, 1) := by decide +kernel
theorem dX6_findLargestGap_31 : decode cX6_findLargestGap 31 = .ok (.getfield 9, 3) := by decide +kernel
theorem dX6_findLargestGap_34 : decode cX6_findLargestGap 34 = .ok (.iload_n 1, 1) := by decide +kernel
theorem dX6_findLargestGap_35 : decode cX6_findLargestGap 35 = .ok (.iaload, 1) := by decide +kernel
theorem dX6_findLargestGap_36 : decode cX6_findLargestGap 36 = .ok (.iload_n 3, 1) := by decide +kernel
theorem dX6_findLargestGap_37 : decode cX6_findLargestGap 37 = .ok (.ishr, 1) := by decide +kernel
theorem dX6_findLargestGap_38 : decode cX6_findLargestGap 38 = .ok (.iconst 1, 1) := by decide +kernel
theorem dX6_findLargestGap_39 : decode cX6_findLargestGap 39 = .ok (.iand, 1) := by decide +kernel
theorem dX6_findLargestGap_40 : decode cX6_findLargestGap 40 = .ok (.ifCond .eq 7, 3) := by decide +kernel
theorem dX6_findLargestGap_43 : decode cX6_findLargestGap 43 = .ok (.iconst 1, 1) := by decide +kernel
theorem dX6_findLargestGap_44 : decode cX6_findLargestGap 44 = .ok (.goto 4, 3) := by decide +kernel
theorem dX6_findLargestGap_47 : decode cX6_findLargestGap 47 = .ok (.iconst 0, 1) := by decide +kernel
theorem dX6_findLargestGap_48 : decode cX6_findLargestGap 48 = .ok (.istore 4, 2) := by decide +kernel
theorem dX6_findLargestGap_50 : decode cX6_findLargestGap 50 = .ok (.iload 4, 2) := by decide +kernel
theorem dX6_findLargestGap_52 : decode cX6_findLargestGap 52 = .ok (.ifCond .eq 25, 3) := by decide +kernel
theorem dX6_findLargestGap_55 : decode cX6_findLargestGap 55 = .ok (.iload_n 3, 1) := by decide +kernel
theorem dX6_findLargestGap_56 : decode cX6_findLargestGap 56 = .ok (.iload_n 2, 1) := by decide +kernel
theorem dX6_findLargestGap_57 : decode cX6_findLargestGap 57 = .ok (.isub, 1) := by decide +kernel
theorem dX6_findLargestGap_58 : decode cX6_findLargestGap 58 = .ok (.aload_n 0, 1) := by decide +kernel
theorem dX6_findLargestGap_59 : decode cX6_findLargestGap 59 = .ok (.getfield 130, 3) := by decide +kernel
theorem dX6_findLargestGap_62 : decode cX6_findLargestGap 62 = .ok (.if_icmp .le 15, 3) := by decide +kernel
theorem dX6_findLargestGap_65 : decode cX6_findLargestGap 65 = .ok (.aload_n 0, 1) := by decide +kernel
theorem dX6_findLargestGap_66 : decode cX6_findLargestGap 66 = .ok (.iload_n 2, 1) := by decide +kernel
theorem dX6_findLargestGap_67 : decode cX6_findLargestGap 67 = .ok (.putfield 133, 3) := by decide +kernel
theorem dX6_findLargestGap_70 : decode cX6_findLargestGap 70 = .ok (.aload_n 0, 1) := by decide +kernel
theorem dX6_findLargestGap_71 : decode cX6_findLargestGap 71 = .ok (.iload_n 3, 1) := by decide +kernel
theorem dX6_findLargestGap_72 : decode cX6_findLargestGap 72 = .ok (.iload_n 2, 1) := by decide +kernel
theorem dX6_findLargestGap_73 : decode cX6_findLargestGap 73 = .ok (.isub, 1) := by decide +kernel
theorem dX6_findLargestGap_74 : decode cX6_findLargestGap 74 = .ok (.putfield 130, 3) := by decide +kernel
theorem dX6_findLargestGap_77 : decode cX6_findLargestGap 77 = .ok (.iload 4, 2) := by decide +kernel
theorem dX6_findLargestGap_79 : decode cX6_findLargestGap 79 = .ok (.ifCond .eq 5, 3) := by decide +kernel
theorem dX6_findLargestGap_82 : decode cX6_findLargestGap 82 = .ok (.iload_n 3, 1) := by decide +kernel
theorem dX6_findLargestGap_83 : decode cX6_findLargestGap 83 = .ok (.istore_n 2, 1) := by decide +kernel
theorem dX6_findLargestGap_84 : decode cX6_findLargestGap 84 = .ok (.iinc 3 1, 3) := by decide +kernel
theorem dX6_findLargestGap_87 : decode cX6_findLargestGap 87 = .ok (.goto (-73), 3) := by decide +kernel
theorem dX6_findLargestGap_90 : decode cX6_findLargestGap 90 = .ok (.return_, 1) := by decide +kernel
theorem dX6_planCombined_0 : decode cX6_planCombined 0 = .ok (.aload_n 0, 1) := by decide +kernel
theorem dX6_planCombined_1 : decode cX6_planCombined 1 = .ok (.getfield 27, 3) := by decide +kernel
theorem dX6_planCombined_4 : decode cX6_planCombined 4 = .ok (.aload_n 0, 1) := by decide +kernel
theorem dX6_planCombined_5 : decode cX6_planCombined 5 = .ok (.getfield 107, 3) := by decide +kernel
theorem dX6_planCombined_8 : decode cX6_planCombined 8 = .ok (.iconst 0, 1) := by decide +kernel
theorem dX6_planCombined_9 : decode cX6_planCombined 9 = .ok (.iastore, 1) := by decide +kernel
theorem dX6_planCombined_10 : decode cX6_planCombined 10 = .ok (.aload_n 0, 1) := by decide +kernel
theorem dX6_planCombined_11 : decode cX6_planCombined 11 = .ok (.getfield 30, 3) := by decide +kernel
theorem dX6_planCombined_14 : decode cX6_planCombined 14 = .ok (.aload_n 0, 1) := by decide +kernel
theorem dX6_planCombined_15 : decode cX6_planCombined 15 = .ok (.getfield 107, 3) := by decide +kernel
theorem dX6_planCombined_18 : decode cX6_planCombined 18 = .ok (.ldc 136, 2) := by decide +kernel
theorem dX6_planCombined_20 : decode cX6_planCombined 20 = .ok (.iastore, 1) := by decide +kernel
theorem dX6_planCombined_21 : decode cX6_planCombined 21 = .ok (.aload_n 0, 1) := by decide +kernel
theorem dX6_planCombined_22 : decode cX6_planCombined 22 = .ok (.getfield 107, 3) := by decide +kernel
theorem dX6_planCombined_25 : decode cX6_planCombined 25 = .ok (.iconst 1, 1) := by decide +kernel
theorem dX6_planCombined_26 : decode cX6_planCombined 26 = .ok (.isub, 1) := by decide +kernel
theorem dX6_planCombined_27 : decode cX6_planCombined 27 = .ok (.istore_n 1, 1) := by decide +kernel
theorem dX6_planCombined_28 : decode cX6_planCombined 28 = .ok (.iload_n 1, 1) := by decide +kernel
theorem dX6_planCombined_29 : decode cX6_planCombined 29 = .ok (.ifCond .lt 51, 3) := by decide +kernel
theorem dX6_planCombined_32 : decode cX6_planCombined 32 = .ok (.aload_n 0, 1) := by decide +kernel
theorem dX6_planCombined_33 : decode cX6_planCombined 33 = .ok (.getfield 27, 3) := by decide +kernel
theorem dX6_planCombined_36 : decode cX6_planCombined 36 = .ok (.iload_n 1, 1) := by decide +kernel
theorem dX6_planCombined_37 : decode cX6_planCombined 37 = .ok (.aload_n 0, 1) := by decide +kernel
theorem dX6_planCombined_38 : decode cX6_planCombined 38 = .ok (.iload_n 1, 1) := by decide +kernel
theorem dX6_planCombined_39 : decode cX6_planCombined 39 = .ok (.iconst 0, 1) := by decide +kernel
theorem dX6_planCombined_40 : decode cX6_planCombined 40 = .ok (.invokevirtual 137, 3) := by decide +kernel
theorem dX6_planCombined_43 : decode cX6_planCombined 43 = .ok (.aload_n 0, 1) := by decide +kernel
theorem dX6_planCombined_44 : decode cX6_planCombined 44 = .ok (.iload_n 1, 1) := by decide +kernel
theorem dX6_planCombined_45 : decode cX6_planCombined 45 = .ok (.iconst 0, 1) := by decide +kernel
theorem dX6_planCombined_46 : decode cX6_planCombined 46 = .ok (.invokevirtual 140, 3) := by decide +kernel
theorem dX6_planCombined_49 : decode cX6_planCombined 49 = .ok (.invokestatic 77, 3) := by decide +kernel
theorem dX6_planCombined_52 : decode cX6_planCombined 52 = .ok (.iastore, 1) := by decide +kernel
theorem dX6_planCombined_53 : decode cX6_planCombined 53 = .ok (.aload_n 0, 1) := by decide +kernel
theorem dX6_planCombined_54 : decode cX6_planCombined 54 = .ok (.getfield 30, 3) := by decide +kernel
theorem dX6_planCombined_57 : decode cX6_planCombined 57 = .ok (.iload_n 1, 1) := by decide +kernel
theorem dX6_planCombined_58 : decode cX6_planCombined 58 = .ok (.aload_n 0, 1) := by decide +kernel
theorem dX6_planCombined_59 : decode cX6_planCombined 59 = .ok (.iload_n 1, 1) := by decide +kernel
theorem dX6_planCombined_60 : decode cX6_planCombined 60 = .ok (.iconst 1, 1) := by decide +kernel
theorem dX6_planCombined_61 : decode cX6_planCombined 61 = .ok (.invokevirtual 137, 3) := by decide +kernel
theorem dX6_planCombined_64 : decode cX6_planCombined 64 = .ok (.aload_n 0, 1) := by decide +kernel
theorem dX6_planCombined_65 : decode cX6_planCombined 65 = .ok (.iload_n 1, 1) := by decide +kernel
theorem dX6_planCombined_66 : decode cX6_planCombined 66 = .ok (.iconst 1, 1) := by decide +kernel
theorem dX6_planCombined_67 : decode cX6_planCombined 67 = .ok (.invokevirtual 140, 3) := by decide +kernel
theorem dX6_planCombined_70 : decode cX6_planCombined 70 = .ok (.invokestatic 77, 3) := by decide +kernel
theorem dX6_planCombined_73 : decode cX6_planCombined 73 = .ok (.iastore, 1) := by decide +kernel
theorem dX6_planCombined_74 : decode cX6_planCombined 74 = .ok (.iinc 1 (-1), 3) := by decide +kernel
theorem dX6_planCombined_77 : decode cX6_planCombined 77 = .ok (.goto (-49), 3) := by decide +kernel
theorem dX6_planCombined_80 : decode cX6_planCombined 80 = .ok (.return_, 1) := by decide +kernel
theorem dX6_stayingCost_0 : decode cX6_stayingCost 0 = .ok (.aload_n 0, 1) := by decide +kernel
theorem dX6_stayingCost_1 : decode cX6_stayingCost 1 = .ok (.getfield 24, 3) := by decide +kernel
theorem dX6_stayingCost_4 : decode cX6_stayingCost 4 = .ok (.iload_n 1, 1) := by decide +kernel
theorem dX6_stayingCost_5 : decode cX6_stayingCost 5 = .ok (.iaload, 1) := by decide +kernel
theorem dX6_stayingCost_6 : decode cX6_stayingCost 6 = .ok (.istore_n 3, 1) := by decide +kernel
theorem dX6_stayingCost_7 : decode cX6_stayingCost 7 = .ok (.iload_n 2, 1) := by decide +kernel
theorem dX6_stayingCost_8 : decode cX6_stayingCost 8 = .ok (.ifCond .ne 21, 3) := by decide +kernel
theorem dX6_stayingCost_11 : decode cX6_stayingCost 11 = .ok (.iconst 2, 1) := by decide +kernel
theorem dX6_stayingCost_12 : decode cX6_stayingCost 12 = .ok (.aload_n 0, 1) := by decide +kernel
theorem dX6_stayingCost_13 : decode cX6_stayingCost 13 = .ok (.getfield 18, 3) := by decide +kernel
theorem dX6_stayingCost_16 : decode cX6_stayingCost 16 = .ok (.iload_n 3, 1) := by decide +kernel
theorem dX6_stayingCost_17 : decode cX6_stayingCost 17 = .ok (.iaload, 1) := by decide +kernel
theorem dX6_stayingCost_18 : decode cX6_stayingCost 18 = .ok (.imul, 1) := by decide +kernel
theorem dX6_stayingCost_19 : decode cX6_stayingCost 19 = .ok (.aload_n 0, 1) := by decide +kernel
theorem dX6_stayingCost_20 : decode cX6_stayingCost 20 = .ok (.getfield 27, 3) := by decide +kernel
theorem dX6_stayingCost_23 : decode cX6_stayingCost 23 = .ok (.iload_n 1, 1) := by decide +kernel
theorem dX6_stayingCost_24 : decode cX6_stayingCost 24 = .ok (.iconst 1, 1) := by decide +kernel
theorem dX6_stayingCost_25 : decode cX6_stayingCost 25 = .ok (.iadd, 1) := by decide +kernel
theorem dX6_stayingCost_26 : decode cX6_stayingCost 26 = .ok (.iaload, 1) := by decide +kernel
theorem dX6_stayingCost_27 : decode cX6_stayingCost 27 = .ok (.iadd, 1) := by decide +kernel
theorem dX6_stayingCost_28 : decode cX6_stayingCost 28 = .ok (.ireturn, 1) := by decide +kernel
theorem dX6_stayingCost_29 : decode cX6_stayingCost 29 = .ok (.iconst 2, 1) := by decide +kernel
theorem dX6_stayingCost_30 : decode cX6_stayingCost 30 = .ok (.aload_n 0, 1) := by decide +kernel
theorem dX6_stayingCost_31 : decode cX6_stayingCost 31 = .ok (.getfield 55, 3) := by decide +kernel
theorem dX6_stayingCost_34 : decode cX6_stayingCost 34 = .ok (.aload_n 0, 1) := by decide +kernel
theorem dX6_stayingCost_35 : decode cX6_stayingCost 35 = .ok (.getfield 15, 3) := by decide +kernel
theorem dX6_stayingCost_38 : decode cX6_stayingCost 38 = .ok (.iload_n 3, 1) := by decide +kernel
theorem dX6_stayingCost_39 : decode cX6_stayingCost 39 = .ok (.iaload, 1) := by decide +kernel
theorem dX6_stayingCost_40 : decode cX6_stayingCost 40 = .ok (.isub, 1) := by decide +kernel
theorem dX6_stayingCost_41 : decode cX6_stayingCost 41 = .ok (.imul, 1) := by decide +kernel
theorem dX6_stayingCost_42 : decode cX6_stayingCost 42 = .ok (.aload_n 0, 1) := by decide +kernel
theorem dX6_stayingCost_43 : decode cX6_stayingCost 43 = .ok (.getfield 30, 3) := by decide +kernel
theorem dX6_stayingCost_46 : decode cX6_stayingCost 46 = .ok (.iload_n 1, 1) := by decide +kernel
theorem dX6_stayingCost_47 : decode cX6_stayingCost 47 = .ok (.iconst 1, 1) := by decide +kernel
theorem dX6_stayingCost_48 : decode cX6_stayingCost 48 = .ok (.iadd, 1) := by decide +kernel
theorem dX6_stayingCost_49 : decode cX6_stayingCost 49 = .ok (.iaload, 1) := by decide +kernel
theorem dX6_stayingCost_50 : decode cX6_stayingCost 50 = .ok (.iadd, 1) := by decide +kernel
theorem dX6_stayingCost_51 : decode cX6_stayingCost 51 = .ok (.ireturn, 1) := by decide +kernel
theorem dX6_crossingCost_0 : decode cX6_crossingCost 0 = .ok (.aload_n 0, 1) := by decide +kernel
theorem dX6_crossingCost_1 : decode cX6_crossingCost 1 = .ok (.getfield 55, 3) := by decide +kernel
theorem dX6_crossingCost_4 : decode cX6_crossingCost 4 = .ok (.iload_n 2, 1) := by decide +kernel
theorem dX6_crossingCost_5 : decode cX6_crossingCost 5 = .ok (.ifCond .ne 14, 3) := by decide +kernel
theorem dX6_crossingCost_8 : decode cX6_crossingCost 8 = .ok (.aload_n 0, 1) := by decide +kernel
theorem dX6_crossingCost_9 : decode cX6_crossingCost 9 = .ok (.getfield 30, 3) := by decide +kernel
theorem dX6_crossingCost_12 : decode cX6_crossingCost 12 = .ok (.iload_n 1, 1) := by decide +kernel
theorem dX6_crossingCost_13 : decode cX6_crossingCost 13 = .ok (.iconst 1, 1) := by decide +kernel
theorem dX6_crossingCost_14 : decode cX6_crossingCost 14 = .ok (.iadd, 1) := by decide +kernel
theorem dX6_crossingCost_15 : decode cX6_crossingCost 15 = .ok (.iaload, 1) := by decide +kernel
theorem dX6_crossingCost_16 : decode cX6_crossingCost 16 = .ok (.goto 11, 3) := by decide +kernel
theorem dX6_crossingCost_19 : decode cX6_crossingCost 19 = .ok (.aload_n 0, 1) := by decide +kernel
theorem dX6_crossingCost_20 : decode cX6_crossingCost 20 = .ok (.getfield 27, 3) := by decide +kernel
theorem dX6_crossingCost_23 : decode cX6_crossingCost 23 = .ok (.iload_n 1, 1) := by decide +kernel
theorem dX6_crossingCost_24 : decode cX6_crossingCost 24 = .ok (.iconst 1, 1) := by decide +kernel
theorem dX6_crossingCost_25 : decode cX6_crossingCost 25 = .ok (.iadd, 1) := by decide +kernel
theorem dX6_crossingCost_26 : decode cX6_crossingCost 26 = .ok (.iaload, 1) := by decide +kernel
theorem dX6_crossingCost_27 : decode cX6_crossingCost 27 = .ok (.iadd, 1) := by decide +kernel
theorem dX6_crossingCost_28 : decode cX6_crossingCost 28 = .ok (.ireturn, 1) := by decide +kernel
theorem dX6_listStops_0 : decode cX6_listStops 0 = .ok (.aload_n 1, 1) := by decide +kernel
theorem dX6_listStops_1 : decode cX6_listStops 1 = .ok (.getfield 46, 3) := by decide +kernel
theorem dX6_listStops_4 : decode cX6_listStops 4 = .ok (.astore_n 3, 1) := by decide +kernel
theorem dX6_listStops_5 : decode cX6_listStops 5 = .ok (.aload_n 0, 1) := by decide +kernel
theorem dX6_listStops_6 : decode cX6_listStops 6 = .ok (.aload_n 3, 1) := by decide +kernel
theorem dX6_listStops_7 : decode cX6_listStops 7 = .ok (.iload_n 2, 1) := by decide +kernel
theorem dX6_listStops_8 : decode cX6_listStops 8 = .ok (.invokevirtual 103, 3) := by decide +kernel
theorem dX6_listStops_11 : decode cX6_listStops 11 = .ok (.aload_n 0, 1) := by decide +kernel
theorem dX6_listStops_12 : decode cX6_listStops 12 = .ok (.iconst 0, 1) := by decide +kernel
theorem dX6_listStops_13 : decode cX6_listStops 13 = .ok (.putfield 143, 3) := by decide +kernel
theorem dX6_listStops_16 : decode cX6_listStops 16 = .ok (.aload_n 3, 1) := by decide +kernel
theorem dX6_listStops_17 : decode cX6_listStops 17 = .ok (.getfield 146, 3) := by decide +kernel
theorem dX6_listStops_20 : decode cX6_listStops 20 = .ok (.tableswitch 56 1 3 #[28, 36, 44], 28) := by decide +kernel
theorem dX6_listStops_48 : decode cX6_listStops 48 = .ok (.aload_n 0, 1) := by decide +kernel
theorem dX6_listStops_49 : decode cX6_listStops 49 = .ok (.aload_n 1, 1) := by decide +kernel
theorem dX6_listStops_50 : decode cX6_listStops 50 = .ok (.invokevirtual 149, 3) := by decide +kernel
theorem dX6_listStops_53 : decode cX6_listStops 53 = .ok (.goto 28, 3) := by decide +kernel
theorem dX6_listStops_56 : decode cX6_listStops 56 = .ok (.aload_n 0, 1) := by decide +kernel
theorem dX6_listStops_57 : decode cX6_listStops 57 = .ok (.aload_n 1, 1) := by decide +kernel
theorem dX6_listStops_58 : decode cX6_listStops 58 = .ok (.invokevirtual 153, 3) := by decide +kernel
theorem dX6_listStops_61 : decode cX6_listStops 61 = .ok (.goto 20, 3) := by decide +kernel
theorem dX6_listStops_64 : decode cX6_listStops 64 = .ok (.aload_n 0, 1) := by decide +kernel
theorem dX6_listStops_65 : decode cX6_listStops 65 = .ok (.invokevirtual 120, 3) := by decide +kernel
theorem dX6_listStops_68 : decode cX6_listStops 68 = .ok (.aload_n 0, 1) := by decide +kernel
theorem dX6_listStops_69 : decode cX6_listStops 69 = .ok (.aload_n 1, 1) := by decide +kernel
theorem dX6_listStops_70 : decode cX6_listStops 70 = .ok (.invokevirtual 156, 3) := by decide +kernel
theorem dX6_listStops_73 : decode cX6_listStops 73 = .ok (.goto 8, 3) := by decide +kernel
theorem dX6_listStops_76 : decode cX6_listStops 76 = .ok (.aload_n 0, 1) := by decide +kernel
theorem dX6_listStops_77 : decode cX6_listStops 77 = .ok (.aload_n 1, 1) := by decide +kernel
theorem dX6_listStops_78 : decode cX6_listStops 78 = .ok (.invokevirtual 159, 3) := by decide +kernel
theorem dX6_listStops_81 : decode cX6_listStops 81 = .ok (.return_, 1) := by decide +kernel
theorem dX6_listReturn_0 : decode cX6_listReturn 0 = .ok (.iconst 0, 1) := by decide +kernel
theorem dX6_listReturn_1 : decode cX6_listReturn 1 = .ok (.istore_n 2, 1) := by decide +kernel
theorem dX6_listReturn_2 : decode cX6_listReturn 2 = .ok (.iload_n 2, 1) := by decide +kernel
theorem dX6_listReturn_3 : decode cX6_listReturn 3 = .ok (.aload_n 0, 1) := by decide +kernel
theorem dX6_listReturn_4 : decode cX6_listReturn 4 = .ok (.getfield 107, 3) := by decide +kernel
theorem dX6_listReturn_7 : decode cX6_listReturn 7 = .ok (.if_icmp .ge 22, 3) := by decide +kernel
theorem dX6_listReturn_10 : decode cX6_listReturn 10 = .ok (.aload_n 0, 1) := by decide +kernel
theorem dX6_listReturn_11 : decode cX6_listReturn 11 = .ok (.aload_n 1, 1) := by decide +kernel
theorem dX6_listReturn_12 : decode cX6_listReturn 12 = .ok (.aload_n 0, 1) := by decide +kernel
theorem dX6_listReturn_13 : decode cX6_listReturn 13 = .ok (.getfield 24, 3) := by decide +kernel
theorem dX6_listReturn_16 : decode cX6_listReturn 16 = .ok (.iload_n 2, 1) := by decide +kernel
theorem dX6_listReturn_17 : decode cX6_listReturn 17 = .ok (.iaload, 1) := by decide +kernel
theorem dX6_listReturn_18 : decode cX6_listReturn 18 = .ok (.bipush 20, 2) := by decide +kernel
theorem dX6_listReturn_20 : decode cX6_listReturn 20 = .ok (.invokevirtual 162, 3) := by decide +kernel
theorem dX6_listReturn_23 : decode cX6_listReturn 23 = .ok (.iinc 2 1, 3) := by decide +kernel
theorem dX6_listReturn_26 : decode cX6_listReturn 26 = .ok (.goto (-24), 3) := by decide +kernel
theorem dX6_listReturn_29 : decode cX6_listReturn 29 = .ok (.return_, 1) := by decide +kernel
theorem dX6_listSShape_0 : decode cX6_listSShape 0 = .ok (.iconst 0, 1) := by decide +kernel
theorem dX6_listSShape_1 : decode cX6_listSShape 1 = .ok (.istore_n 2, 1) := by decide +kernel
theorem dX6_listSShape_2 : decode cX6_listSShape 2 = .ok (.iload_n 2, 1) := by decide +kernel
theorem dX6_listSShape_3 : decode cX6_listSShape 3 = .ok (.aload_n 0, 1) := by decide +kernel
theorem dX6_listSShape_4 : decode cX6_listSShape 4 = .ok (.getfield 107, 3) := by decide +kernel
theorem dX6_listSShape_7 : decode cX6_listSShape 7 = .ok (.if_icmp .ge 31, 3) := by decide +kernel
theorem dX6_listSShape_10 : decode cX6_listSShape 10 = .ok (.aload_n 0, 1) := by decide +kernel
theorem dX6_listSShape_11 : decode cX6_listSShape 11 = .ok (.aload_n 1, 1) := by decide +kernel
theorem dX6_listSShape_12 : decode cX6_listSShape 12 = .ok (.aload_n 0, 1) := by decide +kernel
theorem dX6_listSShape_13 : decode cX6_listSShape 13 = .ok (.getfield 24, 3) := by decide +kernel
theorem dX6_listSShape_16 : decode cX6_listSShape 16 = .ok (.iload_n 2, 1) := by decide +kernel
theorem dX6_listSShape_17 : decode cX6_listSShape 17 = .ok (.iaload, 1) := by decide +kernel
theorem dX6_listSShape_18 : decode cX6_listSShape 18 = .ok (.iload_n 2, 1) := by decide +kernel
theorem dX6_listSShape_19 : decode cX6_listSShape 19 = .ok (.iconst 2, 1) := by decide +kernel
theorem dX6_listSShape_20 : decode cX6_listSShape 20 = .ok (.irem, 1) := by decide +kernel
theorem dX6_listSShape_21 : decode cX6_listSShape 21 = .ok (.ifCond .ne 7, 3) := by decide +kernel
theorem dX6_listSShape_24 : decode cX6_listSShape 24 = .ok (.iconst 0, 1) := by decide +kernel
theorem dX6_listSShape_25 : decode cX6_listSShape 25 = .ok (.goto 4, 3) := by decide +kernel
theorem dX6_listSShape_28 : decode cX6_listSShape 28 = .ok (.iconst 1, 1) := by decide +kernel
theorem dX6_listSShape_29 : decode cX6_listSShape 29 = .ok (.invokevirtual 166, 3) := by decide +kernel
theorem dX6_listSShape_32 : decode cX6_listSShape 32 = .ok (.iinc 2 1, 3) := by decide +kernel
theorem dX6_listSShape_35 : decode cX6_listSShape 35 = .ok (.goto (-33), 3) := by decide +kernel
theorem dX6_listSShape_38 : decode cX6_listSShape 38 = .ok (.return_, 1) := by decide +kernel
theorem dX6_listLargestGap_0 : decode cX6_listLargestGap 0 = .ok (.aload_n 0, 1) := by decide +kernel
theorem dX6_listLargestGap_1 : decode cX6_listLargestGap 1 = .ok (.getfield 107, 3) := by decide +kernel
theorem dX6_listLargestGap_4 : decode cX6_listLargestGap 4 = .ok (.iconst 2, 1) := by decide +kernel
theorem dX6_listLargestGap_5 : decode cX6_listLargestGap 5 = .ok (.if_icmp .ge 9, 3) := by decide +kernel
theorem dX6_listLargestGap_8 : decode cX6_listLargestGap 8 = .ok (.aload_n 0, 1) := by decide +kernel
theorem dX6_listLargestGap_9 : decode cX6_listLargestGap 9 = .ok (.aload_n 1, 1) := by decide +kernel
theorem dX6_listLargestGap_10 : decode cX6_listLargestGap 10 = .ok (.invokevirtual 159, 3) := by decide +kernel
theorem dX6_listLargestGap_13 : decode cX6_listLargestGap 13 = .ok (.return_, 1) := by decide +kernel
theorem dX6_listLargestGap_14 : decode cX6_listLargestGap 14 = .ok (.aload_n 0, 1) := by decide +kernel
theorem dX6_listLargestGap_15 : decode cX6_listLargestGap 15 = .ok (.aload_n 1, 1) := by decide +kernel
theorem dX6_listLargestGap_16 : decode cX6_listLargestGap 16 = .ok (.aload_n 0, 1) := by decide +kernel
theorem dX6_listLargestGap_17 : decode cX6_listLargestGap 17 = .ok (.getfield 24, 3) := by decide +kernel
theorem dX6_listLargestGap_20 : decode cX6_listLargestGap 20 = .ok (.iconst 0, 1) := by decide +kernel
theorem dX6_listLargestGap_21 : decode cX6_listLargestGap 21 = .ok (.iaload, 1) := by decide +kernel
theorem dX6_listLargestGap_22 : decode cX6_listLargestGap 22 = .ok (.iconst 0, 1) := by decide +kernel
theorem dX6_listLargestGap_23 : decode cX6_listLargestGap 23 = .ok (.invokevirtual 166, 3) := by decide +kernel
theorem dX6_listLargestGap_26 : decode cX6_listLargestGap 26 = .ok (.iconst 1, 1) := by decide +kernel
theorem dX6_listLargestGap_27 : decode cX6_listLargestGap 27 = .ok (.istore_n 2, 1) := by decide +kernel
theorem dX6_listLargestGap_28 : decode cX6_listLargestGap 28 = .ok (.iload_n 2, 1) := by decide +kernel
theorem dX6_listLargestGap_29 : decode cX6_listLargestGap 29 = .ok (.aload_n 0, 1) := by decide +kernel
theorem dX6_listLargestGap_30 : decode cX6_listLargestGap 30 = .ok (.getfield 107, 3) := by decide +kernel
theorem dX6_listLargestGap_33 : decode cX6_listLargestGap 33 = .ok (.iconst 1, 1) := by decide +kernel
theorem dX6_listLargestGap_34 : decode cX6_listLargestGap 34 = .ok (.isub, 1) := by decide +kernel
theorem dX6_listLargestGap_35 : decode cX6_listLargestGap 35 = .ok (.if_icmp .ge 36, 3) := by decide +kernel
theorem dX6_listLargestGap_38 : decode cX6_listLargestGap 38 = .ok (.aload_n 0, 1) := by decide +kernel
theorem dX6_listLargestGap_39 : decode cX6_listLargestGap 39 = .ok (.aload_n 0, 1) := by decide +kernel
theorem dX6_listLargestGap_40 : decode cX6_listLargestGap 40 = .ok (.getfield 24, 3) := by decide +kernel
theorem dX6_listLargestGap_43 : decode cX6_listLargestGap 43 = .ok (.iload_n 2, 1) := by decide +kernel
theorem dX6_listLargestGap_44 : decode cX6_listLargestGap 44 = .ok (.iaload, 1) := by decide +kernel
theorem dX6_listLargestGap_45 : decode cX6_listLargestGap 45 = .ok (.invokevirtual 126, 3) := by decide +kernel
theorem dX6_listLargestGap_48 : decode cX6_listLargestGap 48 = .ok (.aload_n 0, 1) := by decide +kernel
theorem dX6_listLargestGap_49 : decode cX6_listLargestGap 49 = .ok (.aload_n 1, 1) := by decide +kernel
theorem dX6_listLargestGap_50 : decode cX6_listLargestGap 50 = .ok (.aload_n 0, 1) := by decide +kernel
theorem dX6_listLargestGap_51 : decode cX6_listLargestGap 51 = .ok (.getfield 24, 3) := by decide +kernel
theorem dX6_listLargestGap_54 : decode cX6_listLargestGap 54 = .ok (.iload_n 2, 1) := by decide +kernel
theorem dX6_listLargestGap_55 : decode cX6_listLargestGap 55 = .ok (.iaload, 1) := by decide +kernel
theorem dX6_listLargestGap_56 : decode cX6_listLargestGap 56 = .ok (.aload_n 0, 1) := by decide +kernel
theorem dX6_listLargestGap_57 : decode cX6_listLargestGap 57 = .ok (.getfield 133, 3) := by decide +kernel
theorem dX6_listLargestGap_60 : decode cX6_listLargestGap 60 = .ok (.iconst 1, 1) := by decide +kernel
theorem dX6_listLargestGap_61 : decode cX6_listLargestGap 61 = .ok (.iadd, 1) := by decide +kernel
theorem dX6_listLargestGap_62 : decode cX6_listLargestGap 62 = .ok (.invokevirtual 169, 3) := by decide +kernel
theorem dX6_listLargestGap_65 : decode cX6_listLargestGap 65 = .ok (.iinc 2 1, 3) := by decide +kernel
theorem dX6_listLargestGap_68 : decode cX6_listLargestGap 68 = .ok (.goto (-40), 3) := by decide +kernel
theorem dX6_listLargestGap_71 : decode cX6_listLargestGap 71 = .ok (.aload_n 0, 1) := by decide +kernel
theorem dX6_listLargestGap_72 : decode cX6_listLargestGap 72 = .ok (.aload_n 1, 1) := by decide +kernel
theorem dX6_listLargestGap_73 : decode cX6_listLargestGap 73 = .ok (.aload_n 0, 1) := by decide +kernel
theorem dX6_listLargestGap_74 : decode cX6_listLargestGap 74 = .ok (.getfield 24, 3) := by decide +kernel
theorem dX6_listLargestGap_77 : decode cX6_listLargestGap 77 = .ok (.aload_n 0, 1) := by decide +kernel
theorem dX6_listLargestGap_78 : decode cX6_listLargestGap 78 = .ok (.getfield 107, 3) := by decide +kernel
theorem dX6_listLargestGap_81 : decode cX6_listLargestGap 81 = .ok (.iconst 1, 1) := by decide +kernel
theorem dX6_listLargestGap_82 : decode cX6_listLargestGap 82 = .ok (.isub, 1) := by decide +kernel
theorem dX6_listLargestGap_83 : decode cX6_listLargestGap 83 = .ok (.iaload, 1) := by decide +kernel
theorem dX6_listLargestGap_84 : decode cX6_listLargestGap 84 = .ok (.iconst 1, 1) := by decide +kernel
theorem dX6_listLargestGap_85 : decode cX6_listLargestGap 85 = .ok (.invokevirtual 166, 3) := by decide +kernel
theorem dX6_listLargestGap_88 : decode cX6_listLargestGap 88 = .ok (.aload_n 0, 1) := by decide +kernel
theorem dX6_listLargestGap_89 : decode cX6_listLargestGap 89 = .ok (.getfield 107, 3) := by decide +kernel
theorem dX6_listLargestGap_92 : decode cX6_listLargestGap 92 = .ok (.iconst 2, 1) := by decide +kernel
theorem dX6_listLargestGap_93 : decode cX6_listLargestGap 93 = .ok (.isub, 1) := by decide +kernel
theorem dX6_listLargestGap_94 : decode cX6_listLargestGap 94 = .ok (.istore_n 2, 1) := by decide +kernel
theorem dX6_listLargestGap_95 : decode cX6_listLargestGap 95 = .ok (.iload_n 2, 1) := by decide +kernel
theorem dX6_listLargestGap_96 : decode cX6_listLargestGap 96 = .ok (.iconst 1, 1) := by decide +kernel
theorem dX6_listLargestGap_97 : decode cX6_listLargestGap 97 = .ok (.if_icmp .lt 34, 3) := by decide +kernel
theorem dX6_listLargestGap_100 : decode cX6_listLargestGap 100 = .ok (.aload_n 0, 1) := by decide +kernel
theorem dX6_listLargestGap_101 : decode cX6_listLargestGap 101 = .ok (.aload_n 0, 1) := by decide +kernel
theorem dX6_listLargestGap_102 : decode cX6_listLargestGap 102 = .ok (.getfield 24, 3) := by decide +kernel
theorem dX6_listLargestGap_105 : decode cX6_listLargestGap 105 = .ok (.iload_n 2, 1) := by decide +kernel
theorem dX6_listLargestGap_106 : decode cX6_listLargestGap 106 = .ok (.iaload, 1) := by decide +kernel
theorem dX6_listLargestGap_107 : decode cX6_listLargestGap 107 = .ok (.invokevirtual 126, 3) := by decide +kernel
theorem dX6_listLargestGap_110 : decode cX6_listLargestGap 110 = .ok (.aload_n 0, 1) := by decide +kernel
theorem dX6_listLargestGap_111 : decode cX6_listLargestGap 111 = .ok (.aload_n 1, 1) := by decide +kernel
theorem dX6_listLargestGap_112 : decode cX6_listLargestGap 112 = .ok (.aload_n 0, 1) := by decide +kernel
theorem dX6_listLargestGap_113 : decode cX6_listLargestGap 113 = .ok (.getfield 24, 3) := by decide +kernel
theorem dX6_listLargestGap_116 : decode cX6_listLargestGap 116 = .ok (.iload_n 2, 1) := by decide +kernel
theorem dX6_listLargestGap_117 : decode cX6_listLargestGap 117 = .ok (.iaload, 1) := by decide +kernel
theorem dX6_listLargestGap_118 : decode cX6_listLargestGap 118 = .ok (.aload_n 0, 1) := by decide +kernel
theorem dX6_listLargestGap_119 : decode cX6_listLargestGap 119 = .ok (.getfield 133, 3) := by decide +kernel
theorem dX6_listLargestGap_122 : decode cX6_listLargestGap 122 = .ok (.invokevirtual 162, 3) := by decide +kernel
theorem dX6_listLargestGap_125 : decode cX6_listLargestGap 125 = .ok (.iinc 2 (-1), 3) := by decide +kernel
theorem dX6_listLargestGap_128 : decode cX6_listLargestGap 128 = .ok (.goto (-33), 3) := by decide +kernel
theorem dX6_listLargestGap_131 : decode cX6_listLargestGap 131 = .ok (.return_, 1) := by decide +kernel
theorem dX6_listCombined_0 : decode cX6_listCombined 0 = .ok (.iconst 0, 1) := by decide +kernel
theorem dX6_listCombined_1 : decode cX6_listCombined 1 = .ok (.istore_n 2, 1) := by decide +kernel
theorem dX6_listCombined_2 : decode cX6_listCombined 2 = .ok (.iconst 0, 1) := by decide +kernel
theorem dX6_listCombined_3 : decode cX6_listCombined 3 = .ok (.istore_n 3, 1) := by decide +kernel
theorem dX6_listCombined_4 : decode cX6_listCombined 4 = .ok (.iload_n 3, 1) := by decide +kernel
theorem dX6_listCombined_5 : decode cX6_listCombined 5 = .ok (.aload_n 0, 1) := by decide +kernel
theorem dX6_listCombined_6 : decode cX6_listCombined 6 = .ok (.getfield 107, 3) := by decide +kernel
theorem dX6_listCombined_9 : decode cX6_listCombined 9 = .ok (.if_icmp .ge 46, 3) := by decide +kernel
theorem dX6_listCombined_12 : decode cX6_listCombined 12 = .ok (.aload_n 0, 1) := by decide +kernel
theorem dX6_listCombined_13 : decode cX6_listCombined 13 = .ok (.aload_n 1, 1) := by decide +kernel
theorem dX6_listCombined_14 : decode cX6_listCombined 14 = .ok (.aload_n 0, 1) := by decide +kernel
theorem dX6_listCombined_15 : decode cX6_listCombined 15 = .ok (.getfield 24, 3) := by decide +kernel
theorem dX6_listCombined_18 : decode cX6_listCombined 18 = .ok (.iload_n 3, 1) := by decide +kernel
theorem dX6_listCombined_19 : decode cX6_listCombined 19 = .ok (.iaload, 1) := by decide +kernel
theorem dX6_listCombined_20 : decode cX6_listCombined 20 = .ok (.iload_n 2, 1) := by decide +kernel
theorem dX6_listCombined_21 : decode cX6_listCombined 21 = .ok (.invokevirtual 166, 3) := by decide +kernel
theorem dX6_listCombined_24 : decode cX6_listCombined 24 = .ok (.aload_n 0, 1) := by decide +kernel
theorem dX6_listCombined_25 : decode cX6_listCombined 25 = .ok (.iload_n 3, 1) := by decide +kernel
theorem dX6_listCombined_26 : decode cX6_listCombined 26 = .ok (.iload_n 2, 1) := by decide +kernel
theorem dX6_listCombined_27 : decode cX6_listCombined 27 = .ok (.invokevirtual 140, 3) := by decide +kernel
theorem dX6_listCombined_30 : decode cX6_listCombined 30 = .ok (.aload_n 0, 1) := by decide +kernel
theorem dX6_listCombined_31 : decode cX6_listCombined 31 = .ok (.iload_n 3, 1) := by decide +kernel
theorem dX6_listCombined_32 : decode cX6_listCombined 32 = .ok (.iload_n 2, 1) := by decide +kernel
theorem dX6_listCombined_33 : decode cX6_listCombined 33 = .ok (.invokevirtual 137, 3) := by decide +kernel
theorem dX6_listCombined_36 : decode cX6_listCombined 36 = .ok (.if_icmp .ge 13, 3) := by decide +kernel
theorem dX6_listCombined_39 : decode cX6_listCombined 39 = .ok (.iload_n 2, 1) := by decide +kernel
theorem dX6_listCombined_40 : decode cX6_listCombined 40 = .ok (.ifCond .ne 7, 3) := by decide +kernel
theorem dX6_listCombined_43 : decode cX6_listCombined 43 = .ok (.iconst 1, 1) := by decide +kernel
theorem dX6_listCombined_44 : decode cX6_listCombined 44 = .ok (.goto 4, 3) := by decide +kernel
theorem dX6_listCombined_47 : decode cX6_listCombined 47 = .ok (.iconst 0, 1) := by decide +kernel
theorem dX6_listCombined_48 : decode cX6_listCombined 48 = .ok (.istore_n 2, 1) := by decide +kernel
theorem dX6_listCombined_49 : decode cX6_listCombined 49 = .ok (.iinc 3 1, 3) := by decide +kernel
theorem dX6_listCombined_52 : decode cX6_listCombined 52 = .ok (.goto (-48), 3) := by decide +kernel
theorem dX6_listCombined_55 : decode cX6_listCombined 55 = .ok (.return_, 1) := by decide +kernel
theorem dX6_visitFrom_0 : decode cX6_visitFrom 0 = .ok (.iload_n 3, 1) := by decide +kernel
theorem dX6_visitFrom_1 : decode cX6_visitFrom 1 = .ok (.ifCond .ne 14, 3) := by decide +kernel
theorem dX6_visitFrom_4 : decode cX6_visitFrom 4 = .ok (.aload_n 0, 1) := by decide +kernel
theorem dX6_visitFrom_5 : decode cX6_visitFrom 5 = .ok (.aload_n 1, 1) := by decide +kernel
theorem dX6_visitFrom_6 : decode cX6_visitFrom 6 = .ok (.iload_n 2, 1) := by decide +kernel
theorem dX6_visitFrom_7 : decode cX6_visitFrom 7 = .ok (.bipush 20, 2) := by decide +kernel
theorem dX6_visitFrom_9 : decode cX6_visitFrom 9 = .ok (.invokevirtual 162, 3) := by decide +kernel
theorem dX6_visitFrom_12 : decode cX6_visitFrom 12 = .ok (.goto 10, 3) := by decide +kernel
theorem dX6_visitFrom_15 : decode cX6_visitFrom 15 = .ok (.aload_n 0, 1) := by decide +kernel
theorem dX6_visitFrom_16 : decode cX6_visitFrom 16 = .ok (.aload_n 1, 1) := by decide +kernel
theorem dX6_visitFrom_17 : decode cX6_visitFrom 17 = .ok (.iload_n 2, 1) := by decide +kernel
theorem dX6_visitFrom_18 : decode cX6_visitFrom 18 = .ok (.iconst 1, 1) := by decide +kernel
theorem dX6_visitFrom_19 : decode cX6_visitFrom 19 = .ok (.invokevirtual 169, 3) := by decide +kernel
theorem dX6_visitFrom_22 : decode cX6_visitFrom 22 = .ok (.return_, 1) := by decide +kernel
theorem dX6_visitUp_0 : decode cX6_visitUp 0 = .ok (.iconst 1, 1) := by decide +kernel
theorem dX6_visitUp_1 : decode cX6_visitUp 1 = .ok (.istore 4, 2) := by decide +kernel
theorem dX6_visitUp_3 : decode cX6_visitUp 3 = .ok (.iload 4, 2) := by decide +kernel
theorem dX6_visitUp_5 : decode cX6_visitUp 5 = .ok (.iload_n 3, 1) := by decide +kernel
theorem dX6_visitUp_6 : decode cX6_visitUp 6 = .ok (.if_icmp .gt 17, 3) := by decide +kernel
theorem dX6_visitUp_9 : decode cX6_visitUp 9 = .ok (.aload_n 0, 1) := by decide +kernel
theorem dX6_visitUp_10 : decode cX6_visitUp 10 = .ok (.aload_n 1, 1) := by decide +kernel
theorem dX6_visitUp_11 : decode cX6_visitUp 11 = .ok (.iload_n 2, 1) := by decide +kernel
theorem dX6_visitUp_12 : decode cX6_visitUp 12 = .ok (.iload 4, 2) := by decide +kernel
theorem dX6_visitUp_14 : decode cX6_visitUp 14 = .ok (.invokevirtual 172, 3) := by decide +kernel
theorem dX6_visitUp_17 : decode cX6_visitUp 17 = .ok (.iinc 4 1, 3) := by decide +kernel
theorem dX6_visitUp_20 : decode cX6_visitUp 20 = .ok (.goto (-17), 3) := by decide +kernel
theorem dX6_visitUp_23 : decode cX6_visitUp 23 = .ok (.return_, 1) := by decide +kernel
theorem dX6_visitDown_0 : decode cX6_visitDown 0 = .ok (.bipush 20, 2) := by decide +kernel
theorem dX6_visitDown_2 : decode cX6_visitDown 2 = .ok (.istore 4, 2) := by decide +kernel
theorem dX6_visitDown_4 : decode cX6_visitDown 4 = .ok (.iload 4, 2) := by decide +kernel
theorem dX6_visitDown_6 : decode cX6_visitDown 6 = .ok (.iload_n 3, 1) := by decide +kernel
theorem dX6_visitDown_7 : decode cX6_visitDown 7 = .ok (.if_icmp .lt 17, 3) := by decide +kernel
theorem dX6_visitDown_10 : decode cX6_visitDown 10 = .ok (.aload_n 0, 1) := by decide +kernel
theorem dX6_visitDown_11 : decode cX6_visitDown 11 = .ok (.aload_n 1, 1) := by decide +kernel
theorem dX6_visitDown_12 : decode cX6_visitDown 12 = .ok (.iload_n 2, 1) := by decide +kernel
theorem dX6_visitDown_13 : decode cX6_visitDown 13 = .ok (.iload 4, 2) := by decide +kernel
theorem dX6_visitDown_15 : decode cX6_visitDown 15 = .ok (.invokevirtual 172, 3) := by decide +kernel
theorem dX6_visitDown_18 : decode cX6_visitDown 18 = .ok (.iinc 4 (-1), 3) := by decide +kernel
theorem dX6_visitDown_21 : decode cX6_visitDown 21 = .ok (.goto (-17), 3) := by decide +kernel
theorem dX6_visitDown_24 : decode cX6_visitDown 24 = .ok (.return_, 1) := by decide +kernel
theorem dX6_visitPlace_0 : decode cX6_visitPlace 0 = .ok (.aload_n 0, 1) := by decide +kernel
theorem dX6_visitPlace_1 : decode cX6_visitPlace 1 = .ok (.getfield 9, 3) := by decide +kernel
theorem dX6_visitPlace_4 : decode cX6_visitPlace 4 = .ok (.iload_n 2, 1) := by decide +kernel
theorem dX6_visitPlace_5 : decode cX6_visitPlace 5 = .ok (.iaload, 1) := by decide +kernel
theorem dX6_visitPlace_6 : decode cX6_visitPlace 6 = .ok (.iload_n 3, 1) := by decide +kernel
theorem dX6_visitPlace_7 : decode cX6_visitPlace 7 = .ok (.ishr, 1) := by decide +kernel
theorem dX6_visitPlace_8 : decode cX6_visitPlace 8 = .ok (.iconst 1, 1) := by decide +kernel
theorem dX6_visitPlace_9 : decode cX6_visitPlace 9 = .ok (.iand, 1) := by decide +kernel
theorem dX6_visitPlace_10 : decode cX6_visitPlace 10 = .ok (.ifCond .ne 4, 3) := by decide +kernel
theorem dX6_visitPlace_13 : decode cX6_visitPlace 13 = .ok (.return_, 1) := by decide +kernel
theorem dX6_visitPlace_14 : decode cX6_visitPlace 14 = .ok (.aload_n 1, 1) := by decide +kernel
theorem dX6_visitPlace_15 : decode cX6_visitPlace 15 = .ok (.getfield 58, 3) := by decide +kernel
theorem dX6_visitPlace_18 : decode cX6_visitPlace 18 = .ok (.astore 4, 2) := by decide +kernel
theorem dX6_visitPlace_20 : decode cX6_visitPlace 20 = .ok (.iconst 0, 1) := by decide +kernel
theorem dX6_visitPlace_21 : decode cX6_visitPlace 21 = .ok (.istore 5, 2) := by decide +kernel
theorem dX6_visitPlace_23 : decode cX6_visitPlace 23 = .ok (.iload 5, 2) := by decide +kernel
theorem dX6_visitPlace_25 : decode cX6_visitPlace 25 = .ok (.aload 4, 2) := by decide +kernel
theorem dX6_visitPlace_27 : decode cX6_visitPlace 27 = .ok (.getfield 62, 3) := by decide +kernel
theorem dX6_visitPlace_30 : decode cX6_visitPlace 30 = .ok (.if_icmp .ge 87, 3) := by decide +kernel
theorem dX6_visitPlace_33 : decode cX6_visitPlace 33 = .ok (.aload_n 0, 1) := by decide +kernel
theorem dX6_visitPlace_34 : decode cX6_visitPlace 34 = .ok (.getfield 42, 3) := by decide +kernel
theorem dX6_visitPlace_37 : decode cX6_visitPlace 37 = .ok (.iload 5, 2) := by decide +kernel
theorem dX6_visitPlace_39 : decode cX6_visitPlace 39 = .ok (.ishr, 1) := by decide +kernel
theorem dX6_visitPlace_40 : decode cX6_visitPlace 40 = .ok (.iconst 1, 1) := by decide +kernel
theorem dX6_visitPlace_41 : decode cX6_visitPlace 41 = .ok (.iand, 1) := by decide +kernel
theorem dX6_visitPlace_42 : decode cX6_visitPlace 42 = .ok (.ifCond .eq 7, 3) := by decide +kernel
theorem dX6_visitPlace_45 : decode cX6_visitPlace 45 = .ok (.iconst 1, 1) := by decide +kernel
theorem dX6_visitPlace_46 : decode cX6_visitPlace 46 = .ok (.goto 4, 3) := by decide +kernel
theorem dX6_visitPlace_49 : decode cX6_visitPlace 49 = .ok (.iconst 0, 1) := by decide +kernel
theorem dX6_visitPlace_50 : decode cX6_visitPlace 50 = .ok (.istore 6, 2) := by decide +kernel
theorem dX6_visitPlace_52 : decode cX6_visitPlace 52 = .ok (.iload 6, 2) := by decide +kernel
theorem dX6_visitPlace_54 : decode cX6_visitPlace 54 = .ok (.ifCond .eq 57, 3) := by decide +kernel
theorem dX6_visitPlace_57 : decode cX6_visitPlace 57 = .ok (.aload 4, 2) := by decide +kernel
theorem dX6_visitPlace_59 : decode cX6_visitPlace 59 = .ok (.getfield 67, 3) := by decide +kernel
theorem dX6_visitPlace_62 : decode cX6_visitPlace 62 = .ok (.iload 5, 2) := by decide +kernel
theorem dX6_visitPlace_64 : decode cX6_visitPlace 64 = .ok (.iaload, 1) := by decide +kernel
theorem dX6_visitPlace_65 : decode cX6_visitPlace 65 = .ok (.iload_n 2, 1) := by decide +kernel
theorem dX6_visitPlace_66 : decode cX6_visitPlace 66 = .ok (.if_icmp .ne 45, 3) := by decide +kernel
theorem dX6_visitPlace_69 : decode cX6_visitPlace 69 = .ok (.aload 4, 2) := by decide +kernel
theorem dX6_visitPlace_71 : decode cX6_visitPlace 71 = .ok (.getfield 70, 3) := by decide +kernel
theorem dX6_visitPlace_74 : decode cX6_visitPlace 74 = .ok (.iload 5, 2) := by decide +kernel
theorem dX6_visitPlace_76 : decode cX6_visitPlace 76 = .ok (.iaload, 1) := by decide +kernel
theorem dX6_visitPlace_77 : decode cX6_visitPlace 77 = .ok (.iload_n 3, 1) := by decide +kernel
theorem dX6_visitPlace_78 : decode cX6_visitPlace 78 = .ok (.if_icmp .ne 33, 3) := by decide +kernel
theorem dX6_visitPlace_81 : decode cX6_visitPlace 81 = .ok (.aload_n 0, 1) := by decide +kernel
theorem dX6_visitPlace_82 : decode cX6_visitPlace 82 = .ok (.getfield 143, 3) := by decide +kernel
theorem dX6_visitPlace_85 : decode cX6_visitPlace 85 = .ok (.bipush 24, 2) := by decide +kernel
theorem dX6_visitPlace_87 : decode cX6_visitPlace 87 = .ok (.if_icmp .ge 24, 3) := by decide +kernel
theorem dX6_visitPlace_90 : decode cX6_visitPlace 90 = .ok (.aload_n 0, 1) := by decide +kernel
theorem dX6_visitPlace_91 : decode cX6_visitPlace 91 = .ok (.getfield 33, 3) := by decide +kernel
theorem dX6_visitPlace_94 : decode cX6_visitPlace 94 = .ok (.aload_n 0, 1) := by decide +kernel
theorem dX6_visitPlace_95 : decode cX6_visitPlace 95 = .ok (.getfield 143, 3) := by decide +kernel
theorem dX6_visitPlace_98 : decode cX6_visitPlace 98 = .ok (.iload 5, 2) := by decide +kernel
theorem dX6_visitPlace_100 : decode cX6_visitPlace 100 = .ok (.iastore, 1) := by decide +kernel
theorem dX6_visitPlace_101 : decode cX6_visitPlace 101 = .ok (.aload_n 0, 1) := by decide +kernel
theorem dX6_visitPlace_102 : decode cX6_visitPlace 102 = .ok (.dup, 1) := by decide +kernel
theorem dX6_visitPlace_103 : decode cX6_visitPlace 103 = .ok (.getfield 143, 3) := by decide +kernel
theorem dX6_visitPlace_106 : decode cX6_visitPlace 106 = .ok (.iconst 1, 1) := by decide +kernel
theorem dX6_visitPlace_107 : decode cX6_visitPlace 107 = .ok (.iadd, 1) := by decide +kernel
theorem dX6_visitPlace_108 : decode cX6_visitPlace 108 = .ok (.putfield 143, 3) := by decide +kernel
theorem dX6_visitPlace_111 : decode cX6_visitPlace 111 = .ok (.iinc 5 1, 3) := by decide +kernel
theorem dX6_visitPlace_114 : decode cX6_visitPlace 114 = .ok (.goto (-91), 3) := by decide +kernel
theorem dX6_visitPlace_117 : decode cX6_visitPlace 117 = .ok (.return_, 1) := by decide +kernel
theorem dX7_init_0 : decode cX7_init 0 = .ok (.aload_n 0, 1) := by decide +kernel
theorem dX7_init_1 : decode cX7_init 1 = .ok (.invokespecial 3, 3) := by decide +kernel
theorem dX7_init_4 : decode cX7_init 4 = .ok (.aload_n 0, 1) := by decide +kernel
theorem dX7_init_5 : decode cX7_init 5 = .ok (.bipush 8, 2) := by decide +kernel
theorem dX7_init_7 : decode cX7_init 7 = .ok (.iconst 3, 1) := by decide +kernel
theorem dX7_init_8 : decode cX7_init 8 = .ok (.multianewarray 9 2, 4) := by decide +kernel
theorem dX7_init_12 : decode cX7_init 12 = .ok (.putfield 11, 3) := by decide +kernel
theorem dX7_init_15 : decode cX7_init 15 = .ok (.aload_n 0, 1) := by decide +kernel
theorem dX7_init_16 : decode cX7_init 16 = .ok (.bipush 8, 2) := by decide +kernel
theorem dX7_init_18 : decode cX7_init 18 = .ok (.iconst 3, 1) := by decide +kernel
theorem dX7_init_19 : decode cX7_init 19 = .ok (.multianewarray 9 2, 4) := by decide +kernel
theorem dX7_init_23 : decode cX7_init 23 = .ok (.putfield 16, 3) := by decide +kernel
theorem dX7_init_26 : decode cX7_init 26 = .ok (.aload_n 0, 1) := by decide +kernel
theorem dX7_init_27 : decode cX7_init 27 = .ok (.bipush 8, 2) := by decide +kernel
theorem dX7_init_29 : decode cX7_init 29 = .ok (.iconst 3, 1) := by decide +kernel
theorem dX7_init_30 : decode cX7_init 30 = .ok (.multianewarray 9 2, 4) := by decide +kernel
theorem dX7_init_34 : decode cX7_init 34 = .ok (.putfield 19, 3) := by decide +kernel
theorem dX7_init_37 : decode cX7_init 37 = .ok (.aload_n 0, 1) := by decide +kernel
theorem dX7_init_38 : decode cX7_init 38 = .ok (.new 22, 3) := by decide +kernel
theorem dX7_init_41 : decode cX7_init 41 = .ok (.dup, 1) := by decide +kernel
theorem dX7_init_42 : decode cX7_init 42 = .ok (.invokespecial 24, 3) := by decide +kernel
theorem dX7_init_45 : decode cX7_init 45 = .ok (.putfield 25, 3) := by decide +kernel
theorem dX7_init_48 : decode cX7_init 48 = .ok (.return_, 1) := by decide +kernel
theorem dX7_measureWork_0 : decode cX7_measureWork 0 = .ok (.aload_n 1, 1) := by decide +kernel
theorem dX7_measureWork_1 : decode cX7_measureWork 1 = .ok (.getfield 29, 3) := by decide +kernel
theorem dX7_measureWork_4 : decode cX7_measureWork 4 = .ok (.astore_n 2, 1) := by decide +kernel
theorem dX7_measureWork_5 : decode cX7_measureWork 5 = .ok (.iconst 0, 1) := by decide +kernel
theorem dX7_measureWork_6 : decode cX7_measureWork 6 = .ok (.istore_n 3, 1) := by decide +kernel
theorem dX7_measureWork_7 : decode cX7_measureWork 7 = .ok (.iload_n 3, 1) := by decide +kernel
theorem dX7_measureWork_8 : decode cX7_measureWork 8 = .ok (.aload_n 1, 1) := by decide +kernel
theorem dX7_measureWork_9 : decode cX7_measureWork 9 = .ok (.getfield 35, 3) := by decide +kernel
theorem dX7_measureWork_12 : decode cX7_measureWork 12 = .ok (.getfield 39, 3) := by decide +kernel
theorem dX7_measureWork_15 : decode cX7_measureWork 15 = .ok (.if_icmp .ge 105, 3) := by decide +kernel
theorem dX7_measureWork_18 : decode cX7_measureWork 18 = .ok (.aload_n 0, 1) := by decide +kernel
theorem dX7_measureWork_19 : decode cX7_measureWork 19 = .ok (.getfield 25, 3) := by decide +kernel
theorem dX7_measureWork_22 : decode cX7_measureWork 22 = .ok (.aload_n 1, 1) := by decide +kernel
theorem dX7_measureWork_23 : decode cX7_measureWork 23 = .ok (.aload_n 1, 1) := by decide +kernel
theorem dX7_measureWork_24 : decode cX7_measureWork 24 = .ok (.getfield 35, 3) := by decide +kernel
theorem dX7_measureWork_27 : decode cX7_measureWork 27 = .ok (.getfield 45, 3) := by decide +kernel
theorem dX7_measureWork_30 : decode cX7_measureWork 30 = .ok (.iload_n 3, 1) := by decide +kernel
theorem dX7_measureWork_31 : decode cX7_measureWork 31 = .ok (.iaload, 1) := by decide +kernel
theorem dX7_measureWork_32 : decode cX7_measureWork 32 = .ok (.invokevirtual 49, 3) := by decide +kernel
theorem dX7_measureWork_35 : decode cX7_measureWork 35 = .ok (.iconst 0, 1) := by decide +kernel
theorem dX7_measureWork_36 : decode cX7_measureWork 36 = .ok (.istore 4, 2) := by decide +kernel
theorem dX7_measureWork_38 : decode cX7_measureWork 38 = .ok (.iload 4, 2) := by decide +kernel
theorem dX7_measureWork_40 : decode cX7_measureWork 40 = .ok (.aload_n 2, 1) := by decide +kernel
theorem dX7_measureWork_41 : decode cX7_measureWork 41 = .ok (.getfield 53, 3) := by decide +kernel
theorem dX7_measureWork_44 : decode cX7_measureWork 44 = .ok (.if_icmp .ge 70, 3) := by decide +kernel
theorem dX7_measureWork_47 : decode cX7_measureWork 47 = .ok (.aload_n 0, 1) := by decide +kernel
theorem dX7_measureWork_48 : decode cX7_measureWork 48 = .ok (.getfield 25, 3) := by decide +kernel
theorem dX7_measureWork_51 : decode cX7_measureWork 51 = .ok (.aload_n 2, 1) := by decide +kernel
theorem dX7_measureWork_52 : decode cX7_measureWork 52 = .ok (.iload 4, 2) := by decide +kernel
theorem dX7_measureWork_54 : decode cX7_measureWork 54 = .ok (.invokevirtual 58, 3) := by decide +kernel
theorem dX7_measureWork_57 : decode cX7_measureWork 57 = .ok (.istore 5, 2) := by decide +kernel
theorem dX7_measureWork_59 : decode cX7_measureWork 59 = .ok (.aload_n 0, 1) := by decide +kernel
theorem dX7_measureWork_60 : decode cX7_measureWork 60 = .ok (.getfield 25, 3) := by decide +kernel
theorem dX7_measureWork_63 : decode cX7_measureWork 63 = .ok (.aload_n 2, 1) := by decide +kernel
theorem dX7_measureWork_64 : decode cX7_measureWork 64 = .ok (.iload 4, 2) := by decide +kernel
theorem dX7_measureWork_66 : decode cX7_measureWork 66 = .ok (.aload_n 2, 1) := by decide +kernel
theorem dX7_measureWork_67 : decode cX7_measureWork 67 = .ok (.getfield 62, 3) := by decide +kernel
theorem dX7_measureWork_70 : decode cX7_measureWork 70 = .ok (.invokevirtual 65, 3) := by decide +kernel
theorem dX7_measureWork_73 : decode cX7_measureWork 73 = .ok (.istore 6, 2) := by decide +kernel
theorem dX7_measureWork_75 : decode cX7_measureWork 75 = .ok (.aload_n 0, 1) := by decide +kernel
theorem dX7_measureWork_76 : decode cX7_measureWork 76 = .ok (.getfield 11, 3) := by decide +kernel
theorem dX7_measureWork_79 : decode cX7_measureWork 79 = .ok (.iload_n 3, 1) := by decide +kernel
theorem dX7_measureWork_80 : decode cX7_measureWork 80 = .ok (.aaload, 1) := by decide +kernel
theorem dX7_measureWork_81 : decode cX7_measureWork 81 = .ok (.iload 4, 2) := by decide +kernel
theorem dX7_measureWork_83 : decode cX7_measureWork 83 = .ok (.iload 5, 2) := by decide +kernel
theorem dX7_measureWork_85 : decode cX7_measureWork 85 = .ok (.ifCond .ne 7, 3) := by decide +kernel
theorem dX7_measureWork_88 : decode cX7_measureWork 88 = .ok (.iconst 0, 1) := by decide +kernel
theorem dX7_measureWork_89 : decode cX7_measureWork 89 = .ok (.goto 18, 3) := by decide +kernel
theorem dX7_measureWork_92 : decode cX7_measureWork 92 = .ok (.aload_n 2, 1) := by decide +kernel
theorem dX7_measureWork_93 : decode cX7_measureWork 93 = .ok (.getfield 69, 3) := by decide +kernel
theorem dX7_measureWork_96 : decode cX7_measureWork 96 = .ok (.iload 6, 2) := by decide +kernel
theorem dX7_measureWork_98 : decode cX7_measureWork 98 = .ok (.iadd, 1) := by decide +kernel
theorem dX7_measureWork_99 : decode cX7_measureWork 99 = .ok (.aload_n 2, 1) := by decide +kernel
theorem dX7_measureWork_100 : decode cX7_measureWork 100 = .ok (.getfield 72, 3) := by decide +kernel
theorem dX7_measureWork_103 : decode cX7_measureWork 103 = .ok (.iload 5, 2) := by decide +kernel
theorem dX7_measureWork_105 : decode cX7_measureWork 105 = .ok (.imul, 1) := by decide +kernel
theorem dX7_measureWork_106 : decode cX7_measureWork 106 = .ok (.iadd, 1) := by decide +kernel
theorem dX7_measureWork_107 : decode cX7_measureWork 107 = .ok (.iastore, 1) := by decide +kernel
theorem dX7_measureWork_108 : decode cX7_measureWork 108 = .ok (.iinc 4 1, 3) := by decide +kernel
theorem dX7_measureWork_111 : decode cX7_measureWork 111 = .ok (.goto (-73), 3) := by decide +kernel
theorem dX7_measureWork_114 : decode cX7_measureWork 114 = .ok (.iinc 3 1, 3) := by decide +kernel
theorem dX7_measureWork_117 : decode cX7_measureWork 117 = .ok (.goto (-110), 3) := by decide +kernel
theorem dX7_measureWork_120 : decode cX7_measureWork 120 = .ok (.return_, 1) := by decide +kernel
theorem dX7_workInAll_0 : decode cX7_workInAll 0 = .ok (.iconst 0, 1) := by decide +kernel
theorem dX7_workInAll_1 : decode cX7_workInAll 1 = .ok (.istore_n 3, 1) := by decide +kernel
theorem dX7_workInAll_2 : decode cX7_workInAll 2 = .ok (.iconst 0, 1) := by decide +kernel
theorem dX7_workInAll_3 : decode cX7_workInAll 3 = .ok (.istore 4, 2) := by decide +kernel
theorem dX7_workInAll_5 : decode cX7_workInAll 5 = .ok (.iload 4, 2) := by decide +kernel
theorem dX7_workInAll_7 : decode cX7_workInAll 7 = .ok (.aload_n 1, 1) := by decide +kernel
theorem dX7_workInAll_8 : decode cX7_workInAll 8 = .ok (.getfield 53, 3) := by decide +kernel
theorem dX7_workInAll_11 : decode cX7_workInAll 11 = .ok (.if_icmp .ge 21, 3) := by decide +kernel
theorem dX7_workInAll_14 : decode cX7_workInAll 14 = .ok (.iload_n 3, 1) := by decide +kernel
theorem dX7_workInAll_15 : decode cX7_workInAll 15 = .ok (.aload_n 0, 1) := by decide +kernel
theorem dX7_workInAll_16 : decode cX7_workInAll 16 = .ok (.getfield 11, 3) := by decide +kernel
theorem dX7_workInAll_19 : decode cX7_workInAll 19 = .ok (.iload_n 2, 1) := by decide +kernel
theorem dX7_workInAll_20 : decode cX7_workInAll 20 = .ok (.aaload, 1) := by decide +kernel
theorem dX7_workInAll_21 : decode cX7_workInAll 21 = .ok (.iload 4, 2) := by decide +kernel
theorem dX7_workInAll_23 : decode cX7_workInAll 23 = .ok (.iaload, 1) := by decide +kernel
theorem dX7_workInAll_24 : decode cX7_workInAll 24 = .ok (.iadd, 1) := by decide +kernel
theorem dX7_workInAll_25 : decode cX7_workInAll 25 = .ok (.istore_n 3, 1) := by decide +kernel
theorem dX7_workInAll_26 : decode cX7_workInAll 26 = .ok (.iinc 4 1, 3) := by decide +kernel
theorem dX7_workInAll_29 : decode cX7_workInAll 29 = .ok (.goto (-24), 3) := by decide +kernel
theorem dX7_workInAll_32 : decode cX7_workInAll 32 = .ok (.iload_n 3, 1) := by decide +kernel
theorem dX7_workInAll_33 : decode cX7_workInAll 33 = .ok (.ireturn, 1) := by decide +kernel
theorem dX7_runAll_0 : decode cX7_runAll 0 = .ok (.aload_n 0, 1) := by decide +kernel
theorem dX7_runAll_1 : decode cX7_runAll 1 = .ok (.aload_n 1, 1) := by decide +kernel
theorem dX7_runAll_2 : decode cX7_runAll 2 = .ok (.invokevirtual 75, 3) := by decide +kernel
theorem dX7_runAll_5 : decode cX7_runAll 5 = .ok (.iconst 0, 1) := by decide +kernel
theorem dX7_runAll_6 : decode cX7_runAll 6 = .ok (.istore_n 2, 1) := by decide +kernel
theorem dX7_runAll_7 : decode cX7_runAll 7 = .ok (.iload_n 2, 1) := by decide +kernel
theorem dX7_runAll_8 : decode cX7_runAll 8 = .ok (.aload_n 1, 1) := by decide +kernel
theorem dX7_runAll_9 : decode cX7_runAll 9 = .ok (.getfield 35, 3) := by decide +kernel
theorem dX7_runAll_12 : decode cX7_runAll 12 = .ok (.getfield 39, 3) := by decide +kernel
theorem dX7_runAll_15 : decode cX7_runAll 15 = .ok (.if_icmp .ge 19, 3) := by decide +kernel
theorem dX7_runAll_18 : decode cX7_runAll 18 = .ok (.aload_n 0, 1) := by decide +kernel
theorem dX7_runAll_19 : decode cX7_runAll 19 = .ok (.aload_n 1, 1) := by decide +kernel
theorem dX7_runAll_20 : decode cX7_runAll 20 = .ok (.getfield 29, 3) := by decide +kernel
theorem dX7_runAll_23 : decode cX7_runAll 23 = .ok (.iload_n 2, 1) := by decide +kernel
theorem dX7_runAll_24 : decode cX7_runAll 24 = .ok (.iload_n 2, 1) := by decide +kernel
theorem dX7_runAll_25 : decode cX7_runAll 25 = .ok (.invokevirtual 79, 3) := by decide +kernel
theorem dX7_runAll_28 : decode cX7_runAll 28 = .ok (.iinc 2 1, 3) := by decide +kernel
theorem dX7_runAll_31 : decode cX7_runAll 31 = .ok (.goto (-24), 3) := by decide +kernel
theorem dX7_runAll_34 : decode cX7_runAll 34 = .ok (.return_, 1) := by decide +kernel
theorem dX7_run_0 : decode cX7_run 0 = .ok (.iconst 0, 1) := by decide +kernel
theorem dX7_run_1 : decode cX7_run 1 = .ok (.istore 4, 2) := by decide +kernel
theorem dX7_run_3 : decode cX7_run 3 = .ok (.iconst 0, 1) := by decide +kernel
theorem dX7_run_4 : decode cX7_run 4 = .ok (.istore 5, 2) := by decide +kernel
theorem dX7_run_6 : decode cX7_run 6 = .ok (.iload 5, 2) := by decide +kernel
theorem dX7_run_8 : decode cX7_run 8 = .ok (.aload_n 1, 1) := by decide +kernel
theorem dX7_run_9 : decode cX7_run 9 = .ok (.getfield 53, 3) := by decide +kernel
theorem dX7_run_12 : decode cX7_run 12 = .ok (.if_icmp .ge 100, 3) := by decide +kernel
theorem dX7_run_15 : decode cX7_run 15 = .ok (.iload_n 2, 1) := by decide +kernel
theorem dX7_run_16 : decode cX7_run 16 = .ok (.ifCond .ne 7, 3) := by decide +kernel
theorem dX7_run_19 : decode cX7_run 19 = .ok (.iconst 0, 1) := by decide +kernel
theorem dX7_run_20 : decode cX7_run 20 = .ok (.goto 14, 3) := by decide +kernel
theorem dX7_run_23 : decode cX7_run 23 = .ok (.aload_n 0, 1) := by decide +kernel
theorem dX7_run_24 : decode cX7_run 24 = .ok (.getfield 19, 3) := by decide +kernel
theorem dX7_run_27 : decode cX7_run 27 = .ok (.iload_n 2, 1) := by decide +kernel
theorem dX7_run_28 : decode cX7_run 28 = .ok (.iconst 1, 1) := by decide +kernel
theorem dX7_run_29 : decode cX7_run 29 = .ok (.isub, 1) := by decide +kernel
theorem dX7_run_30 : decode cX7_run 30 = .ok (.aaload, 1) := by decide +kernel
theorem dX7_run_31 : decode cX7_run 31 = .ok (.iload 5, 2) := by decide +kernel
theorem dX7_run_33 : decode cX7_run 33 = .ok (.iaload, 1) := by decide +kernel
theorem dX7_run_34 : decode cX7_run 34 = .ok (.istore 6, 2) := by decide +kernel
theorem dX7_run_36 : decode cX7_run 36 = .ok (.aload_n 0, 1) := by decide +kernel
theorem dX7_run_37 : decode cX7_run 37 = .ok (.getfield 16, 3) := by decide +kernel
theorem dX7_run_40 : decode cX7_run 40 = .ok (.iload_n 2, 1) := by decide +kernel
theorem dX7_run_41 : decode cX7_run 41 = .ok (.aaload, 1) := by decide +kernel
theorem dX7_run_42 : decode cX7_run 42 = .ok (.iload 5, 2) := by decide +kernel
theorem dX7_run_44 : decode cX7_run 44 = .ok (.iload 4, 2) := by decide +kernel
theorem dX7_run_46 : decode cX7_run 46 = .ok (.iload 6, 2) := by decide +kernel
theorem dX7_run_48 : decode cX7_run 48 = .ok (.invokestatic 83, 3) := by decide +kernel
theorem dX7_run_51 : decode cX7_run 51 = .ok (.iastore, 1) := by decide +kernel
theorem dX7_run_52 : decode cX7_run 52 = .ok (.aload_n 0, 1) := by decide +kernel
theorem dX7_run_53 : decode cX7_run 53 = .ok (.getfield 16, 3) := by decide +kernel
theorem dX7_run_56 : decode cX7_run 56 = .ok (.iload_n 2, 1) := by decide +kernel
theorem dX7_run_57 : decode cX7_run 57 = .ok (.aaload, 1) := by decide +kernel
theorem dX7_run_58 : decode cX7_run 58 = .ok (.iload 5, 2) := by decide +kernel
theorem dX7_run_60 : decode cX7_run 60 = .ok (.iaload, 1) := by decide +kernel
theorem dX7_run_61 : decode cX7_run 61 = .ok (.aload_n 0, 1) := by decide +kernel
theorem dX7_run_62 : decode cX7_run 62 = .ok (.getfield 11, 3) := by decide +kernel
theorem dX7_run_65 : decode cX7_run 65 = .ok (.iload_n 3, 1) := by decide +kernel
theorem dX7_run_66 : decode cX7_run 66 = .ok (.aaload, 1) := by decide +kernel
theorem dX7_run_67 : decode cX7_run 67 = .ok (.iload 5, 2) := by decide +kernel
theorem dX7_run_69 : decode cX7_run 69 = .ok (.iaload, 1) := by decide +kernel
theorem dX7_run_70 : decode cX7_run 70 = .ok (.iadd, 1) := by decide +kernel
theorem dX7_run_71 : decode cX7_run 71 = .ok (.istore 7, 2) := by decide +kernel
theorem dX7_run_73 : decode cX7_run 73 = .ok (.aload_n 0, 1) := by decide +kernel
theorem dX7_run_74 : decode cX7_run 74 = .ok (.getfield 19, 3) := by decide +kernel
theorem dX7_run_77 : decode cX7_run 77 = .ok (.iload_n 2, 1) := by decide +kernel
theorem dX7_run_78 : decode cX7_run 78 = .ok (.aaload, 1) := by decide +kernel
theorem dX7_run_79 : decode cX7_run 79 = .ok (.iload 5, 2) := by decide +kernel
theorem dX7_run_81 : decode cX7_run 81 = .ok (.iload 7, 2) := by decide +kernel
theorem dX7_run_83 : decode cX7_run 83 = .ok (.aload_n 0, 1) := by decide +kernel
theorem dX7_run_84 : decode cX7_run 84 = .ok (.aload_n 1, 1) := by decide +kernel
theorem dX7_run_85 : decode cX7_run 85 = .ok (.iload_n 2, 1) := by decide +kernel
theorem dX7_run_86 : decode cX7_run 86 = .ok (.iload 5, 2) := by decide +kernel
theorem dX7_run_88 : decode cX7_run 88 = .ok (.invokevirtual 89, 3) := by decide +kernel
theorem dX7_run_91 : decode cX7_run 91 = .ok (.invokestatic 83, 3) := by decide +kernel
theorem dX7_run_94 : decode cX7_run 94 = .ok (.iastore, 1) := by decide +kernel
theorem dX7_run_95 : decode cX7_run 95 = .ok (.aload_n 0, 1) := by decide +kernel
theorem dX7_run_96 : decode cX7_run 96 = .ok (.getfield 19, 3) := by decide +kernel
theorem dX7_run_99 : decode cX7_run 99 = .ok (.iload_n 2, 1) := by decide +kernel
theorem dX7_run_100 : decode cX7_run 100 = .ok (.aaload, 1) := by decide +kernel
theorem dX7_run_101 : decode cX7_run 101 = .ok (.iload 5, 2) := by decide +kernel
theorem dX7_run_103 : decode cX7_run 103 = .ok (.iaload, 1) := by decide +kernel
theorem dX7_run_104 : decode cX7_run 104 = .ok (.istore 4, 2) := by decide +kernel
theorem dX7_run_106 : decode cX7_run 106 = .ok (.iinc 5 1, 3) := by decide +kernel
theorem dX7_run_109 : decode cX7_run 109 = .ok (.goto (-103), 3) := by decide +kernel
theorem dX7_run_112 : decode cX7_run 112 = .ok (.return_, 1) := by decide +kernel
theorem dX7_exitOpens_0 : decode cX7_exitOpens 0 = .ok (.iload_n 3, 1) := by decide +kernel
theorem dX7_exitOpens_1 : decode cX7_exitOpens 1 = .ok (.iconst 1, 1) := by decide +kernel
theorem dX7_exitOpens_2 : decode cX7_exitOpens 2 = .ok (.iadd, 1) := by decide +kernel
theorem dX7_exitOpens_3 : decode cX7_exitOpens 3 = .ok (.aload_n 1, 1) := by decide +kernel
theorem dX7_exitOpens_4 : decode cX7_exitOpens 4 = .ok (.getfield 53, 3) := by decide +kernel
theorem dX7_exitOpens_7 : decode cX7_exitOpens 7 = .ok (.if_icmp .lt 5, 3) := by decide +kernel
theorem dX7_exitOpens_10 : decode cX7_exitOpens 10 = .ok (.iconst 0, 1) := by decide +kernel
theorem dX7_exitOpens_11 : decode cX7_exitOpens 11 = .ok (.ireturn, 1) := by decide +kernel
theorem dX7_exitOpens_12 : decode cX7_exitOpens 12 = .ok (.aload_n 1, 1) := by decide +kernel
theorem dX7_exitOpens_13 : decode cX7_exitOpens 13 = .ok (.getfield 92, 3) := by decide +kernel
theorem dX7_exitOpens_16 : decode cX7_exitOpens 16 = .ok (.iload_n 3, 1) := by decide +kernel
theorem dX7_exitOpens_17 : decode cX7_exitOpens 17 = .ok (.iaload, 1) := by decide +kernel
theorem dX7_exitOpens_18 : decode cX7_exitOpens 18 = .ok (.istore 4, 2) := by decide +kernel
theorem dX7_exitOpens_20 : decode cX7_exitOpens 20 = .ok (.iload 4, 2) := by decide +kernel
theorem dX7_exitOpens_22 : decode cX7_exitOpens 22 = .ok (.ifCond .ne 24, 3) := by decide +kernel
theorem dX7_exitOpens_25 : decode cX7_exitOpens 25 = .ok (.iload_n 2, 1) := by decide +kernel
theorem dX7_exitOpens_26 : decode cX7_exitOpens 26 = .ok (.ifCond .ne 7, 3) := by decide +kernel
theorem dX7_exitOpens_29 : decode cX7_exitOpens 29 = .ok (.iconst 0, 1) := by decide +kernel
theorem dX7_exitOpens_30 : decode cX7_exitOpens 30 = .ok (.goto 15, 3) := by decide +kernel
theorem dX7_exitOpens_33 : decode cX7_exitOpens 33 = .ok (.aload_n 0, 1) := by decide +kernel
theorem dX7_exitOpens_34 : decode cX7_exitOpens 34 = .ok (.getfield 19, 3) := by decide +kernel
theorem dX7_exitOpens_37 : decode cX7_exitOpens 37 = .ok (.iload_n 2, 1) := by decide +kernel
theorem dX7_exitOpens_38 : decode cX7_exitOpens 38 = .ok (.iconst 1, 1) := by decide +kernel
theorem dX7_exitOpens_39 : decode cX7_exitOpens 39 = .ok (.isub, 1) := by decide +kernel
theorem dX7_exitOpens_40 : decode cX7_exitOpens 40 = .ok (.aaload, 1) := by decide +kernel
theorem dX7_exitOpens_41 : decode cX7_exitOpens 41 = .ok (.iload_n 3, 1) := by decide +kernel
theorem dX7_exitOpens_42 : decode cX7_exitOpens 42 = .ok (.iconst 1, 1) := by decide +kernel
theorem dX7_exitOpens_43 : decode cX7_exitOpens 43 = .ok (.iadd, 1) := by decide +kernel
theorem dX7_exitOpens_44 : decode cX7_exitOpens 44 = .ok (.iaload, 1) := by decide +kernel
theorem dX7_exitOpens_45 : decode cX7_exitOpens 45 = .ok (.ireturn, 1) := by decide +kernel
theorem dX7_exitOpens_46 : decode cX7_exitOpens 46 = .ok (.iload_n 2, 1) := by decide +kernel
theorem dX7_exitOpens_47 : decode cX7_exitOpens 47 = .ok (.iload 4, 2) := by decide +kernel
theorem dX7_exitOpens_49 : decode cX7_exitOpens 49 = .ok (.if_icmp .ge 7, 3) := by decide +kernel
theorem dX7_exitOpens_52 : decode cX7_exitOpens 52 = .ok (.iconst 0, 1) := by decide +kernel
theorem dX7_exitOpens_53 : decode cX7_exitOpens 53 = .ok (.goto 16, 3) := by decide +kernel
theorem dX7_exitOpens_56 : decode cX7_exitOpens 56 = .ok (.aload_n 0, 1) := by decide +kernel
theorem dX7_exitOpens_57 : decode cX7_exitOpens 57 = .ok (.getfield 16, 3) := by decide +kernel
theorem dX7_exitOpens_60 : decode cX7_exitOpens 60 = .ok (.iload_n 2, 1) := by decide +kernel
theorem dX7_exitOpens_61 : decode cX7_exitOpens 61 = .ok (.iload 4, 2) := by decide +kernel
theorem dX7_exitOpens_63 : decode cX7_exitOpens 63 = .ok (.isub, 1) := by decide +kernel
theorem dX7_exitOpens_64 : decode cX7_exitOpens 64 = .ok (.aaload, 1) := by decide +kernel
theorem dX7_exitOpens_65 : decode cX7_exitOpens 65 = .ok (.iload_n 3, 1) := by decide +kernel
theorem dX7_exitOpens_66 : decode cX7_exitOpens 66 = .ok (.iconst 1, 1) := by decide +kernel
theorem dX7_exitOpens_67 : decode cX7_exitOpens 67 = .ok (.iadd, 1) := by decide +kernel
theorem dX7_exitOpens_68 : decode cX7_exitOpens 68 = .ok (.iaload, 1) := by decide +kernel
theorem dX7_exitOpens_69 : decode cX7_exitOpens 69 = .ok (.ireturn, 1) := by decide +kernel
theorem dX7_completion_0 : decode cX7_completion 0 = .ok (.aload_n 0, 1) := by decide +kernel
theorem dX7_completion_1 : decode cX7_completion 1 = .ok (.getfield 19, 3) := by decide +kernel
theorem dX7_completion_4 : decode cX7_completion 4 = .ok (.iload_n 2, 1) := by decide +kernel
theorem dX7_completion_5 : decode cX7_completion 5 = .ok (.aaload, 1) := by decide +kernel
theorem dX7_completion_6 : decode cX7_completion 6 = .ok (.aload_n 1, 1) := by decide +kernel
theorem dX7_completion_7 : decode cX7_completion 7 = .ok (.getfield 53, 3) := by decide +kernel
theorem dX7_completion_10 : decode cX7_completion 10 = .ok (.iconst 1, 1) := by decide +kernel
theorem dX7_completion_11 : decode cX7_completion 11 = .ok (.isub, 1) := by decide +kernel
theorem dX7_completion_12 : decode cX7_completion 12 = .ok (.iaload, 1) := by decide +kernel
theorem dX7_completion_13 : decode cX7_completion 13 = .ok (.ireturn, 1) := by decide +kernel
theorem dX8_makeAll_0 : decode cX8_makeAll 0 = .ok (.aload_n 0, 1) := by decide +kernel
theorem dX8_makeAll_1 : decode cX8_makeAll 1 = .ok (.iload_n 2, 1) := by decide +kernel
theorem dX8_makeAll_2 : decode cX8_makeAll 2 = .ok (.invokestatic 9, 3) := by decide +kernel
theorem dX8_makeAll_5 : decode cX8_makeAll 5 = .ok (.istore 4, 2) := by decide +kernel
theorem dX8_makeAll_7 : decode cX8_makeAll 7 = .ok (.iconst 0, 1) := by decide +kernel
theorem dX8_makeAll_8 : decode cX8_makeAll 8 = .ok (.istore 5, 2) := by decide +kernel
theorem dX8_makeAll_10 : decode cX8_makeAll 10 = .ok (.iload 5, 2) := by decide +kernel
theorem dX8_makeAll_12 : decode cX8_makeAll 12 = .ok (.bipush 8, 2) := by decide +kernel
theorem dX8_makeAll_14 : decode cX8_makeAll 14 = .ok (.if_icmp .ge 87, 3) := by decide +kernel
theorem dX8_makeAll_17 : decode cX8_makeAll 17 = .ok (.iload 4, 2) := by decide +kernel
theorem dX8_makeAll_19 : decode cX8_makeAll 19 = .ok (.ifCond .eq 82, 3) := by decide +kernel
theorem dX8_makeAll_22 : decode cX8_makeAll 22 = .ok (.aload_n 0, 1) := by decide +kernel
theorem dX8_makeAll_23 : decode cX8_makeAll 23 = .ok (.getfield 15, 3) := by decide +kernel
theorem dX8_makeAll_26 : decode cX8_makeAll 26 = .ok (.getfield 21, 3) := by decide +kernel
theorem dX8_makeAll_29 : decode cX8_makeAll 29 = .ok (.bipush 8, 2) := by decide +kernel
theorem dX8_makeAll_31 : decode cX8_makeAll 31 = .ok (.if_icmp .ge 70, 3) := by decide +kernel
theorem dX8_makeAll_34 : decode cX8_makeAll 34 = .ok (.iconst 1, 1) := by decide +kernel
theorem dX8_makeAll_35 : decode cX8_makeAll 35 = .ok (.aload_n 0, 1) := by decide +kernel
theorem dX8_makeAll_36 : decode cX8_makeAll 36 = .ok (.iload 4, 2) := by decide +kernel
theorem dX8_makeAll_38 : decode cX8_makeAll 38 = .ok (.iload_n 3, 1) := by decide +kernel
theorem dX8_makeAll_39 : decode cX8_makeAll 39 = .ok (.invokestatic 27, 3) := by decide +kernel
theorem dX8_makeAll_42 : decode cX8_makeAll 42 = .ok (.ishl, 1) := by decide +kernel
theorem dX8_makeAll_43 : decode cX8_makeAll 43 = .ok (.istore 6, 2) := by decide +kernel
theorem dX8_makeAll_45 : decode cX8_makeAll 45 = .ok (.iconst 1, 1) := by decide +kernel
theorem dX8_makeAll_46 : decode cX8_makeAll 46 = .ok (.istore 7, 2) := by decide +kernel
theorem dX8_makeAll_48 : decode cX8_makeAll 48 = .ok (.iload 7, 2) := by decide +kernel
theorem dX8_makeAll_50 : decode cX8_makeAll 50 = .ok (.iload_n 1, 1) := by decide +kernel
theorem dX8_makeAll_51 : decode cX8_makeAll 51 = .ok (.if_icmp .ge 28, 3) := by decide +kernel
theorem dX8_makeAll_54 : decode cX8_makeAll 54 = .ok (.iload 6, 2) := by decide +kernel
theorem dX8_makeAll_56 : decode cX8_makeAll 56 = .ok (.aload_n 0, 1) := by decide +kernel
theorem dX8_makeAll_57 : decode cX8_makeAll 57 = .ok (.iload 6, 2) := by decide +kernel
theorem dX8_makeAll_59 : decode cX8_makeAll 59 = .ok (.iload 4, 2) := by decide +kernel
theorem dX8_makeAll_61 : decode cX8_makeAll 61 = .ok (.iload 6, 2) := by decide +kernel
theorem dX8_makeAll_63 : decode cX8_makeAll 63 = .ok (.iconst (-1), 1) := by decide +kernel
theorem dX8_makeAll_64 : decode cX8_makeAll 64 = .ok (.ixor, 1) := by decide +kernel
theorem dX8_makeAll_65 : decode cX8_makeAll 65 = .ok (.iand, 1) := by decide +kernel
theorem dX8_makeAll_66 : decode cX8_makeAll 66 = .ok (.iload_n 2, 1) := by decide +kernel
theorem dX8_makeAll_67 : decode cX8_makeAll 67 = .ok (.invokestatic 31, 3) := by decide +kernel
theorem dX8_makeAll_70 : decode cX8_makeAll 70 = .ok (.ior, 1) := by decide +kernel
theorem dX8_makeAll_71 : decode cX8_makeAll 71 = .ok (.istore 6, 2) := by decide +kernel
theorem dX8_makeAll_73 : decode cX8_makeAll 73 = .ok (.iinc 7 1, 3) := by decide +kernel
theorem dX8_makeAll_76 : decode cX8_makeAll 76 = .ok (.goto (-28), 3) := by decide +kernel
theorem dX8_makeAll_79 : decode cX8_makeAll 79 = .ok (.iload 4, 2) := by decide +kernel
theorem dX8_makeAll_81 : decode cX8_makeAll 81 = .ok (.iload 6, 2) := by decide +kernel
theorem dX8_makeAll_83 : decode cX8_makeAll 83 = .ok (.iconst (-1), 1) := by decide +kernel
theorem dX8_makeAll_84 : decode cX8_makeAll 84 = .ok (.ixor, 1) := by decide +kernel
theorem dX8_makeAll_85 : decode cX8_makeAll 85 = .ok (.iand, 1) := by decide +kernel
theorem dX8_makeAll_86 : decode cX8_makeAll 86 = .ok (.istore 4, 2) := by decide +kernel
theorem dX8_makeAll_88 : decode cX8_makeAll 88 = .ok (.aload_n 0, 1) := by decide +kernel
theorem dX8_makeAll_89 : decode cX8_makeAll 89 = .ok (.iload 6, 2) := by decide +kernel
theorem dX8_makeAll_91 : decode cX8_makeAll 91 = .ok (.invokevirtual 35, 3) := by decide +kernel
theorem dX8_makeAll_94 : decode cX8_makeAll 94 = .ok (.pop, 1) := by decide +kernel
theorem dX8_makeAll_95 : decode cX8_makeAll 95 = .ok (.iinc 5 1, 3) := by decide +kernel
theorem dX8_makeAll_98 : decode cX8_makeAll 98 = .ok (.goto (-88), 3) := by decide +kernel
theorem dX8_makeAll_101 : decode cX8_makeAll 101 = .ok (.iload 5, 2) := by decide +kernel
theorem dX8_makeAll_103 : decode cX8_makeAll 103 = .ok (.ireturn, 1) := by decide +kernel
theorem dX8_candidatesIn_0 : decode cX8_candidatesIn 0 = .ok (.iconst 0, 1) := by decide +kernel
theorem dX8_candidatesIn_1 : decode cX8_candidatesIn 1 = .ok (.istore_n 2, 1) := by decide +kernel
theorem dX8_candidatesIn_2 : decode cX8_candidatesIn 2 = .ok (.iconst 0, 1) := by decide +kernel
theorem dX8_candidatesIn_3 : decode cX8_candidatesIn 3 = .ok (.istore_n 3, 1) := by decide +kernel
theorem dX8_candidatesIn_4 : decode cX8_candidatesIn 4 = .ok (.iload_n 3, 1) := by decide +kernel
theorem dX8_candidatesIn_5 : decode cX8_candidatesIn 5 = .ok (.aload_n 0, 1) := by decide +kernel
theorem dX8_candidatesIn_6 : decode cX8_candidatesIn 6 = .ok (.getfield 39, 3) := by decide +kernel
theorem dX8_candidatesIn_9 : decode cX8_candidatesIn 9 = .ok (.getfield 43, 3) := by decide +kernel
theorem dX8_candidatesIn_12 : decode cX8_candidatesIn 12 = .ok (.if_icmp .ge 34, 3) := by decide +kernel
theorem dX8_candidatesIn_15 : decode cX8_candidatesIn 15 = .ok (.aload_n 0, 1) := by decide +kernel
theorem dX8_candidatesIn_16 : decode cX8_candidatesIn 16 = .ok (.iconst 1, 1) := by decide +kernel
theorem dX8_candidatesIn_17 : decode cX8_candidatesIn 17 = .ok (.iload_n 3, 1) := by decide +kernel
theorem dX8_candidatesIn_18 : decode cX8_candidatesIn 18 = .ok (.ishl, 1) := by decide +kernel
theorem dX8_candidatesIn_19 : decode cX8_candidatesIn 19 = .ok (.invokevirtual 46, 3) := by decide +kernel
theorem dX8_candidatesIn_22 : decode cX8_candidatesIn 22 = .ok (.ifCond .eq 18, 3) := by decide +kernel
theorem dX8_candidatesIn_25 : decode cX8_candidatesIn 25 = .ok (.aload_n 0, 1) := by decide +kernel
theorem dX8_candidatesIn_26 : decode cX8_candidatesIn 26 = .ok (.iload_n 3, 1) := by decide +kernel
theorem dX8_candidatesIn_27 : decode cX8_candidatesIn 27 = .ok (.invokevirtual 50, 3) := by decide +kernel
theorem dX8_candidatesIn_30 : decode cX8_candidatesIn 30 = .ok (.iload_n 1, 1) := by decide +kernel
theorem dX8_candidatesIn_31 : decode cX8_candidatesIn 31 = .ok (.if_icmp .gt 9, 3) := by decide +kernel
theorem dX8_candidatesIn_34 : decode cX8_candidatesIn 34 = .ok (.iload_n 2, 1) := by decide +kernel
theorem dX8_candidatesIn_35 : decode cX8_candidatesIn 35 = .ok (.iconst 1, 1) := by decide +kernel
theorem dX8_candidatesIn_36 : decode cX8_candidatesIn 36 = .ok (.iload_n 3, 1) := by decide +kernel
theorem dX8_candidatesIn_37 : decode cX8_candidatesIn 37 = .ok (.ishl, 1) := by decide +kernel
theorem dX8_candidatesIn_38 : decode cX8_candidatesIn 38 = .ok (.ior, 1) := by decide +kernel
theorem dX8_candidatesIn_39 : decode cX8_candidatesIn 39 = .ok (.istore_n 2, 1) := by decide +kernel
theorem dX8_candidatesIn_40 : decode cX8_candidatesIn 40 = .ok (.iinc 3 1, 3) := by decide +kernel
theorem dX8_candidatesIn_43 : decode cX8_candidatesIn 43 = .ok (.goto (-39), 3) := by decide +kernel
theorem dX8_candidatesIn_46 : decode cX8_candidatesIn 46 = .ok (.iload_n 2, 1) := by decide +kernel
theorem dX8_candidatesIn_47 : decode cX8_candidatesIn 47 = .ok (.ireturn, 1) := by decide +kernel
theorem dX8_seedAmong_0 : decode cX8_seedAmong 0 = .ok (.iconst 0, 1) := by decide +kernel
theorem dX8_seedAmong_1 : decode cX8_seedAmong 1 = .ok (.istore_n 3, 1) := by decide +kernel
theorem dX8_seedAmong_2 : decode cX8_seedAmong 2 = .ok (.sipush (-10000), 3) := by decide +kernel
theorem dX8_seedAmong_5 : decode cX8_seedAmong 5 = .ok (.istore 4, 2) := by decide +kernel
theorem dX8_seedAmong_7 : decode cX8_seedAmong 7 = .ok (.iconst 0, 1) := by decide +kernel
theorem dX8_seedAmong_8 : decode cX8_seedAmong 8 = .ok (.istore 5, 2) := by decide +kernel
theorem dX8_seedAmong_10 : decode cX8_seedAmong 10 = .ok (.iload 5, 2) := by decide +kernel
theorem dX8_seedAmong_12 : decode cX8_seedAmong 12 = .ok (.aload_n 0, 1) := by decide +kernel
theorem dX8_seedAmong_13 : decode cX8_seedAmong 13 = .ok (.getfield 39, 3) := by decide +kernel
theorem dX8_seedAmong_16 : decode cX8_seedAmong 16 = .ok (.getfield 43, 3) := by decide +kernel
theorem dX8_seedAmong_19 : decode cX8_seedAmong 19 = .ok (.if_icmp .ge 42, 3) := by decide +kernel
theorem dX8_seedAmong_22 : decode cX8_seedAmong 22 = .ok (.iload_n 1, 1) := by decide +kernel
theorem dX8_seedAmong_23 : decode cX8_seedAmong 23 = .ok (.iload 5, 2) := by decide +kernel
theorem dX8_seedAmong_25 : decode cX8_seedAmong 25 = .ok (.ishr, 1) := by decide +kernel
theorem dX8_seedAmong_26 : decode cX8_seedAmong 26 = .ok (.iconst 1, 1) := by decide +kernel
theorem dX8_seedAmong_27 : decode cX8_seedAmong 27 = .ok (.iand, 1) := by decide +kernel
theorem dX8_seedAmong_28 : decode cX8_seedAmong 28 = .ok (.ifCond .eq 27, 3) := by decide +kernel
theorem dX8_seedAmong_31 : decode cX8_seedAmong 31 = .ok (.aload_n 0, 1) := by decide +kernel
theorem dX8_seedAmong_32 : decode cX8_seedAmong 32 = .ok (.iload 5, 2) := by decide +kernel
theorem dX8_seedAmong_34 : decode cX8_seedAmong 34 = .ok (.iload_n 2, 1) := by decide +kernel
theorem dX8_seedAmong_35 : decode cX8_seedAmong 35 = .ok (.invokestatic 53, 3) := by decide +kernel
theorem dX8_seedAmong_38 : decode cX8_seedAmong 38 = .ok (.iload 4, 2) := by decide +kernel
theorem dX8_seedAmong_40 : decode cX8_seedAmong 40 = .ok (.if_icmp .le 15, 3) := by decide +kernel
theorem dX8_seedAmong_43 : decode cX8_seedAmong 43 = .ok (.aload_n 0, 1) := by decide +kernel
theorem dX8_seedAmong_44 : decode cX8_seedAmong 44 = .ok (.iload 5, 2) := by decide +kernel
theorem dX8_seedAmong_46 : decode cX8_seedAmong 46 = .ok (.iload_n 2, 1) := by decide +kernel
theorem dX8_seedAmong_47 : decode cX8_seedAmong 47 = .ok (.invokestatic 53, 3) := by decide +kernel
theorem dX8_seedAmong_50 : decode cX8_seedAmong 50 = .ok (.istore 4, 2) := by decide +kernel
theorem dX8_seedAmong_52 : decode cX8_seedAmong 52 = .ok (.iload 5, 2) := by decide +kernel
theorem dX8_seedAmong_54 : decode cX8_seedAmong 54 = .ok (.istore_n 3, 1) := by decide +kernel
theorem dX8_seedAmong_55 : decode cX8_seedAmong 55 = .ok (.iinc 5 1, 3) := by decide +kernel
theorem dX8_seedAmong_58 : decode cX8_seedAmong 58 = .ok (.goto (-48), 3) := by decide +kernel
theorem dX8_seedAmong_61 : decode cX8_seedAmong 61 = .ok (.iload_n 3, 1) := by decide +kernel
theorem dX8_seedAmong_62 : decode cX8_seedAmong 62 = .ok (.ireturn, 1) := by decide +kernel
theorem dX8_seedValue_0 : decode cX8_seedValue 0 = .ok (.iload_n 2, 1) := by decide +kernel
theorem dX8_seedValue_1 : decode cX8_seedValue 1 = .ok (.iconst 1, 1) := by decide +kernel
theorem dX8_seedValue_2 : decode cX8_seedValue 2 = .ok (.if_icmp .ne 9, 3) := by decide +kernel
theorem dX8_seedValue_5 : decode cX8_seedValue 5 = .ok (.aload_n 0, 1) := by decide +kernel
theorem dX8_seedValue_6 : decode cX8_seedValue 6 = .ok (.iload_n 1, 1) := by decide +kernel
theorem dX8_seedValue_7 : decode cX8_seedValue 7 = .ok (.invokevirtual 50, 3) := by decide +kernel
theorem dX8_seedValue_10 : decode cX8_seedValue 10 = .ok (.ireturn, 1) := by decide +kernel
theorem dX8_seedValue_11 : decode cX8_seedValue 11 = .ok (.iload_n 2, 1) := by decide +kernel
theorem dX8_seedValue_12 : decode cX8_seedValue 12 = .ok (.iconst 2, 1) := by decide +kernel
theorem dX8_seedValue_13 : decode cX8_seedValue 13 = .ok (.if_icmp .ne 12, 3) := by decide +kernel
theorem dX8_seedValue_16 : decode cX8_seedValue 16 = .ok (.aload_n 0, 1) := by decide +kernel
theorem dX8_seedValue_17 : decode cX8_seedValue 17 = .ok (.iload_n 1, 1) := by decide +kernel
theorem dX8_seedValue_18 : decode cX8_seedValue 18 = .ok (.invokevirtual 56, 3) := by decide +kernel
theorem dX8_seedValue_21 : decode cX8_seedValue 21 = .ok (.invokestatic 59, 3) := by decide +kernel
theorem dX8_seedValue_24 : decode cX8_seedValue 24 = .ok (.ireturn, 1) := by decide +kernel
theorem dX8_seedValue_25 : decode cX8_seedValue 25 = .ok (.aload_n 0, 1) := by decide +kernel
theorem dX8_seedValue_26 : decode cX8_seedValue 26 = .ok (.getfield 39, 3) := by decide +kernel
theorem dX8_seedValue_29 : decode cX8_seedValue 29 = .ok (.getfield 64, 3) := by decide +kernel
theorem dX8_seedValue_32 : decode cX8_seedValue 32 = .ok (.iload_n 1, 1) := by decide +kernel
theorem dX8_seedValue_33 : decode cX8_seedValue 33 = .ok (.iaload, 1) := by decide +kernel
theorem dX8_seedValue_34 : decode cX8_seedValue 34 = .ok (.ineg, 1) := by decide +kernel
theorem dX8_seedValue_35 : decode cX8_seedValue 35 = .ok (.ireturn, 1) := by decide +kernel
theorem dX8_companionFor_0 : decode cX8_companionFor 0 = .ok (.iconst 0, 1) := by decide +kernel
theorem dX8_companionFor_1 : decode cX8_companionFor 1 = .ok (.istore 4, 2) := by decide +kernel
theorem dX8_companionFor_3 : decode cX8_companionFor 3 = .ok (.iconst 0, 1) := by decide +kernel
theorem dX8_companionFor_4 : decode cX8_companionFor 4 = .ok (.istore 5, 2) := by decide +kernel
theorem dX8_companionFor_6 : decode cX8_companionFor 6 = .ok (.iload 5, 2) := by decide +kernel
theorem dX8_companionFor_8 : decode cX8_companionFor 8 = .ok (.aload_n 0, 1) := by decide +kernel
theorem dX8_companionFor_9 : decode cX8_companionFor 9 = .ok (.getfield 39, 3) := by decide +kernel
theorem dX8_companionFor_12 : decode cX8_companionFor 12 = .ok (.getfield 43, 3) := by decide +kernel
theorem dX8_companionFor_15 : decode cX8_companionFor 15 = .ok (.if_icmp .ge 29, 3) := by decide +kernel
theorem dX8_companionFor_18 : decode cX8_companionFor 18 = .ok (.iload_n 1, 1) := by decide +kernel
theorem dX8_companionFor_19 : decode cX8_companionFor 19 = .ok (.iload 5, 2) := by decide +kernel
theorem dX8_companionFor_21 : decode cX8_companionFor 21 = .ok (.ishr, 1) := by decide +kernel
theorem dX8_companionFor_22 : decode cX8_companionFor 22 = .ok (.iconst 1, 1) := by decide +kernel
theorem dX8_companionFor_23 : decode cX8_companionFor 23 = .ok (.iand, 1) := by decide +kernel
theorem dX8_companionFor_24 : decode cX8_companionFor 24 = .ok (.ifCond .eq 14, 3) := by decide +kernel
theorem dX8_companionFor_27 : decode cX8_companionFor 27 = .ok (.iload 4, 2) := by decide +kernel
theorem dX8_companionFor_29 : decode cX8_companionFor 29 = .ok (.aload_n 0, 1) := by decide +kernel
theorem dX8_companionFor_30 : decode cX8_companionFor 30 = .ok (.iload 5, 2) := by decide +kernel
theorem dX8_companionFor_32 : decode cX8_companionFor 32 = .ok (.invokevirtual 56, 3) := by decide +kernel
theorem dX8_companionFor_35 : decode cX8_companionFor 35 = .ok (.ior, 1) := by decide +kernel
theorem dX8_companionFor_36 : decode cX8_companionFor 36 = .ok (.istore 4, 2) := by decide +kernel
theorem dX8_companionFor_38 : decode cX8_companionFor 38 = .ok (.iinc 5 1, 3) := by decide +kernel
theorem dX8_companionFor_41 : decode cX8_companionFor 41 = .ok (.goto (-35), 3) := by decide +kernel
theorem dX8_companionFor_44 : decode cX8_companionFor 44 = .ok (.iload_n 3, 1) := by decide +kernel
theorem dX8_companionFor_45 : decode cX8_companionFor 45 = .ok (.aload_n 0, 1) := by decide +kernel
theorem dX8_companionFor_46 : decode cX8_companionFor 46 = .ok (.iload_n 1, 1) := by decide +kernel
theorem dX8_companionFor_47 : decode cX8_companionFor 47 = .ok (.invokevirtual 68, 3) := by decide +kernel
theorem dX8_companionFor_50 : decode cX8_companionFor 50 = .ok (.isub, 1) := by decide +kernel
theorem dX8_companionFor_51 : decode cX8_companionFor 51 = .ok (.istore 5, 2) := by decide +kernel
theorem dX8_companionFor_53 : decode cX8_companionFor 53 = .ok (.iconst 0, 1) := by decide +kernel
theorem dX8_companionFor_54 : decode cX8_companionFor 54 = .ok (.istore 6, 2) := by decide +kernel
theorem dX8_companionFor_56 : decode cX8_companionFor 56 = .ok (.ldc 71, 2) := by decide +kernel
theorem dX8_companionFor_58 : decode cX8_companionFor 58 = .ok (.istore 7, 2) := by decide +kernel
theorem dX8_companionFor_60 : decode cX8_companionFor 60 = .ok (.iconst 0, 1) := by decide +kernel
theorem dX8_companionFor_61 : decode cX8_companionFor 61 = .ok (.istore 8, 2) := by decide +kernel
theorem dX8_companionFor_63 : decode cX8_companionFor 63 = .ok (.iload 8, 2) := by decide +kernel
theorem dX8_companionFor_65 : decode cX8_companionFor 65 = .ok (.aload_n 0, 1) := by decide +kernel
theorem dX8_companionFor_66 : decode cX8_companionFor 66 = .ok (.getfield 39, 3) := by decide +kernel
theorem dX8_companionFor_69 : decode cX8_companionFor 69 = .ok (.getfield 43, 3) := by decide +kernel
theorem dX8_companionFor_72 : decode cX8_companionFor 72 = .ok (.if_icmp .ge 81, 3) := by decide +kernel
theorem dX8_companionFor_75 : decode cX8_companionFor 75 = .ok (.iload_n 2, 1) := by decide +kernel
theorem dX8_companionFor_76 : decode cX8_companionFor 76 = .ok (.iload 8, 2) := by decide +kernel
theorem dX8_companionFor_78 : decode cX8_companionFor 78 = .ok (.ishr, 1) := by decide +kernel
theorem dX8_companionFor_79 : decode cX8_companionFor 79 = .ok (.iconst 1, 1) := by decide +kernel
theorem dX8_companionFor_80 : decode cX8_companionFor 80 = .ok (.iand, 1) := by decide +kernel
theorem dX8_companionFor_81 : decode cX8_companionFor 81 = .ok (.ifCond .eq 66, 3) := by decide +kernel
theorem dX8_companionFor_84 : decode cX8_companionFor 84 = .ok (.aload_n 0, 1) := by decide +kernel
theorem dX8_companionFor_85 : decode cX8_companionFor 85 = .ok (.iload 8, 2) := by decide +kernel
theorem dX8_companionFor_87 : decode cX8_companionFor 87 = .ok (.invokevirtual 50, 3) := by decide +kernel
theorem dX8_companionFor_90 : decode cX8_companionFor 90 = .ok (.iload 5, 2) := by decide +kernel
theorem dX8_companionFor_92 : decode cX8_companionFor 92 = .ok (.if_icmp .gt 55, 3) := by decide +kernel
theorem dX8_companionFor_95 : decode cX8_companionFor 95 = .ok (.aload_n 0, 1) := by decide +kernel
theorem dX8_companionFor_96 : decode cX8_companionFor 96 = .ok (.iload 8, 2) := by decide +kernel
theorem dX8_companionFor_98 : decode cX8_companionFor 98 = .ok (.invokevirtual 56, 3) := by decide +kernel
theorem dX8_companionFor_101 : decode cX8_companionFor 101 = .ok (.iload 4, 2) := by decide +kernel
theorem dX8_companionFor_103 : decode cX8_companionFor 103 = .ok (.iconst (-1), 1) := by decide +kernel
theorem dX8_companionFor_104 : decode cX8_companionFor 104 = .ok (.ixor, 1) := by decide +kernel
theorem dX8_companionFor_105 : decode cX8_companionFor 105 = .ok (.iand, 1) := by decide +kernel
theorem dX8_companionFor_106 : decode cX8_companionFor 106 = .ok (.invokestatic 59, 3) := by decide +kernel
theorem dX8_companionFor_109 : decode cX8_companionFor 109 = .ok (.istore 9, 2) := by decide +kernel
theorem dX8_companionFor_111 : decode cX8_companionFor 111 = .ok (.iload 9, 2) := by decide +kernel
theorem dX8_companionFor_113 : decode cX8_companionFor 113 = .ok (.sipush 10000, 3) := by decide +kernel
theorem dX8_companionFor_116 : decode cX8_companionFor 116 = .ok (.imul, 1) := by decide +kernel
theorem dX8_companionFor_117 : decode cX8_companionFor 117 = .ok (.aload_n 0, 1) := by decide +kernel
theorem dX8_companionFor_118 : decode cX8_companionFor 118 = .ok (.getfield 39, 3) := by decide +kernel
theorem dX8_companionFor_121 : decode cX8_companionFor 121 = .ok (.getfield 64, 3) := by decide +kernel
theorem dX8_companionFor_124 : decode cX8_companionFor 124 = .ok (.iload 8, 2) := by decide +kernel
theorem dX8_companionFor_126 : decode cX8_companionFor 126 = .ok (.iaload, 1) := by decide +kernel
theorem dX8_companionFor_127 : decode cX8_companionFor 127 = .ok (.iadd, 1) := by decide +kernel
theorem dX8_companionFor_128 : decode cX8_companionFor 128 = .ok (.istore 10, 2) := by decide +kernel
theorem dX8_companionFor_130 : decode cX8_companionFor 130 = .ok (.iload 10, 2) := by decide +kernel
theorem dX8_companionFor_132 : decode cX8_companionFor 132 = .ok (.iload 7, 2) := by decide +kernel
theorem dX8_companionFor_134 : decode cX8_companionFor 134 = .ok (.if_icmp .ge 13, 3) := by decide +kernel
theorem dX8_companionFor_137 : decode cX8_companionFor 137 = .ok (.iload 10, 2) := by decide +kernel
theorem dX8_companionFor_139 : decode cX8_companionFor 139 = .ok (.istore 7, 2) := by decide +kernel
theorem dX8_companionFor_141 : decode cX8_companionFor 141 = .ok (.iconst 1, 1) := by decide +kernel
theorem dX8_companionFor_142 : decode cX8_companionFor 142 = .ok (.iload 8, 2) := by decide +kernel
theorem dX8_companionFor_144 : decode cX8_companionFor 144 = .ok (.ishl, 1) := by decide +kernel
theorem dX8_companionFor_145 : decode cX8_companionFor 145 = .ok (.istore 6, 2) := by decide +kernel
theorem dX8_companionFor_147 : decode cX8_companionFor 147 = .ok (.iinc 8 1, 3) := by decide +kernel
theorem dX8_companionFor_150 : decode cX8_companionFor 150 = .ok (.goto (-87), 3) := by decide +kernel
theorem dX8_companionFor_153 : decode cX8_companionFor 153 = .ok (.iload 6, 2) := by decide +kernel
theorem dX8_companionFor_155 : decode cX8_companionFor 155 = .ok (.ireturn, 1) := by decide +kernel
theorem dX9_init_0 : decode cX9_init 0 = .ok (.aload_n 0, 1) := by decide +kernel
theorem dX9_init_1 : decode cX9_init 1 = .ok (.invokespecial 3, 3) := by decide +kernel
theorem dX9_init_4 : decode cX9_init 4 = .ok (.aload_n 0, 1) := by decide +kernel
theorem dX9_init_5 : decode cX9_init 5 = .ok (.new 9, 3) := by decide +kernel
theorem dX9_init_8 : decode cX9_init 8 = .ok (.dup, 1) := by decide +kernel
theorem dX9_init_9 : decode cX9_init 9 = .ok (.invokespecial 11, 3) := by decide +kernel
theorem dX9_init_12 : decode cX9_init 12 = .ok (.putfield 12, 3) := by decide +kernel
theorem dX9_init_15 : decode cX9_init 15 = .ok (.aload_n 0, 1) := by decide +kernel
theorem dX9_init_16 : decode cX9_init 16 = .ok (.bipush 8, 2) := by decide +kernel
theorem dX9_init_18 : decode cX9_init 18 = .ok (.newarray .int, 2) := by decide +kernel
theorem dX9_init_20 : decode cX9_init 20 = .ok (.putfield 18, 3) := by decide +kernel
theorem dX9_init_23 : decode cX9_init 23 = .ok (.aload_n 0, 1) := by decide +kernel
theorem dX9_init_24 : decode cX9_init 24 = .ok (.bipush 8, 2) := by decide +kernel
theorem dX9_init_26 : decode cX9_init 26 = .ok (.newarray .int, 2) := by decide +kernel
theorem dX9_init_28 : decode cX9_init 28 = .ok (.putfield 22, 3) := by decide +kernel
theorem dX9_init_31 : decode cX9_init 31 = .ok (.aload_n 0, 1) := by decide +kernel
theorem dX9_init_32 : decode cX9_init 32 = .ok (.bipush 8, 2) := by decide +kernel
theorem dX9_init_34 : decode cX9_init 34 = .ok (.newarray .int, 2) := by decide +kernel
theorem dX9_init_36 : decode cX9_init 36 = .ok (.putfield 25, 3) := by decide +kernel
theorem dX9_init_39 : decode cX9_init 39 = .ok (.aload_n 0, 1) := by decide +kernel
theorem dX9_init_40 : decode cX9_init 40 = .ok (.bipush 8, 2) := by decide +kernel
theorem dX9_init_42 : decode cX9_init 42 = .ok (.newarray .int, 2) := by decide +kernel
theorem dX9_init_44 : decode cX9_init 44 = .ok (.putfield 28, 3) := by decide +kernel
theorem dX9_init_47 : decode cX9_init 47 = .ok (.return_, 1) := by decide +kernel
theorem dX9_arrange_0 : decode cX9_arrange 0 = .ok (.aload_n 0, 1) := by decide +kernel
theorem dX9_arrange_1 : decode cX9_arrange 1 = .ok (.getfield 12, 3) := by decide +kernel
theorem dX9_arrange_4 : decode cX9_arrange 4 = .ok (.aload_n 1, 1) := by decide +kernel
theorem dX9_arrange_5 : decode cX9_arrange 5 = .ok (.invokevirtual 31, 3) := by decide +kernel
theorem dX9_arrange_8 : decode cX9_arrange 8 = .ok (.iload_n 2, 1) := by decide +kernel
theorem dX9_arrange_9 : decode cX9_arrange 9 = .ok (.iconst 2, 1) := by decide +kernel
theorem dX9_arrange_10 : decode cX9_arrange 10 = .ok (.if_icmp .ne 20, 3) := by decide +kernel
theorem dX9_arrange_13 : decode cX9_arrange 13 = .ok (.aload_n 0, 1) := by decide +kernel
theorem dX9_arrange_14 : decode cX9_arrange 14 = .ok (.ldc 35, 2) := by decide +kernel
theorem dX9_arrange_16 : decode cX9_arrange 16 = .ok (.putfield 36, 3) := by decide +kernel
theorem dX9_arrange_19 : decode cX9_arrange 19 = .ok (.aload_n 0, 1) := by decide +kernel
theorem dX9_arrange_20 : decode cX9_arrange 20 = .ok (.aload_n 1, 1) := by decide +kernel
theorem dX9_arrange_21 : decode cX9_arrange 21 = .ok (.iconst 0, 1) := by decide +kernel
theorem dX9_arrange_22 : decode cX9_arrange 22 = .ok (.iconst 0, 1) := by decide +kernel
theorem dX9_arrange_23 : decode cX9_arrange 23 = .ok (.iconst 0, 1) := by decide +kernel
theorem dX9_arrange_24 : decode cX9_arrange 24 = .ok (.invokevirtual 40, 3) := by decide +kernel
theorem dX9_arrange_27 : decode cX9_arrange 27 = .ok (.goto 20, 3) := by decide +kernel
theorem dX9_arrange_30 : decode cX9_arrange 30 = .ok (.aload_n 0, 1) := by decide +kernel
theorem dX9_arrange_31 : decode cX9_arrange 31 = .ok (.aload_n 1, 1) := by decide +kernel
theorem dX9_arrange_32 : decode cX9_arrange 32 = .ok (.iload_n 2, 1) := by decide +kernel
theorem dX9_arrange_33 : decode cX9_arrange 33 = .ok (.invokevirtual 44, 3) := by decide +kernel
theorem dX9_arrange_36 : decode cX9_arrange 36 = .ok (.aload_n 0, 1) := by decide +kernel
theorem dX9_arrange_37 : decode cX9_arrange 37 = .ok (.aload_n 1, 1) := by decide +kernel
theorem dX9_arrange_38 : decode cX9_arrange 38 = .ok (.getfield 48, 3) := by decide +kernel
theorem dX9_arrange_41 : decode cX9_arrange 41 = .ok (.getfield 54, 3) := by decide +kernel
theorem dX9_arrange_44 : decode cX9_arrange 44 = .ok (.invokevirtual 59, 3) := by decide +kernel
theorem dX9_arrange_47 : decode cX9_arrange 47 = .ok (.aload_n 0, 1) := by decide +kernel
theorem dX9_arrange_48 : decode cX9_arrange 48 = .ok (.aload_n 1, 1) := by decide +kernel
theorem dX9_arrange_49 : decode cX9_arrange 49 = .ok (.getfield 48, 3) := by decide +kernel
theorem dX9_arrange_52 : decode cX9_arrange 52 = .ok (.invokevirtual 63, 3) := by decide +kernel
theorem dX9_arrange_55 : decode cX9_arrange 55 = .ok (.return_, 1) := by decide +kernel
theorem dX9_fillKeys_0 : decode cX9_fillKeys 0 = .ok (.iconst 0, 1) := by decide +kernel
theorem dX9_fillKeys_1 : decode cX9_fillKeys 1 = .ok (.istore_n 3, 1) := by decide +kernel
theorem dX9_fillKeys_2 : decode cX9_fillKeys 2 = .ok (.iload_n 3, 1) := by decide +kernel
theorem dX9_fillKeys_3 : decode cX9_fillKeys 3 = .ok (.aload_n 1, 1) := by decide +kernel
theorem dX9_fillKeys_4 : decode cX9_fillKeys 4 = .ok (.getfield 48, 3) := by decide +kernel
theorem dX9_fillKeys_7 : decode cX9_fillKeys 7 = .ok (.getfield 54, 3) := by decide +kernel
theorem dX9_fillKeys_10 : decode cX9_fillKeys 10 = .ok (.if_icmp .ge 40, 3) := by decide +kernel
theorem dX9_fillKeys_13 : decode cX9_fillKeys 13 = .ok (.aload_n 0, 1) := by decide +kernel
theorem dX9_fillKeys_14 : decode cX9_fillKeys 14 = .ok (.getfield 18, 3) := by decide +kernel
theorem dX9_fillKeys_17 : decode cX9_fillKeys 17 = .ok (.iload_n 3, 1) := by decide +kernel
theorem dX9_fillKeys_18 : decode cX9_fillKeys 18 = .ok (.iload_n 2, 1) := by decide +kernel
theorem dX9_fillKeys_19 : decode cX9_fillKeys 19 = .ok (.iconst 1, 1) := by decide +kernel
theorem dX9_fillKeys_20 : decode cX9_fillKeys 20 = .ok (.if_icmp .ne 18, 3) := by decide +kernel
theorem dX9_fillKeys_23 : decode cX9_fillKeys 23 = .ok (.aload_n 0, 1) := by decide +kernel
theorem dX9_fillKeys_24 : decode cX9_fillKeys 24 = .ok (.getfield 12, 3) := by decide +kernel
theorem dX9_fillKeys_27 : decode cX9_fillKeys 27 = .ok (.aload_n 1, 1) := by decide +kernel
theorem dX9_fillKeys_28 : decode cX9_fillKeys 28 = .ok (.getfield 67, 3) := by decide +kernel
theorem dX9_fillKeys_31 : decode cX9_fillKeys 31 = .ok (.iload_n 3, 1) := by decide +kernel
theorem dX9_fillKeys_32 : decode cX9_fillKeys 32 = .ok (.invokevirtual 71, 3) := by decide +kernel
theorem dX9_fillKeys_35 : decode cX9_fillKeys 35 = .ok (.goto 8, 3) := by decide +kernel
theorem dX9_fillKeys_38 : decode cX9_fillKeys 38 = .ok (.aload_n 1, 1) := by decide +kernel
theorem dX9_fillKeys_39 : decode cX9_fillKeys 39 = .ok (.iload_n 3, 1) := by decide +kernel
theorem dX9_fillKeys_40 : decode cX9_fillKeys 40 = .ok (.invokevirtual 75, 3) := by decide +kernel
theorem dX9_fillKeys_43 : decode cX9_fillKeys 43 = .ok (.iastore, 1) := by decide +kernel
theorem dX9_fillKeys_44 : decode cX9_fillKeys 44 = .ok (.iinc 3 1, 3) := by decide +kernel
theorem dX9_fillKeys_47 : decode cX9_fillKeys 47 = .ok (.goto (-45), 3) := by decide +kernel
theorem dX9_fillKeys_50 : decode cX9_fillKeys 50 = .ok (.return_, 1) := by decide +kernel
theorem dX9_sortByKeys_0 : decode cX9_sortByKeys 0 = .ok (.iconst 0, 1) := by decide +kernel
theorem dX9_sortByKeys_1 : decode cX9_sortByKeys 1 = .ok (.istore_n 2, 1) := by decide +kernel
theorem dX9_sortByKeys_2 : decode cX9_sortByKeys 2 = .ok (.iload_n 2, 1) := by decide +kernel
theorem dX9_sortByKeys_3 : decode cX9_sortByKeys 3 = .ok (.iload_n 1, 1) := by decide +kernel
theorem dX9_sortByKeys_4 : decode cX9_sortByKeys 4 = .ok (.if_icmp .ge 64, 3) := by decide +kernel
theorem dX9_sortByKeys_7 : decode cX9_sortByKeys 7 = .ok (.iload_n 2, 1) := by decide +kernel
theorem dX9_sortByKeys_8 : decode cX9_sortByKeys 8 = .ok (.istore_n 3, 1) := by decide +kernel
theorem dX9_sortByKeys_9 : decode cX9_sortByKeys 9 = .ok (.iload_n 3, 1) := by decide +kernel
theorem dX9_sortByKeys_10 : decode cX9_sortByKeys 10 = .ok (.ifCond .le 45, 3) := by decide +kernel
theorem dX9_sortByKeys_13 : decode cX9_sortByKeys 13 = .ok (.aload_n 0, 1) := by decide +kernel
theorem dX9_sortByKeys_14 : decode cX9_sortByKeys 14 = .ok (.getfield 18, 3) := by decide +kernel
theorem dX9_sortByKeys_17 : decode cX9_sortByKeys 17 = .ok (.aload_n 0, 1) := by decide +kernel
theorem dX9_sortByKeys_18 : decode cX9_sortByKeys 18 = .ok (.getfield 25, 3) := by decide +kernel
theorem dX9_sortByKeys_21 : decode cX9_sortByKeys 21 = .ok (.iload_n 3, 1) := by decide +kernel
theorem dX9_sortByKeys_22 : decode cX9_sortByKeys 22 = .ok (.iconst 1, 1) := by decide +kernel
theorem dX9_sortByKeys_23 : decode cX9_sortByKeys 23 = .ok (.isub, 1) := by decide +kernel
theorem dX9_sortByKeys_24 : decode cX9_sortByKeys 24 = .ok (.iaload, 1) := by decide +kernel
theorem dX9_sortByKeys_25 : decode cX9_sortByKeys 25 = .ok (.iaload, 1) := by decide +kernel
theorem dX9_sortByKeys_26 : decode cX9_sortByKeys 26 = .ok (.aload_n 0, 1) := by decide +kernel
theorem dX9_sortByKeys_27 : decode cX9_sortByKeys 27 = .ok (.getfield 18, 3) := by decide +kernel
theorem dX9_sortByKeys_30 : decode cX9_sortByKeys 30 = .ok (.iload_n 2, 1) := by decide +kernel
theorem dX9_sortByKeys_31 : decode cX9_sortByKeys 31 = .ok (.iaload, 1) := by decide +kernel
theorem dX9_sortByKeys_32 : decode cX9_sortByKeys 32 = .ok (.if_icmp .le 23, 3) := by decide +kernel
theorem dX9_sortByKeys_35 : decode cX9_sortByKeys 35 = .ok (.aload_n 0, 1) := by decide +kernel
theorem dX9_sortByKeys_36 : decode cX9_sortByKeys 36 = .ok (.getfield 25, 3) := by decide +kernel
theorem dX9_sortByKeys_39 : decode cX9_sortByKeys 39 = .ok (.iload_n 3, 1) := by decide +kernel
theorem dX9_sortByKeys_40 : decode cX9_sortByKeys 40 = .ok (.aload_n 0, 1) := by decide +kernel
theorem dX9_sortByKeys_41 : decode cX9_sortByKeys 41 = .ok (.getfield 25, 3) := by decide +kernel
theorem dX9_sortByKeys_44 : decode cX9_sortByKeys 44 = .ok (.iload_n 3, 1) := by decide +kernel
theorem dX9_sortByKeys_45 : decode cX9_sortByKeys 45 = .ok (.iconst 1, 1) := by decide +kernel
theorem dX9_sortByKeys_46 : decode cX9_sortByKeys 46 = .ok (.isub, 1) := by decide +kernel
theorem dX9_sortByKeys_47 : decode cX9_sortByKeys 47 = .ok (.iaload, 1) := by decide +kernel
theorem dX9_sortByKeys_48 : decode cX9_sortByKeys 48 = .ok (.iastore, 1) := by decide +kernel
theorem dX9_sortByKeys_49 : decode cX9_sortByKeys 49 = .ok (.iinc 3 (-1), 3) := by decide +kernel
theorem dX9_sortByKeys_52 : decode cX9_sortByKeys 52 = .ok (.goto (-43), 3) := by decide +kernel
theorem dX9_sortByKeys_55 : decode cX9_sortByKeys 55 = .ok (.aload_n 0, 1) := by decide +kernel
theorem dX9_sortByKeys_56 : decode cX9_sortByKeys 56 = .ok (.getfield 25, 3) := by decide +kernel
theorem dX9_sortByKeys_59 : decode cX9_sortByKeys 59 = .ok (.iload_n 3, 1) := by decide +kernel
theorem dX9_sortByKeys_60 : decode cX9_sortByKeys 60 = .ok (.iload_n 2, 1) := by decide +kernel
theorem dX9_sortByKeys_61 : decode cX9_sortByKeys 61 = .ok (.iastore, 1) := by decide +kernel
theorem dX9_sortByKeys_62 : decode cX9_sortByKeys 62 = .ok (.iinc 2 1, 3) := by decide +kernel
theorem dX9_sortByKeys_65 : decode cX9_sortByKeys 65 = .ok (.goto (-63), 3) := by decide +kernel
theorem dX9_sortByKeys_68 : decode cX9_sortByKeys 68 = .ok (.return_, 1) := by decide +kernel
theorem dX9_search_0 : decode cX9_search 0 = .ok (.iload_n 2, 1) := by decide +kernel
theorem dX9_search_1 : decode cX9_search 1 = .ok (.bipush 6, 2) := by decide +kernel
theorem dX9_search_3 : decode cX9_search 3 = .ok (.if_icmp .ge 14, 3) := by decide +kernel
theorem dX9_search_6 : decode cX9_search 6 = .ok (.iload_n 2, 1) := by decide +kernel
theorem dX9_search_7 : decode cX9_search 7 = .ok (.aload_n 1, 1) := by decide +kernel
theorem dX9_search_8 : decode cX9_search 8 = .ok (.getfield 48, 3) := by decide +kernel
theorem dX9_search_11 : decode cX9_search 11 = .ok (.getfield 54, 3) := by decide +kernel
theorem dX9_search_14 : decode cX9_search 14 = .ok (.if_icmp .lt 25, 3) := by decide +kernel
theorem dX9_search_17 : decode cX9_search 17 = .ok (.aload_n 0, 1) := by decide +kernel
theorem dX9_search_18 : decode cX9_search 18 = .ok (.iload 4, 2) := by decide +kernel
theorem dX9_search_20 : decode cX9_search 20 = .ok (.putfield 36, 3) := by decide +kernel
theorem dX9_search_23 : decode cX9_search 23 = .ok (.aload_n 0, 1) := by decide +kernel
theorem dX9_search_24 : decode cX9_search 24 = .ok (.getfield 22, 3) := by decide +kernel
theorem dX9_search_27 : decode cX9_search 27 = .ok (.iconst 0, 1) := by decide +kernel
theorem dX9_search_28 : decode cX9_search 28 = .ok (.aload_n 0, 1) := by decide +kernel
theorem dX9_search_29 : decode cX9_search 29 = .ok (.getfield 25, 3) := by decide +kernel
theorem dX9_search_32 : decode cX9_search 32 = .ok (.iconst 0, 1) := by decide +kernel
theorem dX9_search_33 : decode cX9_search 33 = .ok (.bipush 8, 2) := by decide +kernel
theorem dX9_search_35 : decode cX9_search 35 = .ok (.invokestatic 79, 3) := by decide +kernel
theorem dX9_search_38 : decode cX9_search 38 = .ok (.return_, 1) := by decide +kernel
theorem dX9_search_39 : decode cX9_search 39 = .ok (.iconst 0, 1) := by decide +kernel
theorem dX9_search_40 : decode cX9_search 40 = .ok (.istore 5, 2) := by decide +kernel
theorem dX9_search_42 : decode cX9_search 42 = .ok (.iload 5, 2) := by decide +kernel
theorem dX9_search_44 : decode cX9_search 44 = .ok (.aload_n 1, 1) := by decide +kernel
theorem dX9_search_45 : decode cX9_search 45 = .ok (.getfield 48, 3) := by decide +kernel
theorem dX9_search_48 : decode cX9_search 48 = .ok (.getfield 54, 3) := by decide +kernel
theorem dX9_search_51 : decode cX9_search 51 = .ok (.if_icmp .ge 88, 3) := by decide +kernel
theorem dX9_search_54 : decode cX9_search 54 = .ok (.iload_n 3, 1) := by decide +kernel
theorem dX9_search_55 : decode cX9_search 55 = .ok (.iload 5, 2) := by decide +kernel
theorem dX9_search_57 : decode cX9_search 57 = .ok (.ishr, 1) := by decide +kernel
theorem dX9_search_58 : decode cX9_search 58 = .ok (.iconst 1, 1) := by decide +kernel
theorem dX9_search_59 : decode cX9_search 59 = .ok (.iand, 1) := by decide +kernel
theorem dX9_search_60 : decode cX9_search 60 = .ok (.ifCond .ne 73, 3) := by decide +kernel
theorem dX9_search_63 : decode cX9_search 63 = .ok (.aload_n 0, 1) := by decide +kernel
theorem dX9_search_64 : decode cX9_search 64 = .ok (.getfield 22, 3) := by decide +kernel
theorem dX9_search_67 : decode cX9_search 67 = .ok (.iload_n 2, 1) := by decide +kernel
theorem dX9_search_68 : decode cX9_search 68 = .ok (.iload 5, 2) := by decide +kernel
theorem dX9_search_70 : decode cX9_search 70 = .ok (.iastore, 1) := by decide +kernel
theorem dX9_search_71 : decode cX9_search 71 = .ok (.aload_n 0, 1) := by decide +kernel
theorem dX9_search_72 : decode cX9_search 72 = .ok (.getfield 12, 3) := by decide +kernel
theorem dX9_search_75 : decode cX9_search 75 = .ok (.aload_n 1, 1) := by decide +kernel
theorem dX9_search_76 : decode cX9_search 76 = .ok (.getfield 67, 3) := by decide +kernel
theorem dX9_search_79 : decode cX9_search 79 = .ok (.iload_n 2, 1) := by decide +kernel
theorem dX9_search_80 : decode cX9_search 80 = .ok (.iload 5, 2) := by decide +kernel
theorem dX9_search_82 : decode cX9_search 82 = .ok (.invokevirtual 85, 3) := by decide +kernel
theorem dX9_search_85 : decode cX9_search 85 = .ok (.iload 4, 2) := by decide +kernel
theorem dX9_search_87 : decode cX9_search 87 = .ok (.aload_n 1, 1) := by decide +kernel
theorem dX9_search_88 : decode cX9_search 88 = .ok (.iload 5, 2) := by decide +kernel
theorem dX9_search_90 : decode cX9_search 90 = .ok (.aload_n 0, 1) := by decide +kernel
theorem dX9_search_91 : decode cX9_search 91 = .ok (.getfield 12, 3) := by decide +kernel
theorem dX9_search_94 : decode cX9_search 94 = .ok (.aload_n 1, 1) := by decide +kernel
theorem dX9_search_95 : decode cX9_search 95 = .ok (.getfield 67, 3) := by decide +kernel
theorem dX9_search_98 : decode cX9_search 98 = .ok (.iload_n 2, 1) := by decide +kernel
theorem dX9_search_99 : decode cX9_search 99 = .ok (.invokevirtual 89, 3) := by decide +kernel
theorem dX9_search_102 : decode cX9_search 102 = .ok (.invokevirtual 92, 3) := by decide +kernel
theorem dX9_search_105 : decode cX9_search 105 = .ok (.iadd, 1) := by decide +kernel
theorem dX9_search_106 : decode cX9_search 106 = .ok (.istore 6, 2) := by decide +kernel
theorem dX9_search_108 : decode cX9_search 108 = .ok (.iload 6, 2) := by decide +kernel
theorem dX9_search_110 : decode cX9_search 110 = .ok (.aload_n 0, 1) := by decide +kernel
theorem dX9_search_111 : decode cX9_search 111 = .ok (.getfield 36, 3) := by decide +kernel
theorem dX9_search_114 : decode cX9_search 114 = .ok (.if_icmp .ge 19, 3) := by decide +kernel
theorem dX9_search_117 : decode cX9_search 117 = .ok (.aload_n 0, 1) := by decide +kernel
theorem dX9_search_118 : decode cX9_search 118 = .ok (.aload_n 1, 1) := by decide +kernel
theorem dX9_search_119 : decode cX9_search 119 = .ok (.iload_n 2, 1) := by decide +kernel
theorem dX9_search_120 : decode cX9_search 120 = .ok (.iconst 1, 1) := by decide +kernel
theorem dX9_search_121 : decode cX9_search 121 = .ok (.iadd, 1) := by decide +kernel
theorem dX9_search_122 : decode cX9_search 122 = .ok (.iload_n 3, 1) := by decide +kernel
theorem dX9_search_123 : decode cX9_search 123 = .ok (.iconst 1, 1) := by decide +kernel
theorem dX9_search_124 : decode cX9_search 124 = .ok (.iload 5, 2) := by decide +kernel
theorem dX9_search_126 : decode cX9_search 126 = .ok (.ishl, 1) := by decide +kernel
theorem dX9_search_127 : decode cX9_search 127 = .ok (.ior, 1) := by decide +kernel
theorem dX9_search_128 : decode cX9_search 128 = .ok (.iload 6, 2) := by decide +kernel
theorem dX9_search_130 : decode cX9_search 130 = .ok (.invokevirtual 40, 3) := by decide +kernel
theorem dX9_search_133 : decode cX9_search 133 = .ok (.iinc 5 1, 3) := by decide +kernel
theorem dX9_search_136 : decode cX9_search 136 = .ok (.goto (-94), 3) := by decide +kernel
theorem dX9_search_139 : decode cX9_search 139 = .ok (.return_, 1) := by decide +kernel
theorem dX9_applyTo_0 : decode cX9_applyTo 0 = .ok (.aload_n 1, 1) := by decide +kernel
theorem dX9_applyTo_1 : decode cX9_applyTo 1 = .ok (.getfield 96, 3) := by decide +kernel
theorem dX9_applyTo_4 : decode cX9_applyTo 4 = .ok (.iconst 0, 1) := by decide +kernel
theorem dX9_applyTo_5 : decode cX9_applyTo 5 = .ok (.aload_n 0, 1) := by decide +kernel
theorem dX9_applyTo_6 : decode cX9_applyTo 6 = .ok (.getfield 28, 3) := by decide +kernel
theorem dX9_applyTo_9 : decode cX9_applyTo 9 = .ok (.iconst 0, 1) := by decide +kernel
theorem dX9_applyTo_10 : decode cX9_applyTo 10 = .ok (.bipush 8, 2) := by decide +kernel
theorem dX9_applyTo_12 : decode cX9_applyTo 12 = .ok (.invokestatic 79, 3) := by decide +kernel
theorem dX9_applyTo_15 : decode cX9_applyTo 15 = .ok (.iconst 0, 1) := by decide +kernel
theorem dX9_applyTo_16 : decode cX9_applyTo 16 = .ok (.istore_n 2, 1) := by decide +kernel
theorem dX9_applyTo_17 : decode cX9_applyTo 17 = .ok (.iload_n 2, 1) := by decide +kernel
theorem dX9_applyTo_18 : decode cX9_applyTo 18 = .ok (.aload_n 1, 1) := by decide +kernel
theorem dX9_applyTo_19 : decode cX9_applyTo 19 = .ok (.getfield 54, 3) := by decide +kernel
theorem dX9_applyTo_22 : decode cX9_applyTo 22 = .ok (.if_icmp .ge 26, 3) := by decide +kernel
theorem dX9_applyTo_25 : decode cX9_applyTo 25 = .ok (.aload_n 1, 1) := by decide +kernel
theorem dX9_applyTo_26 : decode cX9_applyTo 26 = .ok (.getfield 96, 3) := by decide +kernel
theorem dX9_applyTo_29 : decode cX9_applyTo 29 = .ok (.iload_n 2, 1) := by decide +kernel
theorem dX9_applyTo_30 : decode cX9_applyTo 30 = .ok (.aload_n 0, 1) := by decide +kernel
theorem dX9_applyTo_31 : decode cX9_applyTo 31 = .ok (.getfield 28, 3) := by decide +kernel
theorem dX9_applyTo_34 : decode cX9_applyTo 34 = .ok (.aload_n 0, 1) := by decide +kernel
theorem dX9_applyTo_35 : decode cX9_applyTo 35 = .ok (.getfield 25, 3) := by decide +kernel
theorem dX9_applyTo_38 : decode cX9_applyTo 38 = .ok (.iload_n 2, 1) := by decide +kernel
theorem dX9_applyTo_39 : decode cX9_applyTo 39 = .ok (.iaload, 1) := by decide +kernel
theorem dX9_applyTo_40 : decode cX9_applyTo 40 = .ok (.iaload, 1) := by decide +kernel
theorem dX9_applyTo_41 : decode cX9_applyTo 41 = .ok (.iastore, 1) := by decide +kernel
theorem dX9_applyTo_42 : decode cX9_applyTo 42 = .ok (.iinc 2 1, 3) := by decide +kernel
theorem dX9_applyTo_45 : decode cX9_applyTo 45 = .ok (.goto (-28), 3) := by decide +kernel
theorem dX9_applyTo_48 : decode cX9_applyTo 48 = .ok (.return_, 1) := by decide +kernel
theorem dX10_init_0 : decode cX10_init 0 = .ok (.aload_n 0, 1) := by decide +kernel
theorem dX10_init_1 : decode cX10_init 1 = .ok (.invokespecial 3, 3) := by decide +kernel
theorem dX10_init_4 : decode cX10_init 4 = .ok (.aload_n 0, 1) := by decide +kernel
theorem dX10_init_5 : decode cX10_init 5 = .ok (.sipush 600, 3) := by decide +kernel
theorem dX10_init_8 : decode cX10_init 8 = .ok (.newarray .byte, 2) := by decide +kernel
theorem dX10_init_10 : decode cX10_init 10 = .ok (.putfield 9, 3) := by decide +kernel
theorem dX10_init_13 : decode cX10_init 13 = .ok (.aload_n 0, 1) := by decide +kernel
theorem dX10_init_14 : decode cX10_init 14 = .ok (.iconst (-1), 1) := by decide +kernel
theorem dX10_init_15 : decode cX10_init 15 = .ok (.putfield 15, 3) := by decide +kernel
theorem dX10_init_18 : decode cX10_init 18 = .ok (.return_, 1) := by decide +kernel
theorem dX10_append_0 : decode cX10_append 0 = .ok (.aload_n 0, 1) := by decide +kernel
theorem dX10_append_1 : decode cX10_append 1 = .ok (.getfield 9, 3) := by decide +kernel
theorem dX10_append_4 : decode cX10_append 4 = .ok (.aload_n 0, 1) := by decide +kernel
theorem dX10_append_5 : decode cX10_append 5 = .ok (.getfield 19, 3) := by decide +kernel
theorem dX10_append_8 : decode cX10_append 8 = .ok (.iload_n 1, 1) := by decide +kernel
theorem dX10_append_9 : decode cX10_append 9 = .ok (.bastore, 1) := by decide +kernel
theorem dX10_append_10 : decode cX10_append 10 = .ok (.aload_n 0, 1) := by decide +kernel
theorem dX10_append_11 : decode cX10_append 11 = .ok (.dup, 1) := by decide +kernel
theorem dX10_append_12 : decode cX10_append 12 = .ok (.getfield 19, 3) := by decide +kernel
theorem dX10_append_15 : decode cX10_append 15 = .ok (.iconst 1, 1) := by decide +kernel
theorem dX10_append_16 : decode cX10_append 16 = .ok (.iadd, 1) := by decide +kernel
theorem dX10_append_17 : decode cX10_append 17 = .ok (.putfield 19, 3) := by decide +kernel
theorem dX10_append_20 : decode cX10_append 20 = .ok (.return_, 1) := by decide +kernel
theorem dX10_readInto_0 : decode cX10_readInto 0 = .ok (.aload_n 0, 1) := by decide +kernel
theorem dX10_readInto_1 : decode cX10_readInto 1 = .ok (.iconst 0, 1) := by decide +kernel
theorem dX10_readInto_2 : decode cX10_readInto 2 = .ok (.putfield 22, 3) := by decide +kernel
theorem dX10_readInto_5 : decode cX10_readInto 5 = .ok (.aload_n 0, 1) := by decide +kernel
theorem dX10_readInto_6 : decode cX10_readInto 6 = .ok (.iconst (-1), 1) := by decide +kernel
theorem dX10_readInto_7 : decode cX10_readInto 7 = .ok (.putfield 15, 3) := by decide +kernel
theorem dX10_readInto_10 : decode cX10_readInto 10 = .ok (.aload_n 0, 1) := by decide +kernel
theorem dX10_readInto_11 : decode cX10_readInto 11 = .ok (.iconst 0, 1) := by decide +kernel
theorem dX10_readInto_12 : decode cX10_readInto 12 = .ok (.putfield 25, 3) := by decide +kernel
theorem dX10_readInto_15 : decode cX10_readInto 15 = .ok (.aload_n 1, 1) := by decide +kernel
theorem dX10_readInto_16 : decode cX10_readInto 16 = .ok (.invokevirtual 28, 3) := by decide +kernel
theorem dX10_readInto_19 : decode cX10_readInto 19 = .ok (.aload_n 0, 1) := by decide +kernel
theorem dX10_readInto_20 : decode cX10_readInto 20 = .ok (.aload_n 1, 1) := by decide +kernel
theorem dX10_readInto_21 : decode cX10_readInto 21 = .ok (.getfield 33, 3) := by decide +kernel
theorem dX10_readInto_24 : decode cX10_readInto 24 = .ok (.invokevirtual 37, 3) := by decide +kernel
theorem dX10_readInto_27 : decode cX10_readInto 27 = .ok (.ifCond .ne 5, 3) := by decide +kernel
theorem dX10_readInto_30 : decode cX10_readInto 30 = .ok (.iconst 0, 1) := by decide +kernel
theorem dX10_readInto_31 : decode cX10_readInto 31 = .ok (.ireturn, 1) := by decide +kernel
theorem dX10_readInto_32 : decode cX10_readInto 32 = .ok (.iconst 0, 1) := by decide +kernel
theorem dX10_readInto_33 : decode cX10_readInto 33 = .ok (.istore_n 2, 1) := by decide +kernel
theorem dX10_readInto_34 : decode cX10_readInto 34 = .ok (.iload_n 2, 1) := by decide +kernel
theorem dX10_readInto_35 : decode cX10_readInto 35 = .ok (.sipush 600, 3) := by decide +kernel
theorem dX10_readInto_38 : decode cX10_readInto 38 = .ok (.if_icmp .gt 32, 3) := by decide +kernel
theorem dX10_readInto_41 : decode cX10_readInto 41 = .ok (.aload_n 0, 1) := by decide +kernel
theorem dX10_readInto_42 : decode cX10_readInto 42 = .ok (.invokevirtual 41, 3) := by decide +kernel
theorem dX10_readInto_45 : decode cX10_readInto 45 = .ok (.aload_n 0, 1) := by decide +kernel
theorem dX10_readInto_46 : decode cX10_readInto 46 = .ok (.getfield 44, 3) := by decide +kernel
theorem dX10_readInto_49 : decode cX10_readInto 49 = .ok (.ifCond .ne 5, 3) := by decide +kernel
theorem dX10_readInto_52 : decode cX10_readInto 52 = .ok (.iconst 1, 1) := by decide +kernel
theorem dX10_readInto_53 : decode cX10_readInto 53 = .ok (.ireturn, 1) := by decide +kernel
theorem dX10_readInto_54 : decode cX10_readInto 54 = .ok (.aload_n 0, 1) := by decide +kernel
theorem dX10_readInto_55 : decode cX10_readInto 55 = .ok (.aload_n 1, 1) := by decide +kernel
theorem dX10_readInto_56 : decode cX10_readInto 56 = .ok (.invokevirtual 47, 3) := by decide +kernel
theorem dX10_readInto_59 : decode cX10_readInto 59 = .ok (.ifCond .ne 5, 3) := by decide +kernel
theorem dX10_readInto_62 : decode cX10_readInto 62 = .ok (.iconst 0, 1) := by decide +kernel
theorem dX10_readInto_63 : decode cX10_readInto 63 = .ok (.ireturn, 1) := by decide +kernel
theorem dX10_readInto_64 : decode cX10_readInto 64 = .ok (.iinc 2 1, 3) := by decide +kernel
theorem dX10_readInto_67 : decode cX10_readInto 67 = .ok (.goto (-33), 3) := by decide +kernel
theorem dX10_readInto_70 : decode cX10_readInto 70 = .ok (.iconst 0, 1) := by decide +kernel
theorem dX10_readInto_71 : decode cX10_readInto 71 = .ok (.ireturn, 1) := by decide +kernel
theorem dX10_fail_0 : decode cX10_fail 0 = .ok (.aload_n 0, 1) := by decide +kernel
theorem dX10_fail_1 : decode cX10_fail 1 = .ok (.iload_n 1, 1) := by decide +kernel
theorem dX10_fail_2 : decode cX10_fail 2 = .ok (.putfield 22, 3) := by decide +kernel
theorem dX10_fail_5 : decode cX10_fail 5 = .ok (.aload_n 0, 1) := by decide +kernel
theorem dX10_fail_6 : decode cX10_fail 6 = .ok (.aload_n 0, 1) := by decide +kernel
theorem dX10_fail_7 : decode cX10_fail 7 = .ok (.getfield 51, 3) := by decide +kernel
theorem dX10_fail_10 : decode cX10_fail 10 = .ok (.putfield 15, 3) := by decide +kernel
theorem dX10_fail_13 : decode cX10_fail 13 = .ok (.iconst 0, 1) := by decide +kernel
theorem dX10_fail_14 : decode cX10_fail 14 = .ok (.ireturn, 1) := by decide +kernel
theorem dX10_readHall_0 : decode cX10_readHall 0 = .ok (.aload_n 0, 1) := by decide +kernel
theorem dX10_readHall_1 : decode cX10_readHall 1 = .ok (.invokevirtual 41, 3) := by decide +kernel
theorem dX10_readHall_4 : decode cX10_readHall 4 = .ok (.aload_n 0, 1) := by decide +kernel
theorem dX10_readHall_5 : decode cX10_readHall 5 = .ok (.ldc 54, 2) := by decide +kernel
theorem dX10_readHall_7 : decode cX10_readHall 7 = .ok (.invokevirtual 56, 3) := by decide +kernel
theorem dX10_readHall_10 : decode cX10_readHall 10 = .ok (.ifCond .ne 9, 3) := by decide +kernel
theorem dX10_readHall_13 : decode cX10_readHall 13 = .ok (.aload_n 0, 1) := by decide +kernel
theorem dX10_readHall_14 : decode cX10_readHall 14 = .ok (.iconst 1, 1) := by decide +kernel
theorem dX10_readHall_15 : decode cX10_readHall 15 = .ok (.invokevirtual 60, 3) := by decide +kernel
theorem dX10_readHall_18 : decode cX10_readHall 18 = .ok (.ireturn, 1) := by decide +kernel
theorem dX10_readHall_19 : decode cX10_readHall 19 = .ok (.aload_n 0, 1) := by decide +kernel
theorem dX10_readHall_20 : decode cX10_readHall 20 = .ok (.iconst 1, 1) := by decide +kernel
theorem dX10_readHall_21 : decode cX10_readHall 21 = .ok (.bipush 6, 2) := by decide +kernel
theorem dX10_readHall_23 : decode cX10_readHall 23 = .ok (.invokevirtual 64, 3) := by decide +kernel
theorem dX10_readHall_26 : decode cX10_readHall 26 = .ok (.ifCond .ne 5, 3) := by decide +kernel
theorem dX10_readHall_29 : decode cX10_readHall 29 = .ok (.iconst 0, 1) := by decide +kernel
theorem dX10_readHall_30 : decode cX10_readHall 30 = .ok (.ireturn, 1) := by decide +kernel
theorem dX10_readHall_31 : decode cX10_readHall 31 = .ok (.aload_n 0, 1) := by decide +kernel
theorem dX10_readHall_32 : decode cX10_readHall 32 = .ok (.getfield 68, 3) := by decide +kernel
theorem dX10_readHall_35 : decode cX10_readHall 35 = .ok (.istore_n 2, 1) := by decide +kernel
theorem dX10_readHall_36 : decode cX10_readHall 36 = .ok (.aload_n 0, 1) := by decide +kernel
theorem dX10_readHall_37 : decode cX10_readHall 37 = .ok (.iconst 2, 1) := by decide +kernel
theorem dX10_readHall_38 : decode cX10_readHall 38 = .ok (.bipush 20, 2) := by decide +kernel
theorem dX10_readHall_40 : decode cX10_readHall 40 = .ok (.invokevirtual 64, 3) := by decide +kernel
theorem dX10_readHall_43 : decode cX10_readHall 43 = .ok (.ifCond .ne 5, 3) := by decide +kernel
theorem dX10_readHall_46 : decode cX10_readHall 46 = .ok (.iconst 0, 1) := by decide +kernel
theorem dX10_readHall_47 : decode cX10_readHall 47 = .ok (.ireturn, 1) := by decide +kernel
theorem dX10_readHall_48 : decode cX10_readHall 48 = .ok (.aload_n 0, 1) := by decide +kernel
theorem dX10_readHall_49 : decode cX10_readHall 49 = .ok (.getfield 68, 3) := by decide +kernel
theorem dX10_readHall_52 : decode cX10_readHall 52 = .ok (.istore_n 3, 1) := by decide +kernel
theorem dX10_readHall_53 : decode cX10_readHall 53 = .ok (.aload_n 0, 1) := by decide +kernel
theorem dX10_readHall_54 : decode cX10_readHall 54 = .ok (.iconst 1, 1) := by decide +kernel
theorem dX10_readHall_55 : decode cX10_readHall 55 = .ok (.bipush 9, 2) := by decide +kernel
theorem dX10_readHall_57 : decode cX10_readHall 57 = .ok (.invokevirtual 64, 3) := by decide +kernel
theorem dX10_readHall_60 : decode cX10_readHall 60 = .ok (.ifCond .ne 5, 3) := by decide +kernel
theorem dX10_readHall_63 : decode cX10_readHall 63 = .ok (.iconst 0, 1) := by decide +kernel
theorem dX10_readHall_64 : decode cX10_readHall 64 = .ok (.ireturn, 1) := by decide +kernel
theorem dX10_readHall_65 : decode cX10_readHall 65 = .ok (.aload_n 1, 1) := by decide +kernel
theorem dX10_readHall_66 : decode cX10_readHall 66 = .ok (.iload_n 2, 1) := by decide +kernel
theorem dX10_readHall_67 : decode cX10_readHall 67 = .ok (.iload_n 3, 1) := by decide +kernel
theorem dX10_readHall_68 : decode cX10_readHall 68 = .ok (.aload_n 0, 1) := by decide +kernel
theorem dX10_readHall_69 : decode cX10_readHall 69 = .ok (.getfield 68, 3) := by decide +kernel
theorem dX10_readHall_72 : decode cX10_readHall 72 = .ok (.invokevirtual 71, 3) := by decide +kernel
theorem dX10_readHall_75 : decode cX10_readHall 75 = .ok (.aload_n 0, 1) := by decide +kernel
theorem dX10_readHall_76 : decode cX10_readHall 76 = .ok (.invokevirtual 77, 3) := by decide +kernel
theorem dX10_readHall_79 : decode cX10_readHall 79 = .ok (.ireturn, 1) := by decide +kernel
theorem dX10_readStatement_0 : decode cX10_readStatement 0 = .ok (.aload_n 0, 1) := by decide +kernel
theorem dX10_readStatement_1 : decode cX10_readStatement 1 = .ok (.ldc 81, 2) := by decide +kernel
theorem dX10_readStatement_3 : decode cX10_readStatement 3 = .ok (.invokevirtual 56, 3) := by decide +kernel
theorem dX10_readStatement_6 : decode cX10_readStatement 6 = .ok (.ifCond .eq 9, 3) := by decide +kernel
theorem dX10_readStatement_9 : decode cX10_readStatement 9 = .ok (.aload_n 0, 1) := by decide +kernel
theorem dX10_readStatement_10 : decode cX10_readStatement 10 = .ok (.aload_n 1, 1) := by decide +kernel
theorem dX10_readStatement_11 : decode cX10_readStatement 11 = .ok (.invokevirtual 83, 3) := by decide +kernel
theorem dX10_readStatement_14 : decode cX10_readStatement 14 = .ok (.ireturn, 1) := by decide +kernel
theorem dX10_readStatement_15 : decode cX10_readStatement 15 = .ok (.aload_n 0, 1) := by decide +kernel
theorem dX10_readStatement_16 : decode cX10_readStatement 16 = .ok (.ldc 86, 2) := by decide +kernel
theorem dX10_readStatement_18 : decode cX10_readStatement 18 = .ok (.invokevirtual 56, 3) := by decide +kernel
theorem dX10_readStatement_21 : decode cX10_readStatement 21 = .ok (.ifCond .eq 9, 3) := by decide +kernel
theorem dX10_readStatement_24 : decode cX10_readStatement 24 = .ok (.aload_n 0, 1) := by decide +kernel
theorem dX10_readStatement_25 : decode cX10_readStatement 25 = .ok (.aload_n 1, 1) := by decide +kernel
theorem dX10_readStatement_26 : decode cX10_readStatement 26 = .ok (.invokevirtual 88, 3) := by decide +kernel
theorem dX10_readStatement_29 : decode cX10_readStatement 29 = .ok (.ireturn, 1) := by decide +kernel
theorem dX10_readStatement_30 : decode cX10_readStatement 30 = .ok (.aload_n 0, 1) := by decide +kernel
theorem dX10_readStatement_31 : decode cX10_readStatement 31 = .ok (.ldc 91, 2) := by decide +kernel
theorem dX10_readStatement_33 : decode cX10_readStatement 33 = .ok (.invokevirtual 56, 3) := by decide +kernel
theorem dX10_readStatement_36 : decode cX10_readStatement 36 = .ok (.ifCond .eq 12, 3) := by decide +kernel
theorem dX10_readStatement_39 : decode cX10_readStatement 39 = .ok (.aload_n 0, 1) := by decide +kernel
theorem dX10_readStatement_40 : decode cX10_readStatement 40 = .ok (.aload_n 1, 1) := by decide +kernel
theorem dX10_readStatement_41 : decode cX10_readStatement 41 = .ok (.getfield 33, 3) := by decide +kernel
theorem dX10_readStatement_44 : decode cX10_readStatement 44 = .ok (.invokevirtual 93, 3) := by decide +kernel
theorem dX10_readStatement_47 : decode cX10_readStatement 47 = .ok (.ireturn, 1) := by decide +kernel
theorem dX10_readStatement_48 : decode cX10_readStatement 48 = .ok (.aload_n 0, 1) := by decide +kernel
theorem dX10_readStatement_49 : decode cX10_readStatement 49 = .ok (.ldc 96, 2) := by decide +kernel
theorem dX10_readStatement_51 : decode cX10_readStatement 51 = .ok (.invokevirtual 56, 3) := by decide +kernel
theorem dX10_readStatement_54 : decode cX10_readStatement 54 = .ok (.ifCond .eq 12, 3) := by decide +kernel
theorem dX10_readStatement_57 : decode cX10_readStatement 57 = .ok (.aload_n 0, 1) := by decide +kernel
theorem dX10_readStatement_58 : decode cX10_readStatement 58 = .ok (.aload_n 1, 1) := by decide +kernel
theorem dX10_readStatement_59 : decode cX10_readStatement 59 = .ok (.getfield 33, 3) := by decide +kernel
theorem dX10_readStatement_62 : decode cX10_readStatement 62 = .ok (.invokevirtual 98, 3) := by decide +kernel
theorem dX10_readStatement_65 : decode cX10_readStatement 65 = .ok (.ireturn, 1) := by decide +kernel
theorem dX10_readStatement_66 : decode cX10_readStatement 66 = .ok (.aload_n 0, 1) := by decide +kernel
theorem dX10_readStatement_67 : decode cX10_readStatement 67 = .ok (.ldc 101, 2) := by decide +kernel
theorem dX10_readStatement_69 : decode cX10_readStatement 69 = .ok (.invokevirtual 56, 3) := by decide +kernel
theorem dX10_readStatement_72 : decode cX10_readStatement 72 = .ok (.ifCond .eq 12, 3) := by decide +kernel
theorem dX10_readStatement_75 : decode cX10_readStatement 75 = .ok (.aload_n 0, 1) := by decide +kernel
theorem dX10_readStatement_76 : decode cX10_readStatement 76 = .ok (.aload_n 1, 1) := by decide +kernel
theorem dX10_readStatement_77 : decode cX10_readStatement 77 = .ok (.getfield 33, 3) := by decide +kernel
theorem dX10_readStatement_80 : decode cX10_readStatement 80 = .ok (.invokevirtual 103, 3) := by decide +kernel
theorem dX10_readStatement_83 : decode cX10_readStatement 83 = .ok (.ireturn, 1) := by decide +kernel
theorem dX10_readStatement_84 : decode cX10_readStatement 84 = .ok (.aload_n 0, 1) := by decide +kernel
theorem dX10_readStatement_85 : decode cX10_readStatement 85 = .ok (.ldc 106, 2) := by decide +kernel
theorem dX10_readStatement_87 : decode cX10_readStatement 87 = .ok (.invokevirtual 56, 3) := by decide +kernel
theorem dX10_readStatement_90 : decode cX10_readStatement 90 = .ok (.ifCond .eq 12, 3) := by decide +kernel
theorem dX10_readStatement_93 : decode cX10_readStatement 93 = .ok (.aload_n 0, 1) := by decide +kernel
theorem dX10_readStatement_94 : decode cX10_readStatement 94 = .ok (.aload_n 1, 1) := by decide +kernel
theorem dX10_readStatement_95 : decode cX10_readStatement 95 = .ok (.getfield 33, 3) := by decide +kernel
theorem dX10_readStatement_98 : decode cX10_readStatement 98 = .ok (.invokevirtual 108, 3) := by decide +kernel
theorem dX10_readStatement_101 : decode cX10_readStatement 101 = .ok (.ireturn, 1) := by decide +kernel
theorem dX10_readStatement_102 : decode cX10_readStatement 102 = .ok (.aload_n 0, 1) := by decide +kernel
theorem dX10_readStatement_103 : decode cX10_readStatement 103 = .ok (.iconst 1, 1) := by decide +kernel
theorem dX10_readStatement_104 : decode cX10_readStatement 104 = .ok (.invokevirtual 60, 3) := by decide +kernel
theorem dX10_readStatement_107 : decode cX10_readStatement 107 = .ok (.ireturn, 1) := by decide +kernel
theorem dX10_readItem_0 : decode cX10_readItem 0 = .ok (.aload_n 1, 1) := by decide +kernel
theorem dX10_readItem_1 : decode cX10_readItem 1 = .ok (.getfield 111, 3) := by decide +kernel
theorem dX10_readItem_4 : decode cX10_readItem 4 = .ok (.getfield 115, 3) := by decide +kernel
theorem dX10_readItem_7 : decode cX10_readItem 7 = .ok (.bipush 24, 2) := by decide +kernel
theorem dX10_readItem_9 : decode cX10_readItem 9 = .ok (.if_icmp .lt 9, 3) := by decide +kernel
theorem dX10_readItem_12 : decode cX10_readItem 12 = .ok (.aload_n 0, 1) := by decide +kernel
theorem dX10_readItem_13 : decode cX10_readItem 13 = .ok (.iconst 3, 1) := by decide +kernel
theorem dX10_readItem_14 : decode cX10_readItem 14 = .ok (.invokevirtual 60, 3) := by decide +kernel
theorem dX10_readItem_17 : decode cX10_readItem 17 = .ok (.ireturn, 1) := by decide +kernel
theorem dX10_readItem_18 : decode cX10_readItem 18 = .ok (.aload_n 0, 1) := by decide +kernel
theorem dX10_readItem_19 : decode cX10_readItem 19 = .ok (.iconst 0, 1) := by decide +kernel
theorem dX10_readItem_20 : decode cX10_readItem 20 = .ok (.aload_n 1, 1) := by decide +kernel
theorem dX10_readItem_21 : decode cX10_readItem 21 = .ok (.getfield 33, 3) := by decide +kernel
theorem dX10_readItem_24 : decode cX10_readItem 24 = .ok (.getfield 120, 3) := by decide +kernel
theorem dX10_readItem_27 : decode cX10_readItem 27 = .ok (.iconst 1, 1) := by decide +kernel
theorem dX10_readItem_28 : decode cX10_readItem 28 = .ok (.isub, 1) := by decide +kernel
theorem dX10_readItem_29 : decode cX10_readItem 29 = .ok (.invokevirtual 64, 3) := by decide +kernel
theorem dX10_readItem_32 : decode cX10_readItem 32 = .ok (.ifCond .ne 5, 3) := by decide +kernel
theorem dX10_readItem_35 : decode cX10_readItem 35 = .ok (.iconst 0, 1) := by decide +kernel
theorem dX10_readItem_36 : decode cX10_readItem 36 = .ok (.ireturn, 1) := by decide +kernel
theorem dX10_readItem_37 : decode cX10_readItem 37 = .ok (.aload_n 0, 1) := by decide +kernel
theorem dX10_readItem_38 : decode cX10_readItem 38 = .ok (.getfield 68, 3) := by decide +kernel
theorem dX10_readItem_41 : decode cX10_readItem 41 = .ok (.istore_n 2, 1) := by decide +kernel
theorem dX10_readItem_42 : decode cX10_readItem 42 = .ok (.aload_n 0, 1) := by decide +kernel
theorem dX10_readItem_43 : decode cX10_readItem 43 = .ok (.iconst 1, 1) := by decide +kernel
theorem dX10_readItem_44 : decode cX10_readItem 44 = .ok (.aload_n 1, 1) := by decide +kernel
theorem dX10_readItem_45 : decode cX10_readItem 45 = .ok (.getfield 33, 3) := by decide +kernel
theorem dX10_readItem_48 : decode cX10_readItem 48 = .ok (.getfield 123, 3) := by decide +kernel
theorem dX10_readItem_51 : decode cX10_readItem 51 = .ok (.invokevirtual 64, 3) := by decide +kernel
theorem dX10_readItem_54 : decode cX10_readItem 54 = .ok (.ifCond .ne 5, 3) := by decide +kernel
theorem dX10_readItem_57 : decode cX10_readItem 57 = .ok (.iconst 0, 1) := by decide +kernel
theorem dX10_readItem_58 : decode cX10_readItem 58 = .ok (.ireturn, 1) := by decide +kernel
theorem dX10_readItem_59 : decode cX10_readItem 59 = .ok (.aload_n 0, 1) := by decide +kernel
theorem dX10_readItem_60 : decode cX10_readItem 60 = .ok (.getfield 68, 3) := by decide +kernel
theorem dX10_readItem_63 : decode cX10_readItem 63 = .ok (.istore_n 3, 1) := by decide +kernel
theorem dX10_readItem_64 : decode cX10_readItem 64 = .ok (.aload_n 0, 1) := by decide +kernel
theorem dX10_readItem_65 : decode cX10_readItem 65 = .ok (.iconst 1, 1) := by decide +kernel
theorem dX10_readItem_66 : decode cX10_readItem 66 = .ok (.bipush 50, 2) := by decide +kernel
theorem dX10_readItem_68 : decode cX10_readItem 68 = .ok (.invokevirtual 64, 3) := by decide +kernel
theorem dX10_readItem_71 : decode cX10_readItem 71 = .ok (.ifCond .ne 5, 3) := by decide +kernel
theorem dX10_readItem_74 : decode cX10_readItem 74 = .ok (.iconst 0, 1) := by decide +kernel
theorem dX10_readItem_75 : decode cX10_readItem 75 = .ok (.ireturn, 1) := by decide +kernel
theorem dX10_readItem_76 : decode cX10_readItem 76 = .ok (.aload_n 0, 1) := by decide +kernel
theorem dX10_readItem_77 : decode cX10_readItem 77 = .ok (.getfield 68, 3) := by decide +kernel
theorem dX10_readItem_80 : decode cX10_readItem 80 = .ok (.istore 4, 2) := by decide +kernel
theorem dX10_readItem_82 : decode cX10_readItem 82 = .ok (.aload_n 0, 1) := by decide +kernel
theorem dX10_readItem_83 : decode cX10_readItem 83 = .ok (.iconst 0, 1) := by decide +kernel
theorem dX10_readItem_84 : decode cX10_readItem 84 = .ok (.sipush 999, 3) := by decide +kernel
theorem dX10_readItem_87 : decode cX10_readItem 87 = .ok (.invokevirtual 64, 3) := by decide +kernel
theorem dX10_readItem_90 : decode cX10_readItem 90 = .ok (.ifCond .ne 5, 3) := by decide +kernel
theorem dX10_readItem_93 : decode cX10_readItem 93 = .ok (.iconst 0, 1) := by decide +kernel
theorem dX10_readItem_94 : decode cX10_readItem 94 = .ok (.ireturn, 1) := by decide +kernel
theorem dX10_readItem_95 : decode cX10_readItem 95 = .ok (.aload_n 1, 1) := by decide +kernel
theorem dX10_readItem_96 : decode cX10_readItem 96 = .ok (.getfield 111, 3) := by decide +kernel
theorem dX10_readItem_99 : decode cX10_readItem 99 = .ok (.iload_n 2, 1) := by decide +kernel
theorem dX10_readItem_100 : decode cX10_readItem 100 = .ok (.iload_n 3, 1) := by decide +kernel
theorem dX10_readItem_101 : decode cX10_readItem 101 = .ok (.iload 4, 2) := by decide +kernel
theorem dX10_readItem_103 : decode cX10_readItem 103 = .ok (.aload_n 0, 1) := by decide +kernel
theorem dX10_readItem_104 : decode cX10_readItem 104 = .ok (.getfield 68, 3) := by decide +kernel
theorem dX10_readItem_107 : decode cX10_readItem 107 = .ok (.invokevirtual 126, 3) := by decide +kernel
theorem dX10_readItem_110 : decode cX10_readItem 110 = .ok (.pop, 1) := by decide +kernel
theorem dX10_readItem_111 : decode cX10_readItem 111 = .ok (.aload_n 0, 1) := by decide +kernel
theorem dX10_readItem_112 : decode cX10_readItem 112 = .ok (.invokevirtual 77, 3) := by decide +kernel
theorem dX10_readItem_115 : decode cX10_readItem 115 = .ok (.ireturn, 1) := by decide +kernel
theorem dX10_readOrder_0 : decode cX10_readOrder 0 = .ok (.aload_n 1, 1) := by decide +kernel
theorem dX10_readOrder_1 : decode cX10_readOrder 1 = .ok (.getfield 130, 3) := by decide +kernel
theorem dX10_readOrder_4 : decode cX10_readOrder 4 = .ok (.getfield 134, 3) := by decide +kernel
theorem dX10_readOrder_7 : decode cX10_readOrder 7 = .ok (.bipush 16, 2) := by decide +kernel
theorem dX10_readOrder_9 : decode cX10_readOrder 9 = .ok (.if_icmp .lt 9, 3) := by decide +kernel
theorem dX10_readOrder_12 : decode cX10_readOrder 12 = .ok (.aload_n 0, 1) := by decide +kernel
theorem dX10_readOrder_13 : decode cX10_readOrder 13 = .ok (.iconst 3, 1) := by decide +kernel
theorem dX10_readOrder_14 : decode cX10_readOrder 14 = .ok (.invokevirtual 60, 3) := by decide +kernel
theorem dX10_readOrder_17 : decode cX10_readOrder 17 = .ok (.ireturn, 1) := by decide +kernel
theorem dX10_readOrder_18 : decode cX10_readOrder 18 = .ok (.aload_n 0, 1) := by decide +kernel
theorem dX10_readOrder_19 : decode cX10_readOrder 19 = .ok (.iconst 0, 1) := by decide +kernel
theorem dX10_readOrder_20 : decode cX10_readOrder 20 = .ok (.sipush 9999, 3) := by decide +kernel
theorem dX10_readOrder_23 : decode cX10_readOrder 23 = .ok (.invokevirtual 64, 3) := by decide +kernel
theorem dX10_readOrder_26 : decode cX10_readOrder 26 = .ok (.ifCond .ne 5, 3) := by decide +kernel
theorem dX10_readOrder_29 : decode cX10_readOrder 29 = .ok (.iconst 0, 1) := by decide +kernel
theorem dX10_readOrder_30 : decode cX10_readOrder 30 = .ok (.ireturn, 1) := by decide +kernel
theorem dX10_readOrder_31 : decode cX10_readOrder 31 = .ok (.aload_n 1, 1) := by decide +kernel
theorem dX10_readOrder_32 : decode cX10_readOrder 32 = .ok (.getfield 130, 3) := by decide +kernel
theorem dX10_readOrder_35 : decode cX10_readOrder 35 = .ok (.aload_n 0, 1) := by decide +kernel
theorem dX10_readOrder_36 : decode cX10_readOrder 36 = .ok (.getfield 68, 3) := by decide +kernel
theorem dX10_readOrder_39 : decode cX10_readOrder 39 = .ok (.invokevirtual 137, 3) := by decide +kernel
theorem dX10_readOrder_42 : decode cX10_readOrder 42 = .ok (.istore_n 2, 1) := by decide +kernel
theorem dX10_readOrder_43 : decode cX10_readOrder 43 = .ok (.iconst 0, 1) := by decide +kernel
theorem dX10_readOrder_44 : decode cX10_readOrder 44 = .ok (.istore_n 3, 1) := by decide +kernel
theorem dX10_readOrder_45 : decode cX10_readOrder 45 = .ok (.iload_n 3, 1) := by decide +kernel
theorem dX10_readOrder_46 : decode cX10_readOrder 46 = .ok (.bipush 6, 2) := by decide +kernel
theorem dX10_readOrder_48 : decode cX10_readOrder 48 = .ok (.if_icmp .gt 121, 3) := by decide +kernel
theorem dX10_readOrder_51 : decode cX10_readOrder 51 = .ok (.aload_n 0, 1) := by decide +kernel
theorem dX10_readOrder_52 : decode cX10_readOrder 52 = .ok (.invokevirtual 41, 3) := by decide +kernel
theorem dX10_readOrder_55 : decode cX10_readOrder 55 = .ok (.aload_n 0, 1) := by decide +kernel
theorem dX10_readOrder_56 : decode cX10_readOrder 56 = .ok (.getfield 44, 3) := by decide +kernel
theorem dX10_readOrder_59 : decode cX10_readOrder 59 = .ok (.iconst 3, 1) := by decide +kernel
theorem dX10_readOrder_60 : decode cX10_readOrder 60 = .ok (.if_icmp .ne 5, 3) := by decide +kernel
theorem dX10_readOrder_63 : decode cX10_readOrder 63 = .ok (.iconst 1, 1) := by decide +kernel
theorem dX10_readOrder_64 : decode cX10_readOrder 64 = .ok (.ireturn, 1) := by decide +kernel
theorem dX10_readOrder_65 : decode cX10_readOrder 65 = .ok (.aload_n 0, 1) := by decide +kernel
theorem dX10_readOrder_66 : decode cX10_readOrder 66 = .ok (.ldc 140, 2) := by decide +kernel
theorem dX10_readOrder_68 : decode cX10_readOrder 68 = .ok (.invokevirtual 56, 3) := by decide +kernel
theorem dX10_readOrder_71 : decode cX10_readOrder 71 = .ok (.ifCond .ne 9, 3) := by decide +kernel
theorem dX10_readOrder_74 : decode cX10_readOrder 74 = .ok (.aload_n 0, 1) := by decide +kernel
theorem dX10_readOrder_75 : decode cX10_readOrder 75 = .ok (.iconst 1, 1) := by decide +kernel
theorem dX10_readOrder_76 : decode cX10_readOrder 76 = .ok (.invokevirtual 60, 3) := by decide +kernel
theorem dX10_readOrder_79 : decode cX10_readOrder 79 = .ok (.ireturn, 1) := by decide +kernel
theorem dX10_readOrder_80 : decode cX10_readOrder 80 = .ok (.iload_n 3, 1) := by decide +kernel
theorem dX10_readOrder_81 : decode cX10_readOrder 81 = .ok (.bipush 6, 2) := by decide +kernel
theorem dX10_readOrder_83 : decode cX10_readOrder 83 = .ok (.if_icmp .ne 9, 3) := by decide +kernel
theorem dX10_readOrder_86 : decode cX10_readOrder 86 = .ok (.aload_n 0, 1) := by decide +kernel
theorem dX10_readOrder_87 : decode cX10_readOrder 87 = .ok (.iconst 3, 1) := by decide +kernel
theorem dX10_readOrder_88 : decode cX10_readOrder 88 = .ok (.invokevirtual 60, 3) := by decide +kernel
theorem dX10_readOrder_91 : decode cX10_readOrder 91 = .ok (.ireturn, 1) := by decide +kernel
theorem dX10_readOrder_92 : decode cX10_readOrder 92 = .ok (.aload_n 0, 1) := by decide +kernel
theorem dX10_readOrder_93 : decode cX10_readOrder 93 = .ok (.iconst 0, 1) := by decide +kernel
theorem dX10_readOrder_94 : decode cX10_readOrder 94 = .ok (.aload_n 1, 1) := by decide +kernel
theorem dX10_readOrder_95 : decode cX10_readOrder 95 = .ok (.getfield 111, 3) := by decide +kernel
theorem dX10_readOrder_98 : decode cX10_readOrder 98 = .ok (.getfield 115, 3) := by decide +kernel
theorem dX10_readOrder_101 : decode cX10_readOrder 101 = .ok (.iconst 1, 1) := by decide +kernel
theorem dX10_readOrder_102 : decode cX10_readOrder 102 = .ok (.isub, 1) := by decide +kernel
theorem dX10_readOrder_103 : decode cX10_readOrder 103 = .ok (.invokevirtual 64, 3) := by decide +kernel
theorem dX10_readOrder_106 : decode cX10_readOrder 106 = .ok (.ifCond .ne 5, 3) := by decide +kernel
theorem dX10_readOrder_109 : decode cX10_readOrder 109 = .ok (.iconst 0, 1) := by decide +kernel
theorem dX10_readOrder_110 : decode cX10_readOrder 110 = .ok (.ireturn, 1) := by decide +kernel
theorem dX10_readOrder_111 : decode cX10_readOrder 111 = .ok (.aload_n 0, 1) := by decide +kernel
theorem dX10_readOrder_112 : decode cX10_readOrder 112 = .ok (.getfield 68, 3) := by decide +kernel
theorem dX10_readOrder_115 : decode cX10_readOrder 115 = .ok (.istore 4, 2) := by decide +kernel
theorem dX10_readOrder_117 : decode cX10_readOrder 117 = .ok (.aload_n 1, 1) := by decide +kernel
theorem dX10_readOrder_118 : decode cX10_readOrder 118 = .ok (.getfield 130, 3) := by decide +kernel
theorem dX10_readOrder_121 : decode cX10_readOrder 121 = .ok (.iload_n 2, 1) := by decide +kernel
theorem dX10_readOrder_122 : decode cX10_readOrder 122 = .ok (.iload 4, 2) := by decide +kernel
theorem dX10_readOrder_124 : decode cX10_readOrder 124 = .ok (.invokevirtual 142, 3) := by decide +kernel
theorem dX10_readOrder_127 : decode cX10_readOrder 127 = .ok (.ifCond .eq 9, 3) := by decide +kernel
theorem dX10_readOrder_130 : decode cX10_readOrder 130 = .ok (.aload_n 0, 1) := by decide +kernel
theorem dX10_readOrder_131 : decode cX10_readOrder 131 = .ok (.iconst 2, 1) := by decide +kernel
theorem dX10_readOrder_132 : decode cX10_readOrder 132 = .ok (.invokevirtual 60, 3) := by decide +kernel
theorem dX10_readOrder_135 : decode cX10_readOrder 135 = .ok (.ireturn, 1) := by decide +kernel
theorem dX10_readOrder_136 : decode cX10_readOrder 136 = .ok (.aload_n 0, 1) := by decide +kernel
theorem dX10_readOrder_137 : decode cX10_readOrder 137 = .ok (.iconst 1, 1) := by decide +kernel
theorem dX10_readOrder_138 : decode cX10_readOrder 138 = .ok (.bipush 99, 2) := by decide +kernel
theorem dX10_readOrder_140 : decode cX10_readOrder 140 = .ok (.invokevirtual 64, 3) := by decide +kernel
theorem dX10_readOrder_143 : decode cX10_readOrder 143 = .ok (.ifCond .ne 5, 3) := by decide +kernel
theorem dX10_readOrder_146 : decode cX10_readOrder 146 = .ok (.iconst 0, 1) := by decide +kernel
theorem dX10_readOrder_147 : decode cX10_readOrder 147 = .ok (.ireturn, 1) := by decide +kernel
theorem dX10_readOrder_148 : decode cX10_readOrder 148 = .ok (.aload_n 1, 1) := by decide +kernel
theorem dX10_readOrder_149 : decode cX10_readOrder 149 = .ok (.getfield 130, 3) := by decide +kernel
theorem dX10_readOrder_152 : decode cX10_readOrder 152 = .ok (.iload_n 2, 1) := by decide +kernel
theorem dX10_readOrder_153 : decode cX10_readOrder 153 = .ok (.iload 4, 2) := by decide +kernel
theorem dX10_readOrder_155 : decode cX10_readOrder 155 = .ok (.aload_n 0, 1) := by decide +kernel
theorem dX10_readOrder_156 : decode cX10_readOrder 156 = .ok (.getfield 68, 3) := by decide +kernel
theorem dX10_readOrder_159 : decode cX10_readOrder 159 = .ok (.invokevirtual 145, 3) := by decide +kernel
theorem dX10_readOrder_162 : decode cX10_readOrder 162 = .ok (.pop, 1) := by decide +kernel
theorem dX10_readOrder_163 : decode cX10_readOrder 163 = .ok (.iinc 3 1, 3) := by decide +kernel
theorem dX10_readOrder_166 : decode cX10_readOrder 166 = .ok (.goto (-121), 3) := by decide +kernel
theorem dX10_readOrder_169 : decode cX10_readOrder 169 = .ok (.iconst 0, 1) := by decide +kernel
theorem dX10_readOrder_170 : decode cX10_readOrder 170 = .ok (.ireturn, 1) := by decide +kernel
theorem dX10_readZones_0 : decode cX10_readZones 0 = .ok (.aload_n 0, 1) := by decide +kernel
theorem dX10_readZones_1 : decode cX10_readZones 1 = .ok (.iconst 1, 1) := by decide +kernel
theorem dX10_readZones_2 : decode cX10_readZones 2 = .ok (.aload_n 1, 1) := by decide +kernel
theorem dX10_readZones_3 : decode cX10_readZones 3 = .ok (.getfield 120, 3) := by decide +kernel
theorem dX10_readZones_6 : decode cX10_readZones 6 = .ok (.iconst 1, 1) := by decide +kernel
theorem dX10_readZones_7 : decode cX10_readZones 7 = .ok (.isub, 1) := by decide +kernel
theorem dX10_readZones_8 : decode cX10_readZones 8 = .ok (.invokevirtual 64, 3) := by decide +kernel
theorem dX10_readZones_11 : decode cX10_readZones 11 = .ok (.ifCond .ne 5, 3) := by decide +kernel
theorem dX10_readZones_14 : decode cX10_readZones 14 = .ok (.iconst 0, 1) := by decide +kernel
theorem dX10_readZones_15 : decode cX10_readZones 15 = .ok (.ireturn, 1) := by decide +kernel
theorem dX10_readZones_16 : decode cX10_readZones 16 = .ok (.aload_n 0, 1) := by decide +kernel
theorem dX10_readZones_17 : decode cX10_readZones 17 = .ok (.getfield 68, 3) := by decide +kernel
theorem dX10_readZones_20 : decode cX10_readZones 20 = .ok (.istore_n 2, 1) := by decide +kernel
theorem dX10_readZones_21 : decode cX10_readZones 21 = .ok (.iconst (-1), 1) := by decide +kernel
theorem dX10_readZones_22 : decode cX10_readZones 22 = .ok (.istore_n 3, 1) := by decide +kernel
theorem dX10_readZones_23 : decode cX10_readZones 23 = .ok (.aload_n 0, 1) := by decide +kernel
theorem dX10_readZones_24 : decode cX10_readZones 24 = .ok (.invokevirtual 41, 3) := by decide +kernel
theorem dX10_readZones_27 : decode cX10_readZones 27 = .ok (.aload_n 0, 1) := by decide +kernel
theorem dX10_readZones_28 : decode cX10_readZones 28 = .ok (.getfield 44, 3) := by decide +kernel
theorem dX10_readZones_31 : decode cX10_readZones 31 = .ok (.iconst 2, 1) := by decide +kernel
theorem dX10_readZones_32 : decode cX10_readZones 32 = .ok (.if_icmp .ne 34, 3) := by decide +kernel
theorem dX10_readZones_35 : decode cX10_readZones 35 = .ok (.aload_n 0, 1) := by decide +kernel
theorem dX10_readZones_36 : decode cX10_readZones 36 = .ok (.iload_n 2, 1) := by decide +kernel
theorem dX10_readZones_37 : decode cX10_readZones 37 = .ok (.iconst 1, 1) := by decide +kernel
theorem dX10_readZones_38 : decode cX10_readZones 38 = .ok (.iadd, 1) := by decide +kernel
theorem dX10_readZones_39 : decode cX10_readZones 39 = .ok (.aload_n 1, 1) := by decide +kernel
theorem dX10_readZones_40 : decode cX10_readZones 40 = .ok (.getfield 120, 3) := by decide +kernel
theorem dX10_readZones_43 : decode cX10_readZones 43 = .ok (.iconst 1, 1) := by decide +kernel
theorem dX10_readZones_44 : decode cX10_readZones 44 = .ok (.isub, 1) := by decide +kernel
theorem dX10_readZones_45 : decode cX10_readZones 45 = .ok (.invokevirtual 149, 3) := by decide +kernel
theorem dX10_readZones_48 : decode cX10_readZones 48 = .ok (.ifCond .ne 9, 3) := by decide +kernel
theorem dX10_readZones_51 : decode cX10_readZones 51 = .ok (.aload_n 0, 1) := by decide +kernel
theorem dX10_readZones_52 : decode cX10_readZones 52 = .ok (.iconst 2, 1) := by decide +kernel
theorem dX10_readZones_53 : decode cX10_readZones 53 = .ok (.invokevirtual 60, 3) := by decide +kernel
theorem dX10_readZones_56 : decode cX10_readZones 56 = .ok (.ireturn, 1) := by decide +kernel
theorem dX10_readZones_57 : decode cX10_readZones 57 = .ok (.aload_n 0, 1) := by decide +kernel
theorem dX10_readZones_58 : decode cX10_readZones 58 = .ok (.getfield 68, 3) := by decide +kernel
theorem dX10_readZones_61 : decode cX10_readZones 61 = .ok (.istore_n 3, 1) := by decide +kernel
theorem dX10_readZones_62 : decode cX10_readZones 62 = .ok (.aload_n 0, 1) := by decide +kernel
theorem dX10_readZones_63 : decode cX10_readZones 63 = .ok (.invokevirtual 41, 3) := by decide +kernel
theorem dX10_readZones_66 : decode cX10_readZones 66 = .ok (.aload_n 1, 1) := by decide +kernel
theorem dX10_readZones_67 : decode cX10_readZones 67 = .ok (.iload_n 2, 1) := by decide +kernel
theorem dX10_readZones_68 : decode cX10_readZones 68 = .ok (.iload_n 3, 1) := by decide +kernel
theorem dX10_readZones_69 : decode cX10_readZones 69 = .ok (.invokevirtual 152, 3) := by decide +kernel
theorem dX10_readZones_72 : decode cX10_readZones 72 = .ok (.aload_n 0, 1) := by decide +kernel
theorem dX10_readZones_73 : decode cX10_readZones 73 = .ok (.getfield 44, 3) := by decide +kernel
theorem dX10_readZones_76 : decode cX10_readZones 76 = .ok (.iconst 3, 1) := by decide +kernel
theorem dX10_readZones_77 : decode cX10_readZones 77 = .ok (.if_icmp .eq 11, 3) := by decide +kernel
theorem dX10_readZones_80 : decode cX10_readZones 80 = .ok (.aload_n 0, 1) := by decide +kernel
theorem dX10_readZones_81 : decode cX10_readZones 81 = .ok (.iconst 1, 1) := by decide +kernel
theorem dX10_readZones_82 : decode cX10_readZones 82 = .ok (.invokevirtual 60, 3) := by decide +kernel
theorem dX10_readZones_85 : decode cX10_readZones 85 = .ok (.ifCond .eq 7, 3) := by decide +kernel
theorem dX10_readZones_88 : decode cX10_readZones 88 = .ok (.iconst 1, 1) := by decide +kernel
theorem dX10_readZones_89 : decode cX10_readZones 89 = .ok (.goto 4, 3) := by decide +kernel
theorem dX10_readZones_92 : decode cX10_readZones 92 = .ok (.iconst 0, 1) := by decide +kernel
theorem dX10_readZones_93 : decode cX10_readZones 93 = .ok (.ireturn, 1) := by decide +kernel
theorem dX10_readBuffer_0 : decode cX10_readBuffer 0 = .ok (.aload_n 0, 1) := by decide +kernel
theorem dX10_readBuffer_1 : decode cX10_readBuffer 1 = .ok (.iconst 0, 1) := by decide +kernel
theorem dX10_readBuffer_2 : decode cX10_readBuffer 2 = .ok (.iconst 1, 1) := by decide +kernel
theorem dX10_readBuffer_3 : decode cX10_readBuffer 3 = .ok (.invokevirtual 64, 3) := by decide +kernel
theorem dX10_readBuffer_6 : decode cX10_readBuffer 6 = .ok (.ifCond .ne 5, 3) := by decide +kernel
theorem dX10_readBuffer_9 : decode cX10_readBuffer 9 = .ok (.iconst 0, 1) := by decide +kernel
theorem dX10_readBuffer_10 : decode cX10_readBuffer 10 = .ok (.ireturn, 1) := by decide +kernel
theorem dX10_readBuffer_11 : decode cX10_readBuffer 11 = .ok (.aload_n 0, 1) := by decide +kernel
theorem dX10_readBuffer_12 : decode cX10_readBuffer 12 = .ok (.getfield 68, 3) := by decide +kernel
theorem dX10_readBuffer_15 : decode cX10_readBuffer 15 = .ok (.istore_n 2, 1) := by decide +kernel
theorem dX10_readBuffer_16 : decode cX10_readBuffer 16 = .ok (.aload_n 0, 1) := by decide +kernel
theorem dX10_readBuffer_17 : decode cX10_readBuffer 17 = .ok (.iconst 0, 1) := by decide +kernel
theorem dX10_readBuffer_18 : decode cX10_readBuffer 18 = .ok (.iconst 4, 1) := by decide +kernel
theorem dX10_readBuffer_19 : decode cX10_readBuffer 19 = .ok (.invokevirtual 64, 3) := by decide +kernel
theorem dX10_readBuffer_22 : decode cX10_readBuffer 22 = .ok (.ifCond .ne 5, 3) := by decide +kernel
theorem dX10_readBuffer_25 : decode cX10_readBuffer 25 = .ok (.iconst 0, 1) := by decide +kernel
theorem dX10_readBuffer_26 : decode cX10_readBuffer 26 = .ok (.ireturn, 1) := by decide +kernel
theorem dX10_readBuffer_27 : decode cX10_readBuffer 27 = .ok (.aload_n 1, 1) := by decide +kernel
theorem dX10_readBuffer_28 : decode cX10_readBuffer 28 = .ok (.getfield 156, 3) := by decide +kernel
theorem dX10_readBuffer_31 : decode cX10_readBuffer 31 = .ok (.iload_n 2, 1) := by decide +kernel
theorem dX10_readBuffer_32 : decode cX10_readBuffer 32 = .ok (.aload_n 0, 1) := by decide +kernel
theorem dX10_readBuffer_33 : decode cX10_readBuffer 33 = .ok (.getfield 68, 3) := by decide +kernel
theorem dX10_readBuffer_36 : decode cX10_readBuffer 36 = .ok (.iastore, 1) := by decide +kernel
theorem dX10_readBuffer_37 : decode cX10_readBuffer 37 = .ok (.aload_n 0, 1) := by decide +kernel
theorem dX10_readBuffer_38 : decode cX10_readBuffer 38 = .ok (.invokevirtual 77, 3) := by decide +kernel
theorem dX10_readBuffer_41 : decode cX10_readBuffer 41 = .ok (.ireturn, 1) := by decide +kernel
theorem dX10_readTimes_0 : decode cX10_readTimes 0 = .ok (.aload_n 0, 1) := by decide +kernel
theorem dX10_readTimes_1 : decode cX10_readTimes 1 = .ok (.iconst 0, 1) := by decide +kernel
theorem dX10_readTimes_2 : decode cX10_readTimes 2 = .ok (.bipush 99, 2) := by decide +kernel
theorem dX10_readTimes_4 : decode cX10_readTimes 4 = .ok (.invokevirtual 64, 3) := by decide +kernel
theorem dX10_readTimes_7 : decode cX10_readTimes 7 = .ok (.ifCond .ne 5, 3) := by decide +kernel
theorem dX10_readTimes_10 : decode cX10_readTimes 10 = .ok (.iconst 0, 1) := by decide +kernel
theorem dX10_readTimes_11 : decode cX10_readTimes 11 = .ok (.ireturn, 1) := by decide +kernel
theorem dX10_readTimes_12 : decode cX10_readTimes 12 = .ok (.aload_n 1, 1) := by decide +kernel
theorem dX10_readTimes_13 : decode cX10_readTimes 13 = .ok (.aload_n 0, 1) := by decide +kernel
theorem dX10_readTimes_14 : decode cX10_readTimes 14 = .ok (.getfield 68, 3) := by decide +kernel
theorem dX10_readTimes_17 : decode cX10_readTimes 17 = .ok (.putfield 160, 3) := by decide +kernel
theorem dX10_readTimes_20 : decode cX10_readTimes 20 = .ok (.aload_n 0, 1) := by decide +kernel
theorem dX10_readTimes_21 : decode cX10_readTimes 21 = .ok (.iconst 0, 1) := by decide +kernel
theorem dX10_readTimes_22 : decode cX10_readTimes 22 = .ok (.bipush 99, 2) := by decide +kernel
theorem dX10_readTimes_24 : decode cX10_readTimes 24 = .ok (.invokevirtual 64, 3) := by decide +kernel
theorem dX10_readTimes_27 : decode cX10_readTimes 27 = .ok (.ifCond .ne 5, 3) := by decide +kernel
theorem dX10_readTimes_30 : decode cX10_readTimes 30 = .ok (.iconst 0, 1) := by decide +kernel
theorem dX10_readTimes_31 : decode cX10_readTimes 31 = .ok (.ireturn, 1) := by decide +kernel
theorem dX10_readTimes_32 : decode cX10_readTimes 32 = .ok (.aload_n 1, 1) := by decide +kernel
theorem dX10_readTimes_33 : decode cX10_readTimes 33 = .ok (.aload_n 0, 1) := by decide +kernel
theorem dX10_readTimes_34 : decode cX10_readTimes 34 = .ok (.getfield 68, 3) := by decide +kernel
theorem dX10_readTimes_37 : decode cX10_readTimes 37 = .ok (.putfield 163, 3) := by decide +kernel
theorem dX10_readTimes_40 : decode cX10_readTimes 40 = .ok (.aload_n 0, 1) := by decide +kernel
theorem dX10_readTimes_41 : decode cX10_readTimes 41 = .ok (.invokevirtual 77, 3) := by decide +kernel
theorem dX10_readTimes_44 : decode cX10_readTimes 44 = .ok (.ireturn, 1) := by decide +kernel
theorem dX10_readPolicy_0 : decode cX10_readPolicy 0 = .ok (.aload_n 0, 1) := by decide +kernel
theorem dX10_readPolicy_1 : decode cX10_readPolicy 1 = .ok (.invokevirtual 41, 3) := by decide +kernel
theorem dX10_readPolicy_4 : decode cX10_readPolicy 4 = .ok (.aload_n 0, 1) := by decide +kernel
theorem dX10_readPolicy_5 : decode cX10_readPolicy 5 = .ok (.ldc 166, 2) := by decide +kernel
theorem dX10_readPolicy_7 : decode cX10_readPolicy 7 = .ok (.invokevirtual 56, 3) := by decide +kernel
theorem dX10_readPolicy_10 : decode cX10_readPolicy 10 = .ok (.ifCond .eq 11, 3) := by decide +kernel
theorem dX10_readPolicy_13 : decode cX10_readPolicy 13 = .ok (.aload_n 1, 1) := by decide +kernel
theorem dX10_readPolicy_14 : decode cX10_readPolicy 14 = .ok (.iconst 0, 1) := by decide +kernel
theorem dX10_readPolicy_15 : decode cX10_readPolicy 15 = .ok (.putfield 168, 3) := by decide +kernel
theorem dX10_readPolicy_18 : decode cX10_readPolicy 18 = .ok (.goto 60, 3) := by decide +kernel
theorem dX10_readPolicy_21 : decode cX10_readPolicy 21 = .ok (.aload_n 0, 1) := by decide +kernel
theorem dX10_readPolicy_22 : decode cX10_readPolicy 22 = .ok (.ldc 170, 2) := by decide +kernel
theorem dX10_readPolicy_24 : decode cX10_readPolicy 24 = .ok (.invokevirtual 56, 3) := by decide +kernel
theorem dX10_readPolicy_27 : decode cX10_readPolicy 27 = .ok (.ifCond .eq 11, 3) := by decide +kernel
theorem dX10_readPolicy_30 : decode cX10_readPolicy 30 = .ok (.aload_n 1, 1) := by decide +kernel
theorem dX10_readPolicy_31 : decode cX10_readPolicy 31 = .ok (.iconst 1, 1) := by decide +kernel
theorem dX10_readPolicy_32 : decode cX10_readPolicy 32 = .ok (.putfield 168, 3) := by decide +kernel
theorem dX10_readPolicy_35 : decode cX10_readPolicy 35 = .ok (.goto 43, 3) := by decide +kernel
theorem dX10_readPolicy_38 : decode cX10_readPolicy 38 = .ok (.aload_n 0, 1) := by decide +kernel
theorem dX10_readPolicy_39 : decode cX10_readPolicy 39 = .ok (.ldc 172, 2) := by decide +kernel
theorem dX10_readPolicy_41 : decode cX10_readPolicy 41 = .ok (.invokevirtual 56, 3) := by decide +kernel
theorem dX10_readPolicy_44 : decode cX10_readPolicy 44 = .ok (.ifCond .eq 11, 3) := by decide +kernel
theorem dX10_readPolicy_47 : decode cX10_readPolicy 47 = .ok (.aload_n 1, 1) := by decide +kernel
theorem dX10_readPolicy_48 : decode cX10_readPolicy 48 = .ok (.iconst 2, 1) := by decide +kernel
theorem dX10_readPolicy_49 : decode cX10_readPolicy 49 = .ok (.putfield 168, 3) := by decide +kernel
theorem dX10_readPolicy_52 : decode cX10_readPolicy 52 = .ok (.goto 26, 3) := by decide +kernel
theorem dX10_readPolicy_55 : decode cX10_readPolicy 55 = .ok (.aload_n 0, 1) := by decide +kernel
theorem dX10_readPolicy_56 : decode cX10_readPolicy 56 = .ok (.ldc 174, 2) := by decide +kernel
theorem dX10_readPolicy_58 : decode cX10_readPolicy 58 = .ok (.invokevirtual 56, 3) := by decide +kernel
theorem dX10_readPolicy_61 : decode cX10_readPolicy 61 = .ok (.ifCond .eq 11, 3) := by decide +kernel
theorem dX10_readPolicy_64 : decode cX10_readPolicy 64 = .ok (.aload_n 1, 1) := by decide +kernel
theorem dX10_readPolicy_65 : decode cX10_readPolicy 65 = .ok (.iconst 3, 1) := by decide +kernel
theorem dX10_readPolicy_66 : decode cX10_readPolicy 66 = .ok (.putfield 168, 3) := by decide +kernel
theorem dX10_readPolicy_69 : decode cX10_readPolicy 69 = .ok (.goto 9, 3) := by decide +kernel
theorem dX10_readPolicy_72 : decode cX10_readPolicy 72 = .ok (.aload_n 0, 1) := by decide +kernel
theorem dX10_readPolicy_73 : decode cX10_readPolicy 73 = .ok (.iconst 1, 1) := by decide +kernel
theorem dX10_readPolicy_74 : decode cX10_readPolicy 74 = .ok (.invokevirtual 60, 3) := by decide +kernel
theorem dX10_readPolicy_77 : decode cX10_readPolicy 77 = .ok (.ireturn, 1) := by decide +kernel
theorem dX10_readPolicy_78 : decode cX10_readPolicy 78 = .ok (.aload_n 0, 1) := by decide +kernel
theorem dX10_readPolicy_79 : decode cX10_readPolicy 79 = .ok (.invokevirtual 77, 3) := by decide +kernel
theorem dX10_readPolicy_82 : decode cX10_readPolicy 82 = .ok (.ireturn, 1) := by decide +kernel
theorem dX10_readNumber_0 : decode cX10_readNumber 0 = .ok (.aload_n 0, 1) := by decide +kernel
theorem dX10_readNumber_1 : decode cX10_readNumber 1 = .ok (.invokevirtual 41, 3) := by decide +kernel
theorem dX10_readNumber_4 : decode cX10_readNumber 4 = .ok (.aload_n 0, 1) := by decide +kernel
theorem dX10_readNumber_5 : decode cX10_readNumber 5 = .ok (.getfield 44, 3) := by decide +kernel
theorem dX10_readNumber_8 : decode cX10_readNumber 8 = .ok (.iconst 2, 1) := by decide +kernel
theorem dX10_readNumber_9 : decode cX10_readNumber 9 = .ok (.if_icmp .eq 9, 3) := by decide +kernel
theorem dX10_readNumber_12 : decode cX10_readNumber 12 = .ok (.aload_n 0, 1) := by decide +kernel
theorem dX10_readNumber_13 : decode cX10_readNumber 13 = .ok (.iconst 1, 1) := by decide +kernel
theorem dX10_readNumber_14 : decode cX10_readNumber 14 = .ok (.invokevirtual 60, 3) := by decide +kernel
theorem dX10_readNumber_17 : decode cX10_readNumber 17 = .ok (.ireturn, 1) := by decide +kernel
theorem dX10_readNumber_18 : decode cX10_readNumber 18 = .ok (.aload_n 0, 1) := by decide +kernel
theorem dX10_readNumber_19 : decode cX10_readNumber 19 = .ok (.iload_n 1, 1) := by decide +kernel
theorem dX10_readNumber_20 : decode cX10_readNumber 20 = .ok (.iload_n 2, 1) := by decide +kernel
theorem dX10_readNumber_21 : decode cX10_readNumber 21 = .ok (.invokevirtual 149, 3) := by decide +kernel
theorem dX10_readNumber_24 : decode cX10_readNumber 24 = .ok (.ifCond .ne 11, 3) := by decide +kernel
theorem dX10_readNumber_27 : decode cX10_readNumber 27 = .ok (.aload_n 0, 1) := by decide +kernel
theorem dX10_readNumber_28 : decode cX10_readNumber 28 = .ok (.iconst 2, 1) := by decide +kernel
theorem dX10_readNumber_29 : decode cX10_readNumber 29 = .ok (.invokevirtual 60, 3) := by decide +kernel
theorem dX10_readNumber_32 : decode cX10_readNumber 32 = .ok (.ifCond .eq 7, 3) := by decide +kernel
theorem dX10_readNumber_35 : decode cX10_readNumber 35 = .ok (.iconst 1, 1) := by decide +kernel
theorem dX10_readNumber_36 : decode cX10_readNumber 36 = .ok (.goto 4, 3) := by decide +kernel
theorem dX10_readNumber_39 : decode cX10_readNumber 39 = .ok (.iconst 0, 1) := by decide +kernel
theorem dX10_readNumber_40 : decode cX10_readNumber 40 = .ok (.ireturn, 1) := by decide +kernel
theorem dX10_readSemicolon_0 : decode cX10_readSemicolon 0 = .ok (.aload_n 0, 1) := by decide +kernel
theorem dX10_readSemicolon_1 : decode cX10_readSemicolon 1 = .ok (.invokevirtual 41, 3) := by decide +kernel
theorem dX10_readSemicolon_4 : decode cX10_readSemicolon 4 = .ok (.aload_n 0, 1) := by decide +kernel
theorem dX10_readSemicolon_5 : decode cX10_readSemicolon 5 = .ok (.getfield 44, 3) := by decide +kernel
theorem dX10_readSemicolon_8 : decode cX10_readSemicolon 8 = .ok (.iconst 3, 1) := by decide +kernel
theorem dX10_readSemicolon_9 : decode cX10_readSemicolon 9 = .ok (.if_icmp .eq 11, 3) := by decide +kernel
theorem dX10_readSemicolon_12 : decode cX10_readSemicolon 12 = .ok (.aload_n 0, 1) := by decide +kernel
theorem dX10_readSemicolon_13 : decode cX10_readSemicolon 13 = .ok (.iconst 1, 1) := by decide +kernel
theorem dX10_readSemicolon_14 : decode cX10_readSemicolon 14 = .ok (.invokevirtual 60, 3) := by decide +kernel
theorem dX10_readSemicolon_17 : decode cX10_readSemicolon 17 = .ok (.ifCond .eq 7, 3) := by decide +kernel
theorem dX10_readSemicolon_20 : decode cX10_readSemicolon 20 = .ok (.iconst 1, 1) := by decide +kernel
theorem dX10_readSemicolon_21 : decode cX10_readSemicolon 21 = .ok (.goto 4, 3) := by decide +kernel
theorem dX10_readSemicolon_24 : decode cX10_readSemicolon 24 = .ok (.iconst 0, 1) := by decide +kernel
theorem dX10_readSemicolon_25 : decode cX10_readSemicolon 25 = .ok (.ireturn, 1) := by decide +kernel
theorem dX10_isWithin_0 : decode cX10_isWithin 0 = .ok (.aload_n 0, 1) := by decide +kernel
theorem dX10_isWithin_1 : decode cX10_isWithin 1 = .ok (.getfield 68, 3) := by decide +kernel
theorem dX10_isWithin_4 : decode cX10_isWithin 4 = .ok (.iload_n 1, 1) := by decide +kernel
theorem dX10_isWithin_5 : decode cX10_isWithin 5 = .ok (.if_icmp .lt 15, 3) := by decide +kernel
theorem dX10_isWithin_8 : decode cX10_isWithin 8 = .ok (.aload_n 0, 1) := by decide +kernel
theorem dX10_isWithin_9 : decode cX10_isWithin 9 = .ok (.getfield 68, 3) := by decide +kernel
theorem dX10_isWithin_12 : decode cX10_isWithin 12 = .ok (.iload_n 2, 1) := by decide +kernel
theorem dX10_isWithin_13 : decode cX10_isWithin 13 = .ok (.if_icmp .gt 7, 3) := by decide +kernel
theorem dX10_isWithin_16 : decode cX10_isWithin 16 = .ok (.iconst 1, 1) := by decide +kernel
theorem dX10_isWithin_17 : decode cX10_isWithin 17 = .ok (.goto 4, 3) := by decide +kernel
theorem dX10_isWithin_20 : decode cX10_isWithin 20 = .ok (.iconst 0, 1) := by decide +kernel
theorem dX10_isWithin_21 : decode cX10_isWithin 21 = .ok (.ireturn, 1) := by decide +kernel
theorem dX10_nextToken_0 : decode cX10_nextToken 0 = .ok (.aload_n 0, 1) := by decide +kernel
theorem dX10_nextToken_1 : decode cX10_nextToken 1 = .ok (.getfield 25, 3) := by decide +kernel
theorem dX10_nextToken_4 : decode cX10_nextToken 4 = .ok (.aload_n 0, 1) := by decide +kernel
theorem dX10_nextToken_5 : decode cX10_nextToken 5 = .ok (.getfield 19, 3) := by decide +kernel
theorem dX10_nextToken_8 : decode cX10_nextToken 8 = .ok (.if_icmp .ge 44, 3) := by decide +kernel
theorem dX10_nextToken_11 : decode cX10_nextToken 11 = .ok (.aload_n 0, 1) := by decide +kernel
theorem dX10_nextToken_12 : decode cX10_nextToken 12 = .ok (.getfield 9, 3) := by decide +kernel
theorem dX10_nextToken_15 : decode cX10_nextToken 15 = .ok (.aload_n 0, 1) := by decide +kernel
theorem dX10_nextToken_16 : decode cX10_nextToken 16 = .ok (.getfield 25, 3) := by decide +kernel
theorem dX10_nextToken_19 : decode cX10_nextToken 19 = .ok (.baload, 1) := by decide +kernel
theorem dX10_nextToken_20 : decode cX10_nextToken 20 = .ok (.bipush 32, 2) := by decide +kernel
theorem dX10_nextToken_22 : decode cX10_nextToken 22 = .ok (.if_icmp .eq 17, 3) := by decide +kernel
theorem dX10_nextToken_25 : decode cX10_nextToken 25 = .ok (.aload_n 0, 1) := by decide +kernel
theorem dX10_nextToken_26 : decode cX10_nextToken 26 = .ok (.getfield 9, 3) := by decide +kernel
theorem dX10_nextToken_29 : decode cX10_nextToken 29 = .ok (.aload_n 0, 1) := by decide +kernel
theorem dX10_nextToken_30 : decode cX10_nextToken 30 = .ok (.getfield 25, 3) := by decide +kernel
theorem dX10_nextToken_33 : decode cX10_nextToken 33 = .ok (.baload, 1) := by decide +kernel
theorem dX10_nextToken_34 : decode cX10_nextToken 34 = .ok (.bipush 10, 2) := by decide +kernel
theorem dX10_nextToken_36 : decode cX10_nextToken 36 = .ok (.if_icmp .ne 16, 3) := by decide +kernel
theorem dX10_nextToken_39 : decode cX10_nextToken 39 = .ok (.aload_n 0, 1) := by decide +kernel
theorem dX10_nextToken_40 : decode cX10_nextToken 40 = .ok (.dup, 1) := by decide +kernel
theorem dX10_nextToken_41 : decode cX10_nextToken 41 = .ok (.getfield 25, 3) := by decide +kernel
theorem dX10_nextToken_44 : decode cX10_nextToken 44 = .ok (.iconst 1, 1) := by decide +kernel
theorem dX10_nextToken_45 : decode cX10_nextToken 45 = .ok (.iadd, 1) := by decide +kernel
theorem dX10_nextToken_46 : decode cX10_nextToken 46 = .ok (.putfield 25, 3) := by decide +kernel
theorem dX10_nextToken_49 : decode cX10_nextToken 49 = .ok (.goto (-49), 3) := by decide +kernel
theorem dX10_nextToken_52 : decode cX10_nextToken 52 = .ok (.aload_n 0, 1) := by decide +kernel
theorem dX10_nextToken_53 : decode cX10_nextToken 53 = .ok (.aload_n 0, 1) := by decide +kernel
theorem dX10_nextToken_54 : decode cX10_nextToken 54 = .ok (.getfield 25, 3) := by decide +kernel
theorem dX10_nextToken_57 : decode cX10_nextToken 57 = .ok (.putfield 51, 3) := by decide +kernel
theorem dX10_nextToken_60 : decode cX10_nextToken 60 = .ok (.aload_n 0, 1) := by decide +kernel
theorem dX10_nextToken_61 : decode cX10_nextToken 61 = .ok (.getfield 51, 3) := by decide +kernel
theorem dX10_nextToken_64 : decode cX10_nextToken 64 = .ok (.aload_n 0, 1) := by decide +kernel
theorem dX10_nextToken_65 : decode cX10_nextToken 65 = .ok (.getfield 19, 3) := by decide +kernel
theorem dX10_nextToken_68 : decode cX10_nextToken 68 = .ok (.if_icmp .lt 11, 3) := by decide +kernel
theorem dX10_nextToken_71 : decode cX10_nextToken 71 = .ok (.aload_n 0, 1) := by decide +kernel
theorem dX10_nextToken_72 : decode cX10_nextToken 72 = .ok (.iconst 0, 1) := by decide +kernel
theorem dX10_nextToken_73 : decode cX10_nextToken 73 = .ok (.putfield 44, 3) := by decide +kernel
theorem dX10_nextToken_76 : decode cX10_nextToken 76 = .ok (.goto 116, 3) := by decide +kernel
theorem dX10_nextToken_79 : decode cX10_nextToken 79 = .ok (.aload_n 0, 1) := by decide +kernel
theorem dX10_nextToken_80 : decode cX10_nextToken 80 = .ok (.getfield 9, 3) := by decide +kernel
theorem dX10_nextToken_83 : decode cX10_nextToken 83 = .ok (.aload_n 0, 1) := by decide +kernel
theorem dX10_nextToken_84 : decode cX10_nextToken 84 = .ok (.getfield 51, 3) := by decide +kernel
theorem dX10_nextToken_87 : decode cX10_nextToken 87 = .ok (.baload, 1) := by decide +kernel
theorem dX10_nextToken_88 : decode cX10_nextToken 88 = .ok (.bipush 97, 2) := by decide +kernel
theorem dX10_nextToken_90 : decode cX10_nextToken 90 = .ok (.if_icmp .lt 29, 3) := by decide +kernel
theorem dX10_nextToken_93 : decode cX10_nextToken 93 = .ok (.aload_n 0, 1) := by decide +kernel
theorem dX10_nextToken_94 : decode cX10_nextToken 94 = .ok (.getfield 9, 3) := by decide +kernel
theorem dX10_nextToken_97 : decode cX10_nextToken 97 = .ok (.aload_n 0, 1) := by decide +kernel
theorem dX10_nextToken_98 : decode cX10_nextToken 98 = .ok (.getfield 51, 3) := by decide +kernel
theorem dX10_nextToken_101 : decode cX10_nextToken 101 = .ok (.baload, 1) := by decide +kernel
theorem dX10_nextToken_102 : decode cX10_nextToken 102 = .ok (.bipush 122, 2) := by decide +kernel
theorem dX10_nextToken_104 : decode cX10_nextToken 104 = .ok (.if_icmp .gt 15, 3) := by decide +kernel
theorem dX10_nextToken_107 : decode cX10_nextToken 107 = .ok (.aload_n 0, 1) := by decide +kernel
theorem dX10_nextToken_108 : decode cX10_nextToken 108 = .ok (.iconst 1, 1) := by decide +kernel
theorem dX10_nextToken_109 : decode cX10_nextToken 109 = .ok (.putfield 44, 3) := by decide +kernel
theorem dX10_nextToken_112 : decode cX10_nextToken 112 = .ok (.aload_n 0, 1) := by decide +kernel
theorem dX10_nextToken_113 : decode cX10_nextToken 113 = .ok (.invokevirtual 176, 3) := by decide +kernel
theorem dX10_nextToken_116 : decode cX10_nextToken 116 = .ok (.goto 76, 3) := by decide +kernel
theorem dX10_nextToken_119 : decode cX10_nextToken 119 = .ok (.aload_n 0, 1) := by decide +kernel
theorem dX10_nextToken_120 : decode cX10_nextToken 120 = .ok (.getfield 9, 3) := by decide +kernel
theorem dX10_nextToken_123 : decode cX10_nextToken 123 = .ok (.aload_n 0, 1) := by decide +kernel
theorem dX10_nextToken_124 : decode cX10_nextToken 124 = .ok (.getfield 51, 3) := by decide +kernel
theorem dX10_nextToken_127 : decode cX10_nextToken 127 = .ok (.baload, 1) := by decide +kernel
theorem dX10_nextToken_128 : decode cX10_nextToken 128 = .ok (.bipush 48, 2) := by decide +kernel
theorem dX10_nextToken_130 : decode cX10_nextToken 130 = .ok (.if_icmp .lt 29, 3) := by decide +kernel
theorem dX10_nextToken_133 : decode cX10_nextToken 133 = .ok (.aload_n 0, 1) := by decide +kernel
theorem dX10_nextToken_134 : decode cX10_nextToken 134 = .ok (.getfield 9, 3) := by decide +kernel
theorem dX10_nextToken_137 : decode cX10_nextToken 137 = .ok (.aload_n 0, 1) := by decide +kernel
theorem dX10_nextToken_138 : decode cX10_nextToken 138 = .ok (.getfield 51, 3) := by decide +kernel
theorem dX10_nextToken_141 : decode cX10_nextToken 141 = .ok (.baload, 1) := by decide +kernel
theorem dX10_nextToken_142 : decode cX10_nextToken 142 = .ok (.bipush 57, 2) := by decide +kernel
theorem dX10_nextToken_144 : decode cX10_nextToken 144 = .ok (.if_icmp .gt 15, 3) := by decide +kernel
theorem dX10_nextToken_147 : decode cX10_nextToken 147 = .ok (.aload_n 0, 1) := by decide +kernel
theorem dX10_nextToken_148 : decode cX10_nextToken 148 = .ok (.iconst 2, 1) := by decide +kernel
theorem dX10_nextToken_149 : decode cX10_nextToken 149 = .ok (.putfield 44, 3) := by decide +kernel
theorem dX10_nextToken_152 : decode cX10_nextToken 152 = .ok (.aload_n 0, 1) := by decide +kernel
theorem dX10_nextToken_153 : decode cX10_nextToken 153 = .ok (.invokevirtual 179, 3) := by decide +kernel
theorem dX10_nextToken_156 : decode cX10_nextToken 156 = .ok (.goto 36, 3) := by decide +kernel
theorem dX10_nextToken_159 : decode cX10_nextToken 159 = .ok (.aload_n 0, 1) := by decide +kernel
theorem dX10_nextToken_160 : decode cX10_nextToken 160 = .ok (.aload_n 0, 1) := by decide +kernel
theorem dX10_nextToken_161 : decode cX10_nextToken 161 = .ok (.getfield 9, 3) := by decide +kernel
theorem dX10_nextToken_164 : decode cX10_nextToken 164 = .ok (.aload_n 0, 1) := by decide +kernel
theorem dX10_nextToken_165 : decode cX10_nextToken 165 = .ok (.getfield 51, 3) := by decide +kernel
theorem dX10_nextToken_168 : decode cX10_nextToken 168 = .ok (.baload, 1) := by decide +kernel
theorem dX10_nextToken_169 : decode cX10_nextToken 169 = .ok (.bipush 59, 2) := by decide +kernel
theorem dX10_nextToken_171 : decode cX10_nextToken 171 = .ok (.if_icmp .ne 7, 3) := by decide +kernel
theorem dX10_nextToken_174 : decode cX10_nextToken 174 = .ok (.iconst 3, 1) := by decide +kernel
theorem dX10_nextToken_175 : decode cX10_nextToken 175 = .ok (.goto 4, 3) := by decide +kernel
theorem dX10_nextToken_178 : decode cX10_nextToken 178 = .ok (.iconst 4, 1) := by decide +kernel
theorem dX10_nextToken_179 : decode cX10_nextToken 179 = .ok (.putfield 44, 3) := by decide +kernel
theorem dX10_nextToken_182 : decode cX10_nextToken 182 = .ok (.aload_n 0, 1) := by decide +kernel
theorem dX10_nextToken_183 : decode cX10_nextToken 183 = .ok (.dup, 1) := by decide +kernel
theorem dX10_nextToken_184 : decode cX10_nextToken 184 = .ok (.getfield 25, 3) := by decide +kernel
theorem dX10_nextToken_187 : decode cX10_nextToken 187 = .ok (.iconst 1, 1) := by decide +kernel
theorem dX10_nextToken_188 : decode cX10_nextToken 188 = .ok (.iadd, 1) := by decide +kernel
theorem dX10_nextToken_189 : decode cX10_nextToken 189 = .ok (.putfield 25, 3) := by decide +kernel
theorem dX10_nextToken_192 : decode cX10_nextToken 192 = .ok (.return_, 1) := by decide +kernel
theorem dX10_passWord_0 : decode cX10_passWord 0 = .ok (.aload_n 0, 1) := by decide +kernel
theorem dX10_passWord_1 : decode cX10_passWord 1 = .ok (.getfield 25, 3) := by decide +kernel
theorem dX10_passWord_4 : decode cX10_passWord 4 = .ok (.aload_n 0, 1) := by decide +kernel
theorem dX10_passWord_5 : decode cX10_passWord 5 = .ok (.getfield 19, 3) := by decide +kernel
theorem dX10_passWord_8 : decode cX10_passWord 8 = .ok (.if_icmp .ge 44, 3) := by decide +kernel
theorem dX10_passWord_11 : decode cX10_passWord 11 = .ok (.aload_n 0, 1) := by decide +kernel
theorem dX10_passWord_12 : decode cX10_passWord 12 = .ok (.getfield 9, 3) := by decide +kernel
theorem dX10_passWord_15 : decode cX10_passWord 15 = .ok (.aload_n 0, 1) := by decide +kernel
theorem dX10_passWord_16 : decode cX10_passWord 16 = .ok (.getfield 25, 3) := by decide +kernel
theorem dX10_passWord_19 : decode cX10_passWord 19 = .ok (.baload, 1) := by decide +kernel
theorem dX10_passWord_20 : decode cX10_passWord 20 = .ok (.bipush 97, 2) := by decide +kernel
theorem dX10_passWord_22 : decode cX10_passWord 22 = .ok (.if_icmp .lt 30, 3) := by decide +kernel
theorem dX10_passWord_25 : decode cX10_passWord 25 = .ok (.aload_n 0, 1) := by decide +kernel
theorem dX10_passWord_26 : decode cX10_passWord 26 = .ok (.getfield 9, 3) := by decide +kernel
theorem dX10_passWord_29 : decode cX10_passWord 29 = .ok (.aload_n 0, 1) := by decide +kernel
theorem dX10_passWord_30 : decode cX10_passWord 30 = .ok (.getfield 25, 3) := by decide +kernel
theorem dX10_passWord_33 : decode cX10_passWord 33 = .ok (.baload, 1) := by decide +kernel
theorem dX10_passWord_34 : decode cX10_passWord 34 = .ok (.bipush 122, 2) := by decide +kernel
theorem dX10_passWord_36 : decode cX10_passWord 36 = .ok (.if_icmp .gt 16, 3) := by decide +kernel
theorem dX10_passWord_39 : decode cX10_passWord 39 = .ok (.aload_n 0, 1) := by decide +kernel
theorem dX10_passWord_40 : decode cX10_passWord 40 = .ok (.dup, 1) := by decide +kernel
theorem dX10_passWord_41 : decode cX10_passWord 41 = .ok (.getfield 25, 3) := by decide +kernel
theorem dX10_passWord_44 : decode cX10_passWord 44 = .ok (.iconst 1, 1) := by decide +kernel
theorem dX10_passWord_45 : decode cX10_passWord 45 = .ok (.iadd, 1) := by decide +kernel
theorem dX10_passWord_46 : decode cX10_passWord 46 = .ok (.putfield 25, 3) := by decide +kernel
theorem dX10_passWord_49 : decode cX10_passWord 49 = .ok (.goto (-49), 3) := by decide +kernel
theorem dX10_passWord_52 : decode cX10_passWord 52 = .ok (.return_, 1) := by decide +kernel
theorem dX10_passNumber_0 : decode cX10_passNumber 0 = .ok (.aload_n 0, 1) := by decide +kernel
theorem dX10_passNumber_1 : decode cX10_passNumber 1 = .ok (.iconst 0, 1) := by decide +kernel
theorem dX10_passNumber_2 : decode cX10_passNumber 2 = .ok (.putfield 68, 3) := by decide +kernel
theorem dX10_passNumber_5 : decode cX10_passNumber 5 = .ok (.aload_n 0, 1) := by decide +kernel
theorem dX10_passNumber_6 : decode cX10_passNumber 6 = .ok (.getfield 25, 3) := by decide +kernel
theorem dX10_passNumber_9 : decode cX10_passNumber 9 = .ok (.aload_n 0, 1) := by decide +kernel
theorem dX10_passNumber_10 : decode cX10_passNumber 10 = .ok (.getfield 19, 3) := by decide +kernel
theorem dX10_passNumber_13 : decode cX10_passNumber 13 = .ok (.if_icmp .ge 77, 3) := by decide +kernel
theorem dX10_passNumber_16 : decode cX10_passNumber 16 = .ok (.aload_n 0, 1) := by decide +kernel
theorem dX10_passNumber_17 : decode cX10_passNumber 17 = .ok (.getfield 9, 3) := by decide +kernel
theorem dX10_passNumber_20 : decode cX10_passNumber 20 = .ok (.aload_n 0, 1) := by decide +kernel
theorem dX10_passNumber_21 : decode cX10_passNumber 21 = .ok (.getfield 25, 3) := by decide +kernel
theorem dX10_passNumber_24 : decode cX10_passNumber 24 = .ok (.baload, 1) := by decide +kernel
theorem dX10_passNumber_25 : decode cX10_passNumber 25 = .ok (.bipush 48, 2) := by decide +kernel
theorem dX10_passNumber_27 : decode cX10_passNumber 27 = .ok (.if_icmp .lt 63, 3) := by decide +kernel
theorem dX10_passNumber_30 : decode cX10_passNumber 30 = .ok (.aload_n 0, 1) := by decide +kernel
theorem dX10_passNumber_31 : decode cX10_passNumber 31 = .ok (.getfield 9, 3) := by decide +kernel
theorem dX10_passNumber_34 : decode cX10_passNumber 34 = .ok (.aload_n 0, 1) := by decide +kernel
theorem dX10_passNumber_35 : decode cX10_passNumber 35 = .ok (.getfield 25, 3) := by decide +kernel
theorem dX10_passNumber_38 : decode cX10_passNumber 38 = .ok (.baload, 1) := by decide +kernel
theorem dX10_passNumber_39 : decode cX10_passNumber 39 = .ok (.bipush 57, 2) := by decide +kernel
theorem dX10_passNumber_41 : decode cX10_passNumber 41 = .ok (.if_icmp .gt 49, 3) := by decide +kernel
theorem dX10_passNumber_44 : decode cX10_passNumber 44 = .ok (.aload_n 0, 1) := by decide +kernel
theorem dX10_passNumber_45 : decode cX10_passNumber 45 = .ok (.getfield 68, 3) := by decide +kernel
theorem dX10_passNumber_48 : decode cX10_passNumber 48 = .ok (.ldc 182, 2) := by decide +kernel
theorem dX10_passNumber_50 : decode cX10_passNumber 50 = .ok (.if_icmp .ge 27, 3) := by decide +kernel
theorem dX10_passNumber_53 : decode cX10_passNumber 53 = .ok (.aload_n 0, 1) := by decide +kernel
theorem dX10_passNumber_54 : decode cX10_passNumber 54 = .ok (.aload_n 0, 1) := by decide +kernel
theorem dX10_passNumber_55 : decode cX10_passNumber 55 = .ok (.getfield 68, 3) := by decide +kernel
theorem dX10_passNumber_58 : decode cX10_passNumber 58 = .ok (.bipush 10, 2) := by decide +kernel
theorem dX10_passNumber_60 : decode cX10_passNumber 60 = .ok (.imul, 1) := by decide +kernel
theorem dX10_passNumber_61 : decode cX10_passNumber 61 = .ok (.aload_n 0, 1) := by decide +kernel
theorem dX10_passNumber_62 : decode cX10_passNumber 62 = .ok (.getfield 9, 3) := by decide +kernel
theorem dX10_passNumber_65 : decode cX10_passNumber 65 = .ok (.aload_n 0, 1) := by decide +kernel
theorem dX10_passNumber_66 : decode cX10_passNumber 66 = .ok (.getfield 25, 3) := by decide +kernel
theorem dX10_passNumber_69 : decode cX10_passNumber 69 = .ok (.baload, 1) := by decide +kernel
theorem dX10_passNumber_70 : decode cX10_passNumber 70 = .ok (.iadd, 1) := by decide +kernel
theorem dX10_passNumber_71 : decode cX10_passNumber 71 = .ok (.bipush 48, 2) := by decide +kernel
theorem dX10_passNumber_73 : decode cX10_passNumber 73 = .ok (.isub, 1) := by decide +kernel
theorem dX10_passNumber_74 : decode cX10_passNumber 74 = .ok (.putfield 68, 3) := by decide +kernel
theorem dX10_passNumber_77 : decode cX10_passNumber 77 = .ok (.aload_n 0, 1) := by decide +kernel
theorem dX10_passNumber_78 : decode cX10_passNumber 78 = .ok (.dup, 1) := by decide +kernel
theorem dX10_passNumber_79 : decode cX10_passNumber 79 = .ok (.getfield 25, 3) := by decide +kernel
theorem dX10_passNumber_82 : decode cX10_passNumber 82 = .ok (.iconst 1, 1) := by decide +kernel
theorem dX10_passNumber_83 : decode cX10_passNumber 83 = .ok (.iadd, 1) := by decide +kernel
theorem dX10_passNumber_84 : decode cX10_passNumber 84 = .ok (.putfield 25, 3) := by decide +kernel
theorem dX10_passNumber_87 : decode cX10_passNumber 87 = .ok (.goto (-82), 3) := by decide +kernel
theorem dX10_passNumber_90 : decode cX10_passNumber 90 = .ok (.return_, 1) := by decide +kernel
theorem dX10_isWord_0 : decode cX10_isWord 0 = .ok (.aload_n 0, 1) := by decide +kernel
theorem dX10_isWord_1 : decode cX10_isWord 1 = .ok (.getfield 44, 3) := by decide +kernel
theorem dX10_isWord_4 : decode cX10_isWord 4 = .ok (.iconst 1, 1) := by decide +kernel
theorem dX10_isWord_5 : decode cX10_isWord 5 = .ok (.if_icmp .ne 19, 3) := by decide +kernel
theorem dX10_isWord_8 : decode cX10_isWord 8 = .ok (.aload_n 0, 1) := by decide +kernel
theorem dX10_isWord_9 : decode cX10_isWord 9 = .ok (.getfield 25, 3) := by decide +kernel
theorem dX10_isWord_12 : decode cX10_isWord 12 = .ok (.aload_n 0, 1) := by decide +kernel
theorem dX10_isWord_13 : decode cX10_isWord 13 = .ok (.getfield 51, 3) := by decide +kernel
theorem dX10_isWord_16 : decode cX10_isWord 16 = .ok (.isub, 1) := by decide +kernel
theorem dX10_isWord_17 : decode cX10_isWord 17 = .ok (.aload_n 1, 1) := by decide +kernel
theorem dX10_isWord_18 : decode cX10_isWord 18 = .ok (.invokevirtual 183, 3) := by decide +kernel
theorem dX10_isWord_21 : decode cX10_isWord 21 = .ok (.if_icmp .eq 5, 3) := by decide +kernel
theorem dX10_isWord_24 : decode cX10_isWord 24 = .ok (.iconst 0, 1) := by decide +kernel
theorem dX10_isWord_25 : decode cX10_isWord 25 = .ok (.ireturn, 1) := by decide +kernel
theorem dX10_isWord_26 : decode cX10_isWord 26 = .ok (.iconst 0, 1) := by decide +kernel
theorem dX10_isWord_27 : decode cX10_isWord 27 = .ok (.istore_n 2, 1) := by decide +kernel
theorem dX10_isWord_28 : decode cX10_isWord 28 = .ok (.iload_n 2, 1) := by decide +kernel
theorem dX10_isWord_29 : decode cX10_isWord 29 = .ok (.aload_n 1, 1) := by decide +kernel
theorem dX10_isWord_30 : decode cX10_isWord 30 = .ok (.invokevirtual 183, 3) := by decide +kernel
theorem dX10_isWord_33 : decode cX10_isWord 33 = .ok (.if_icmp .ge 30, 3) := by decide +kernel
theorem dX10_isWord_36 : decode cX10_isWord 36 = .ok (.aload_n 0, 1) := by decide +kernel
theorem dX10_isWord_37 : decode cX10_isWord 37 = .ok (.getfield 9, 3) := by decide +kernel
theorem dX10_isWord_40 : decode cX10_isWord 40 = .ok (.aload_n 0, 1) := by decide +kernel
theorem dX10_isWord_41 : decode cX10_isWord 41 = .ok (.getfield 51, 3) := by decide +kernel
theorem dX10_isWord_44 : decode cX10_isWord 44 = .ok (.iload_n 2, 1) := by decide +kernel
theorem dX10_isWord_45 : decode cX10_isWord 45 = .ok (.iadd, 1) := by decide +kernel
theorem dX10_isWord_46 : decode cX10_isWord 46 = .ok (.baload, 1) := by decide +kernel
theorem dX10_isWord_47 : decode cX10_isWord 47 = .ok (.aload_n 1, 1) := by decide +kernel
theorem dX10_isWord_48 : decode cX10_isWord 48 = .ok (.iload_n 2, 1) := by decide +kernel
theorem dX10_isWord_49 : decode cX10_isWord 49 = .ok (.invokevirtual 188, 3) := by decide +kernel
theorem dX10_isWord_52 : decode cX10_isWord 52 = .ok (.if_icmp .eq 5, 3) := by decide +kernel
theorem dX10_isWord_55 : decode cX10_isWord 55 = .ok (.iconst 0, 1) := by decide +kernel
theorem dX10_isWord_56 : decode cX10_isWord 56 = .ok (.ireturn, 1) := by decide +kernel
theorem dX10_isWord_57 : decode cX10_isWord 57 = .ok (.iinc 2 1, 3) := by decide +kernel
theorem dX10_isWord_60 : decode cX10_isWord 60 = .ok (.goto (-32), 3) := by decide +kernel
theorem dX10_isWord_63 : decode cX10_isWord 63 = .ok (.iconst 1, 1) := by decide +kernel
theorem dX10_isWord_64 : decode cX10_isWord 64 = .ok (.ireturn, 1) := by decide +kernel
theorem dJ6_bitCount_0f7a4_0 : decode cJ6_bitCount_0f7a4 0 = .ok (.iload_n 0, 1) := by decide +kernel
theorem dJ6_bitCount_0f7a4_1 : decode cJ6_bitCount_0f7a4 1 = .ok (.iload_n 0, 1) := by decide +kernel
theorem dJ6_bitCount_0f7a4_2 : decode cJ6_bitCount_0f7a4 2 = .ok (.iconst 1, 1) := by decide +kernel
theorem dJ6_bitCount_0f7a4_3 : decode cJ6_bitCount_0f7a4 3 = .ok (.iushr, 1) := by decide +kernel
theorem dJ6_bitCount_0f7a4_4 : decode cJ6_bitCount_0f7a4 4 = .ok (.ldc_w 265, 3) := by decide +kernel
theorem dJ6_bitCount_0f7a4_7 : decode cJ6_bitCount_0f7a4 7 = .ok (.iand, 1) := by decide +kernel
theorem dJ6_bitCount_0f7a4_8 : decode cJ6_bitCount_0f7a4 8 = .ok (.isub, 1) := by decide +kernel
theorem dJ6_bitCount_0f7a4_9 : decode cJ6_bitCount_0f7a4 9 = .ok (.istore_n 0, 1) := by decide +kernel
theorem dJ6_bitCount_0f7a4_10 : decode cJ6_bitCount_0f7a4 10 = .ok (.iload_n 0, 1) := by decide +kernel
theorem dJ6_bitCount_0f7a4_11 : decode cJ6_bitCount_0f7a4 11 = .ok (.ldc_w 266, 3) := by decide +kernel
theorem dJ6_bitCount_0f7a4_14 : decode cJ6_bitCount_0f7a4 14 = .ok (.iand, 1) := by decide +kernel
theorem dJ6_bitCount_0f7a4_15 : decode cJ6_bitCount_0f7a4 15 = .ok (.iload_n 0, 1) := by decide +kernel
theorem dJ6_bitCount_0f7a4_16 : decode cJ6_bitCount_0f7a4 16 = .ok (.iconst 2, 1) := by decide +kernel
theorem dJ6_bitCount_0f7a4_17 : decode cJ6_bitCount_0f7a4 17 = .ok (.iushr, 1) := by decide +kernel
theorem dJ6_bitCount_0f7a4_18 : decode cJ6_bitCount_0f7a4 18 = .ok (.ldc_w 266, 3) := by decide +kernel
theorem dJ6_bitCount_0f7a4_21 : decode cJ6_bitCount_0f7a4 21 = .ok (.iand, 1) := by decide +kernel
theorem dJ6_bitCount_0f7a4_22 : decode cJ6_bitCount_0f7a4 22 = .ok (.iadd, 1) := by decide +kernel
theorem dJ6_bitCount_0f7a4_23 : decode cJ6_bitCount_0f7a4 23 = .ok (.istore_n 0, 1) := by decide +kernel
theorem dJ6_bitCount_0f7a4_24 : decode cJ6_bitCount_0f7a4 24 = .ok (.iload_n 0, 1) := by decide +kernel
theorem dJ6_bitCount_0f7a4_25 : decode cJ6_bitCount_0f7a4 25 = .ok (.iload_n 0, 1) := by decide +kernel
theorem dJ6_bitCount_0f7a4_26 : decode cJ6_bitCount_0f7a4 26 = .ok (.iconst 4, 1) := by decide +kernel
theorem dJ6_bitCount_0f7a4_27 : decode cJ6_bitCount_0f7a4 27 = .ok (.iushr, 1) := by decide +kernel
theorem dJ6_bitCount_0f7a4_28 : decode cJ6_bitCount_0f7a4 28 = .ok (.iadd, 1) := by decide +kernel
theorem dJ6_bitCount_0f7a4_29 : decode cJ6_bitCount_0f7a4 29 = .ok (.ldc_w 267, 3) := by decide +kernel
theorem dJ6_bitCount_0f7a4_32 : decode cJ6_bitCount_0f7a4 32 = .ok (.iand, 1) := by decide +kernel
theorem dJ6_bitCount_0f7a4_33 : decode cJ6_bitCount_0f7a4 33 = .ok (.istore_n 0, 1) := by decide +kernel
theorem dJ6_bitCount_0f7a4_34 : decode cJ6_bitCount_0f7a4 34 = .ok (.iload_n 0, 1) := by decide +kernel
theorem dJ6_bitCount_0f7a4_35 : decode cJ6_bitCount_0f7a4 35 = .ok (.iload_n 0, 1) := by decide +kernel
theorem dJ6_bitCount_0f7a4_36 : decode cJ6_bitCount_0f7a4 36 = .ok (.bipush 8, 2) := by decide +kernel
theorem dJ6_bitCount_0f7a4_38 : decode cJ6_bitCount_0f7a4 38 = .ok (.iushr, 1) := by decide +kernel
theorem dJ6_bitCount_0f7a4_39 : decode cJ6_bitCount_0f7a4 39 = .ok (.iadd, 1) := by decide +kernel
theorem dJ6_bitCount_0f7a4_40 : decode cJ6_bitCount_0f7a4 40 = .ok (.istore_n 0, 1) := by decide +kernel
theorem dJ6_bitCount_0f7a4_41 : decode cJ6_bitCount_0f7a4 41 = .ok (.iload_n 0, 1) := by decide +kernel
theorem dJ6_bitCount_0f7a4_42 : decode cJ6_bitCount_0f7a4 42 = .ok (.iload_n 0, 1) := by decide +kernel
theorem dJ6_bitCount_0f7a4_43 : decode cJ6_bitCount_0f7a4 43 = .ok (.bipush 16, 2) := by decide +kernel
theorem dJ6_bitCount_0f7a4_45 : decode cJ6_bitCount_0f7a4 45 = .ok (.iushr, 1) := by decide +kernel
theorem dJ6_bitCount_0f7a4_46 : decode cJ6_bitCount_0f7a4 46 = .ok (.iadd, 1) := by decide +kernel
theorem dJ6_bitCount_0f7a4_47 : decode cJ6_bitCount_0f7a4 47 = .ok (.istore_n 0, 1) := by decide +kernel
theorem dJ6_bitCount_0f7a4_48 : decode cJ6_bitCount_0f7a4 48 = .ok (.iload_n 0, 1) := by decide +kernel
theorem dJ6_bitCount_0f7a4_49 : decode cJ6_bitCount_0f7a4 49 = .ok (.bipush 63, 2) := by decide +kernel
theorem dJ6_bitCount_0f7a4_51 : decode cJ6_bitCount_0f7a4 51 = .ok (.iand, 1) := by decide +kernel
theorem dJ6_bitCount_0f7a4_52 : decode cJ6_bitCount_0f7a4 52 = .ok (.ireturn, 1) := by decide +kernel
