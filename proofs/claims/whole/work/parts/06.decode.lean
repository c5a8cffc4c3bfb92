theorem dX0_init_0 : decode cX0_init 0 = .ok (.aload_n 0, 1) := by decide +kernel
theorem dX0_init_1 : decode cX0_init 1 = .ok (.invokespecial 1, 3) := by decide +kernel
theorem dX0_init_4 : decode cX0_init 4 = .ok (.aload_n 0, 1) := by decide +kernel
theorem dX0_init_5 : decode cX0_init 5 = .ok (.iload_n 1, 1) := by decide +kernel
theorem dX0_init_6 : decode cX0_init 6 = .ok (.iconst 1, 1) := by decide +kernel
theorem dX0_init_7 : decode cX0_init 7 = .ok (.if_icmp .lt 14, 3) := by decide +kernel
theorem dX0_init_10 : decode cX0_init 10 = .ok (.iload_n 1, 1) := by decide +kernel
theorem dX0_init_11 : decode cX0_init 11 = .ok (.sipush 512, 3) := by decide +kernel
theorem dX0_init_14 : decode cX0_init 14 = .ok (.if_icmp .gt 7, 3) := by decide +kernel
theorem dX0_init_17 : decode cX0_init 17 = .ok (.iload_n 1, 1) := by decide +kernel
theorem dX0_init_18 : decode cX0_init 18 = .ok (.goto 5, 3) := by decide +kernel
theorem dX0_init_21 : decode cX0_init 21 = .ok (.bipush 64, 2) := by decide +kernel
theorem dX0_init_23 : decode cX0_init 23 = .ok (.putfield 9, 3) := by decide +kernel
theorem dX0_init_26 : decode cX0_init 26 = .ok (.aload_n 0, 1) := by decide +kernel
theorem dX0_init_27 : decode cX0_init 27 = .ok (.iload_n 2, 1) := by decide +kernel
theorem dX0_init_28 : decode cX0_init 28 = .ok (.iconst 1, 1) := by decide +kernel
theorem dX0_init_29 : decode cX0_init 29 = .ok (.if_icmp .lt 14, 3) := by decide +kernel
theorem dX0_init_32 : decode cX0_init 32 = .ok (.iload_n 2, 1) := by decide +kernel
theorem dX0_init_33 : decode cX0_init 33 = .ok (.sipush 8192, 3) := by decide +kernel
theorem dX0_init_36 : decode cX0_init 36 = .ok (.if_icmp .gt 7, 3) := by decide +kernel
theorem dX0_init_39 : decode cX0_init 39 = .ok (.iload_n 2, 1) := by decide +kernel
theorem dX0_init_40 : decode cX0_init 40 = .ok (.goto 6, 3) := by decide +kernel
theorem dX0_init_43 : decode cX0_init 43 = .ok (.sipush 1024, 3) := by decide +kernel
theorem dX0_init_46 : decode cX0_init 46 = .ok (.putfield 13, 3) := by decide +kernel
theorem dX0_init_49 : decode cX0_init 49 = .ok (.aload_n 0, 1) := by decide +kernel
theorem dX0_init_50 : decode cX0_init 50 = .ok (.aload_n 0, 1) := by decide +kernel
theorem dX0_init_51 : decode cX0_init 51 = .ok (.getfield 9, 3) := by decide +kernel
theorem dX0_init_54 : decode cX0_init 54 = .ok (.newarray .long, 2) := by decide +kernel
theorem dX0_init_56 : decode cX0_init 56 = .ok (.putfield 16, 3) := by decide +kernel
theorem dX0_init_59 : decode cX0_init 59 = .ok (.aload_n 0, 1) := by decide +kernel
theorem dX0_init_60 : decode cX0_init 60 = .ok (.aload_n 0, 1) := by decide +kernel
theorem dX0_init_61 : decode cX0_init 61 = .ok (.getfield 9, 3) := by decide +kernel
theorem dX0_init_64 : decode cX0_init 64 = .ok (.iconst 1, 1) := by decide +kernel
theorem dX0_init_65 : decode cX0_init 65 = .ok (.iadd, 1) := by decide +kernel
theorem dX0_init_66 : decode cX0_init 66 = .ok (.newarray .int, 2) := by decide +kernel
theorem dX0_init_68 : decode cX0_init 68 = .ok (.putfield 20, 3) := by decide +kernel
theorem dX0_init_71 : decode cX0_init 71 = .ok (.aload_n 0, 1) := by decide +kernel
theorem dX0_init_72 : decode cX0_init 72 = .ok (.aload_n 0, 1) := by decide +kernel
theorem dX0_init_73 : decode cX0_init 73 = .ok (.getfield 9, 3) := by decide +kernel
theorem dX0_init_76 : decode cX0_init 76 = .ok (.newarray .int, 2) := by decide +kernel
theorem dX0_init_78 : decode cX0_init 78 = .ok (.putfield 24, 3) := by decide +kernel
theorem dX0_init_81 : decode cX0_init 81 = .ok (.aload_n 0, 1) := by decide +kernel
theorem dX0_init_82 : decode cX0_init 82 = .ok (.getfield 13, 3) := by decide +kernel
theorem dX0_init_85 : decode cX0_init 85 = .ok (.bipush 64, 2) := by decide +kernel
theorem dX0_init_87 : decode cX0_init 87 = .ok (.invokestatic 27, 3) := by decide +kernel
theorem dX0_init_90 : decode cX0_init 90 = .ok (.istore_n 3, 1) := by decide +kernel
theorem dX0_init_91 : decode cX0_init 91 = .ok (.aload_n 0, 1) := by decide +kernel
theorem dX0_init_92 : decode cX0_init 92 = .ok (.iload_n 3, 1) := by decide +kernel
theorem dX0_init_93 : decode cX0_init 93 = .ok (.newarray .long, 2) := by decide +kernel
theorem dX0_init_95 : decode cX0_init 95 = .ok (.putfield 33, 3) := by decide +kernel
theorem dX0_init_98 : decode cX0_init 98 = .ok (.aload_n 0, 1) := by decide +kernel
theorem dX0_init_99 : decode cX0_init 99 = .ok (.iload_n 3, 1) := by decide +kernel
theorem dX0_init_100 : decode cX0_init 100 = .ok (.newarray .long, 2) := by decide +kernel
theorem dX0_init_102 : decode cX0_init 102 = .ok (.putfield 36, 3) := by decide +kernel
theorem dX0_init_105 : decode cX0_init 105 = .ok (.aload_n 0, 1) := by decide +kernel
theorem dX0_init_106 : decode cX0_init 106 = .ok (.bipush 16, 2) := by decide +kernel
theorem dX0_init_108 : decode cX0_init 108 = .ok (.newarray .long, 2) := by decide +kernel
theorem dX0_init_110 : decode cX0_init 110 = .ok (.putfield 39, 3) := by decide +kernel
theorem dX0_init_113 : decode cX0_init 113 = .ok (.aload_n 0, 1) := by decide +kernel
theorem dX0_init_114 : decode cX0_init 114 = .ok (.bipush 16, 2) := by decide +kernel
theorem dX0_init_116 : decode cX0_init 116 = .ok (.newarray .long, 2) := by decide +kernel
theorem dX0_init_118 : decode cX0_init 118 = .ok (.putfield 42, 3) := by decide +kernel
theorem dX0_init_121 : decode cX0_init 121 = .ok (.return_, 1) := by decide +kernel
theorem dX0_drop_0 : decode cX0_drop 0 = .ok (.aload_n 0, 1) := by decide +kernel
theorem dX0_drop_1 : decode cX0_drop 1 = .ok (.getfield 54, 3) := by decide +kernel
theorem dX0_drop_4 : decode cX0_drop 4 = .ok (.istore_n 1, 1) := by decide +kernel
theorem dX0_drop_5 : decode cX0_drop 5 = .ok (.aload_n 0, 1) := by decide +kernel
theorem dX0_drop_6 : decode cX0_drop 6 = .ok (.iconst 0, 1) := by decide +kernel
theorem dX0_drop_7 : decode cX0_drop 7 = .ok (.putfield 54, 3) := by decide +kernel
theorem dX0_drop_10 : decode cX0_drop 10 = .ok (.iload_n 1, 1) := by decide +kernel
theorem dX0_drop_11 : decode cX0_drop 11 = .ok (.ireturn, 1) := by decide +kernel
theorem dX0_active_0 : decode cX0_active 0 = .ok (.iload_n 1, 1) := by decide +kernel
theorem dX0_active_1 : decode cX0_active 1 = .ok (.ifCond .lt 20, 3) := by decide +kernel
theorem dX0_active_4 : decode cX0_active 4 = .ok (.iload_n 1, 1) := by decide +kernel
theorem dX0_active_5 : decode cX0_active 5 = .ok (.aload_n 0, 1) := by decide +kernel
theorem dX0_active_6 : decode cX0_active 6 = .ok (.getfield 112, 3) := by decide +kernel
theorem dX0_active_9 : decode cX0_active 9 = .ok (.if_icmp .ge 12, 3) := by decide +kernel
theorem dX0_active_12 : decode cX0_active 12 = .ok (.aload_n 0, 1) := by decide +kernel
theorem dX0_active_13 : decode cX0_active 13 = .ok (.getfield 24, 3) := by decide +kernel
theorem dX0_active_16 : decode cX0_active 16 = .ok (.iload_n 1, 1) := by decide +kernel
theorem dX0_active_17 : decode cX0_active 17 = .ok (.iaload, 1) := by decide +kernel
theorem dX0_active_18 : decode cX0_active 18 = .ok (.goto 4, 3) := by decide +kernel
theorem dX0_active_21 : decode cX0_active 21 = .ok (.iconst (-1), 1) := by decide +kernel
theorem dX0_active_22 : decode cX0_active 22 = .ok (.ireturn, 1) := by decide +kernel
theorem dX0_now_0 : decode cX0_now 0 = .ok (.aload_n 0, 1) := by decide +kernel
theorem dX0_now_1 : decode cX0_now 1 = .ok (.getfield 78, 3) := by decide +kernel
theorem dX0_now_4 : decode cX0_now 4 = .ok (.lreturn, 1) := by decide +kernel
theorem dX0_next_0 : decode cX0_next 0 = .ok (.ldc2_w 115, 3) := by decide +kernel
theorem dX0_next_3 : decode cX0_next 3 = .ok (.lstore_n 1, 1) := by decide +kernel
theorem dX0_next_4 : decode cX0_next 4 = .ok (.iconst 0, 1) := by decide +kernel
theorem dX0_next_5 : decode cX0_next 5 = .ok (.istore_n 3, 1) := by decide +kernel
theorem dX0_next_6 : decode cX0_next 6 = .ok (.iload_n 3, 1) := by decide +kernel
theorem dX0_next_7 : decode cX0_next 7 = .ok (.aload_n 0, 1) := by decide +kernel
theorem dX0_next_8 : decode cX0_next 8 = .ok (.getfield 9, 3) := by decide +kernel
theorem dX0_next_11 : decode cX0_next 11 = .ok (.if_icmp .ge 50, 3) := by decide +kernel
theorem dX0_next_14 : decode cX0_next 14 = .ok (.aload_n 0, 1) := by decide +kernel
theorem dX0_next_15 : decode cX0_next 15 = .ok (.iload_n 3, 1) := by decide +kernel
theorem dX0_next_16 : decode cX0_next 16 = .ok (.invokevirtual 106, 3) := by decide +kernel
theorem dX0_next_19 : decode cX0_next 19 = .ok (.ifCond .le 36, 3) := by decide +kernel
theorem dX0_next_22 : decode cX0_next 22 = .ok (.aload_n 0, 1) := by decide +kernel
theorem dX0_next_23 : decode cX0_next 23 = .ok (.getfield 33, 3) := by decide +kernel
theorem dX0_next_26 : decode cX0_next 26 = .ok (.aload_n 0, 1) := by decide +kernel
theorem dX0_next_27 : decode cX0_next 27 = .ok (.getfield 20, 3) := by decide +kernel
theorem dX0_next_30 : decode cX0_next 30 = .ok (.iload_n 3, 1) := by decide +kernel
theorem dX0_next_31 : decode cX0_next 31 = .ok (.iaload, 1) := by decide +kernel
theorem dX0_next_32 : decode cX0_next 32 = .ok (.laload, 1) := by decide +kernel
theorem dX0_next_33 : decode cX0_next 33 = .ok (.lstore 4, 2) := by decide +kernel
theorem dX0_next_35 : decode cX0_next 35 = .ok (.lload_n 1, 1) := by decide +kernel
theorem dX0_next_36 : decode cX0_next 36 = .ok (.ldc2_w 115, 3) := by decide +kernel
theorem dX0_next_39 : decode cX0_next 39 = .ok (.lcmp, 1) := by decide +kernel
theorem dX0_next_40 : decode cX0_next 40 = .ok (.ifCond .ne 8, 3) := by decide +kernel
theorem dX0_next_43 : decode cX0_next 43 = .ok (.lload 4, 2) := by decide +kernel
theorem dX0_next_45 : decode cX0_next 45 = .ok (.goto 9, 3) := by decide +kernel
theorem dX0_next_48 : decode cX0_next 48 = .ok (.lload_n 1, 1) := by decide +kernel
theorem dX0_next_49 : decode cX0_next 49 = .ok (.lload 4, 2) := by decide +kernel
theorem dX0_next_51 : decode cX0_next 51 = .ok (.invokestatic 117, 3) := by decide +kernel
theorem dX0_next_54 : decode cX0_next 54 = .ok (.lstore_n 1, 1) := by decide +kernel
theorem dX0_next_55 : decode cX0_next 55 = .ok (.iinc 3 1, 3) := by decide +kernel
theorem dX0_next_58 : decode cX0_next 58 = .ok (.goto (-52), 3) := by decide +kernel
theorem dX0_next_61 : decode cX0_next 61 = .ok (.lload_n 1, 1) := by decide +kernel
theorem dX0_next_62 : decode cX0_next 62 = .ok (.lreturn, 1) := by decide +kernel
theorem dX0_rowLength_0 : decode cX0_rowLength 0 = .ok (.aload_n 0, 1) := by decide +kernel
theorem dX0_rowLength_1 : decode cX0_rowLength 1 = .ok (.getfield 20, 3) := by decide +kernel
theorem dX0_rowLength_4 : decode cX0_rowLength 4 = .ok (.iload_n 1, 1) := by decide +kernel
theorem dX0_rowLength_5 : decode cX0_rowLength 5 = .ok (.iconst 1, 1) := by decide +kernel
theorem dX0_rowLength_6 : decode cX0_rowLength 6 = .ok (.iadd, 1) := by decide +kernel
theorem dX0_rowLength_7 : decode cX0_rowLength 7 = .ok (.iaload, 1) := by decide +kernel
theorem dX0_rowLength_8 : decode cX0_rowLength 8 = .ok (.aload_n 0, 1) := by decide +kernel
theorem dX0_rowLength_9 : decode cX0_rowLength 9 = .ok (.getfield 20, 3) := by decide +kernel
theorem dX0_rowLength_12 : decode cX0_rowLength 12 = .ok (.iload_n 1, 1) := by decide +kernel
theorem dX0_rowLength_13 : decode cX0_rowLength 13 = .ok (.iaload, 1) := by decide +kernel
theorem dX0_rowLength_14 : decode cX0_rowLength 14 = .ok (.isub, 1) := by decide +kernel
theorem dX0_rowLength_15 : decode cX0_rowLength 15 = .ok (.ireturn, 1) := by decide +kernel
theorem dX0_total_0 : decode cX0_total 0 = .ok (.aload_n 0, 1) := by decide +kernel
theorem dX0_total_1 : decode cX0_total 1 = .ok (.getfield 20, 3) := by decide +kernel
theorem dX0_total_4 : decode cX0_total 4 = .ok (.aload_n 0, 1) := by decide +kernel
theorem dX0_total_5 : decode cX0_total 5 = .ok (.getfield 9, 3) := by decide +kernel
theorem dX0_total_8 : decode cX0_total 8 = .ok (.iaload, 1) := by decide +kernel
theorem dX0_total_9 : decode cX0_total 9 = .ok (.ireturn, 1) := by decide +kernel
theorem dL_cell_0 : decode cL_cell 0 = .ok (.iload_n 1, 1) := by decide +kernel
theorem dL_cell_1 : decode cL_cell 1 = .ok (.aload_n 0, 1) := by decide +kernel
theorem dL_cell_2 : decode cL_cell 2 = .ok (.arraylength, 1) := by decide +kernel
theorem dL_cell_3 : decode cL_cell 3 = .ok (.if_icmp .ge 9, 3) := by decide +kernel
theorem dL_cell_6 : decode cL_cell 6 = .ok (.aload_n 0, 1) := by decide +kernel
theorem dL_cell_7 : decode cL_cell 7 = .ok (.iload_n 1, 1) := by decide +kernel
theorem dL_cell_8 : decode cL_cell 8 = .ok (.iaload, 1) := by decide +kernel
theorem dL_cell_9 : decode cL_cell 9 = .ok (.goto 4, 3) := by decide +kernel
theorem dL_cell_12 : decode cL_cell 12 = .ok (.iconst 0, 1) := by decide +kernel
theorem dL_cell_13 : decode cL_cell 13 = .ok (.ireturn, 1) := by decide +kernel
theorem dL_element_0 : decode cL_element 0 = .ok (.aload_n 0, 1) := by decide +kernel
theorem dL_element_1 : decode cL_element 1 = .ok (.lload_n 1, 1) := by decide +kernel
theorem dL_element_2 : decode cL_element 2 = .ok (.lload_n 3, 1) := by decide +kernel
theorem dL_element_3 : decode cL_element 3 = .ok (.invokevirtual 7, 3) := by decide +kernel
theorem dL_element_6 : decode cL_element 6 = .ok (.goto 11, 3) := by decide +kernel
theorem dL_element_9 : decode cL_element 9 = .ok (.astore 5, 2) := by decide +kernel
theorem dL_element_11 : decode cL_element 11 = .ok (.iconst 1, 1) := by decide +kernel
theorem dL_element_12 : decode cL_element 12 = .ok (.ireturn, 1) := by decide +kernel
theorem dL_element_13 : decode cL_element 13 = .ok (.astore 5, 2) := by decide +kernel
theorem dL_element_15 : decode cL_element 15 = .ok (.iconst 2, 1) := by decide +kernel
theorem dL_element_16 : decode cL_element 16 = .ok (.ireturn, 1) := by decide +kernel
theorem dL_element_17 : decode cL_element 17 = .ok (.iconst 0, 1) := by decide +kernel
theorem dL_element_18 : decode cL_element 18 = .ok (.ireturn, 1) := by decide +kernel
theorem dX0_element_0 : decode cX0_element 0 = .ok (.lload_n 3, 1) := by decide +kernel
theorem dX0_element_1 : decode cX0_element 1 = .ok (.lconst 0, 1) := by decide +kernel
theorem dX0_element_2 : decode cX0_element 2 = .ok (.lcmp, 1) := by decide +kernel
theorem dX0_element_3 : decode cX0_element 3 = .ok (.ifCond .lt 11, 3) := by decide +kernel
theorem dX0_element_6 : decode cX0_element 6 = .ok (.lload_n 3, 1) := by decide +kernel
theorem dX0_element_7 : decode cX0_element 7 = .ok (.ldc2_w 45, 3) := by decide +kernel
theorem dX0_element_10 : decode cX0_element 10 = .ok (.lcmp, 1) := by decide +kernel
theorem dX0_element_11 : decode cX0_element 11 = .ok (.ifCond .le 13, 3) := by decide +kernel
theorem dX0_element_14 : decode cX0_element 14 = .ok (.new 47, 3) := by decide +kernel
theorem dX0_element_17 : decode cX0_element 17 = .ok (.dup, 1) := by decide +kernel
theorem dX0_element_18 : decode cX0_element 18 = .ok (.ldc 49, 2) := by decide +kernel
theorem dX0_element_20 : decode cX0_element 20 = .ok (.invokespecial 51, 3) := by decide +kernel
theorem dX0_element_23 : decode cX0_element 23 = .ok (.athrow, 1) := by decide +kernel
theorem dX0_element_24 : decode cX0_element 24 = .ok (.aload_n 0, 1) := by decide +kernel
theorem dX0_element_25 : decode cX0_element 25 = .ok (.getfield 54, 3) := by decide +kernel
theorem dX0_element_28 : decode cX0_element 28 = .ok (.bipush 16, 2) := by decide +kernel
theorem dX0_element_30 : decode cX0_element 30 = .ok (.if_icmp .lt 13, 3) := by decide +kernel
theorem dX0_element_33 : decode cX0_element 33 = .ok (.new 57, 3) := by decide +kernel
theorem dX0_element_36 : decode cX0_element 36 = .ok (.dup, 1) := by decide +kernel
theorem dX0_element_37 : decode cX0_element 37 = .ok (.ldc 59, 2) := by decide +kernel
theorem dX0_element_39 : decode cX0_element 39 = .ok (.invokespecial 61, 3) := by decide +kernel
theorem dX0_element_42 : decode cX0_element 42 = .ok (.athrow, 1) := by decide +kernel
theorem dX0_element_43 : decode cX0_element 43 = .ok (.aload_n 0, 1) := by decide +kernel
theorem dX0_element_44 : decode cX0_element 44 = .ok (.getfield 39, 3) := by decide +kernel
theorem dX0_element_47 : decode cX0_element 47 = .ok (.aload_n 0, 1) := by decide +kernel
theorem dX0_element_48 : decode cX0_element 48 = .ok (.getfield 54, 3) := by decide +kernel
theorem dX0_element_51 : decode cX0_element 51 = .ok (.lload_n 1, 1) := by decide +kernel
theorem dX0_element_52 : decode cX0_element 52 = .ok (.lastore, 1) := by decide +kernel
theorem dX0_element_53 : decode cX0_element 53 = .ok (.aload_n 0, 1) := by decide +kernel
theorem dX0_element_54 : decode cX0_element 54 = .ok (.getfield 42, 3) := by decide +kernel
theorem dX0_element_57 : decode cX0_element 57 = .ok (.aload_n 0, 1) := by decide +kernel
theorem dX0_element_58 : decode cX0_element 58 = .ok (.getfield 54, 3) := by decide +kernel
theorem dX0_element_61 : decode cX0_element 61 = .ok (.lload_n 3, 1) := by decide +kernel
theorem dX0_element_62 : decode cX0_element 62 = .ok (.lastore, 1) := by decide +kernel
theorem dX0_element_63 : decode cX0_element 63 = .ok (.aload_n 0, 1) := by decide +kernel
theorem dX0_element_64 : decode cX0_element 64 = .ok (.dup, 1) := by decide +kernel
theorem dX0_element_65 : decode cX0_element 65 = .ok (.getfield 54, 3) := by decide +kernel
theorem dX0_element_68 : decode cX0_element 68 = .ok (.iconst 1, 1) := by decide +kernel
theorem dX0_element_69 : decode cX0_element 69 = .ok (.iadd, 1) := by decide +kernel
theorem dX0_element_70 : decode cX0_element 70 = .ok (.putfield 54, 3) := by decide +kernel
theorem dX0_element_73 : decode cX0_element 73 = .ok (.return_, 1) := by decide +kernel
theorem dL_assign_0 : decode cL_assign 0 = .ok (.aload 5, 2) := by decide +kernel
theorem dL_assign_2 : decode cL_assign 2 = .ok (.iconst 0, 1) := by decide +kernel
theorem dL_assign_3 : decode cL_assign 3 = .ok (.aload_n 0, 1) := by decide +kernel
theorem dL_assign_4 : decode cL_assign 4 = .ok (.iload_n 1, 1) := by decide +kernel
theorem dL_assign_5 : decode cL_assign 5 = .ok (.iload_n 2, 1) := by decide +kernel
theorem dL_assign_6 : decode cL_assign 6 = .ok (.lload_n 3, 1) := by decide +kernel
theorem dL_assign_7 : decode cL_assign 7 = .ok (.invokevirtual 17, 3) := by decide +kernel
theorem dL_assign_10 : decode cL_assign 10 = .ok (.i2l, 1) := by decide +kernel
theorem dL_assign_11 : decode cL_assign 11 = .ok (.lastore, 1) := by decide +kernel
theorem dL_assign_12 : decode cL_assign 12 = .ok (.goto 15, 3) := by decide +kernel
theorem dL_assign_15 : decode cL_assign 15 = .ok (.astore 6, 2) := by decide +kernel
theorem dL_assign_17 : decode cL_assign 17 = .ok (.iconst 1, 1) := by decide +kernel
theorem dL_assign_18 : decode cL_assign 18 = .ok (.ireturn, 1) := by decide +kernel
theorem dL_assign_19 : decode cL_assign 19 = .ok (.astore 6, 2) := by decide +kernel
theorem dL_assign_21 : decode cL_assign 21 = .ok (.iconst 2, 1) := by decide +kernel
theorem dL_assign_22 : decode cL_assign 22 = .ok (.ireturn, 1) := by decide +kernel
theorem dL_assign_23 : decode cL_assign 23 = .ok (.astore 6, 2) := by decide +kernel
theorem dL_assign_25 : decode cL_assign 25 = .ok (.iconst 3, 1) := by decide +kernel
theorem dL_assign_26 : decode cL_assign 26 = .ok (.ireturn, 1) := by decide +kernel
theorem dL_assign_27 : decode cL_assign 27 = .ok (.iconst 0, 1) := by decide +kernel
theorem dL_assign_28 : decode cL_assign 28 = .ok (.ireturn, 1) := by decide +kernel
theorem dX0_assign_0 : decode cX0_assign 0 = .ok (.aload_n 0, 1) := by decide +kernel
theorem dX0_assign_1 : decode cX0_assign 1 = .ok (.iload_n 1, 1) := by decide +kernel
theorem dX0_assign_2 : decode cX0_assign 2 = .ok (.invokevirtual 62, 3) := by decide +kernel
theorem dX0_assign_5 : decode cX0_assign 5 = .ok (.aload_n 0, 1) := by decide +kernel
theorem dX0_assign_6 : decode cX0_assign 6 = .ok (.getfield 54, 3) := by decide +kernel
theorem dX0_assign_9 : decode cX0_assign 9 = .ok (.ifCond .ne 13, 3) := by decide +kernel
theorem dX0_assign_12 : decode cX0_assign 12 = .ok (.new 57, 3) := by decide +kernel
theorem dX0_assign_15 : decode cX0_assign 15 = .ok (.dup, 1) := by decide +kernel
theorem dX0_assign_16 : decode cX0_assign 16 = .ok (.ldc 66, 2) := by decide +kernel
theorem dX0_assign_18 : decode cX0_assign 18 = .ok (.invokespecial 61, 3) := by decide +kernel
theorem dX0_assign_21 : decode cX0_assign 21 = .ok (.athrow, 1) := by decide +kernel
theorem dX0_assign_22 : decode cX0_assign 22 = .ok (.aload_n 0, 1) := by decide +kernel
theorem dX0_assign_23 : decode cX0_assign 23 = .ok (.iload_n 2, 1) := by decide +kernel
theorem dX0_assign_24 : decode cX0_assign 24 = .ok (.lload_n 3, 1) := by decide +kernel
theorem dX0_assign_25 : decode cX0_assign 25 = .ok (.invokevirtual 68, 3) := by decide +kernel
theorem dX0_assign_28 : decode cX0_assign 28 = .ok (.ifCond .eq 10, 3) := by decide +kernel
theorem dX0_assign_31 : decode cX0_assign 31 = .ok (.aload_n 0, 1) := by decide +kernel
theorem dX0_assign_32 : decode cX0_assign 32 = .ok (.invokevirtual 72, 3) := by decide +kernel
theorem dX0_assign_35 : decode cX0_assign 35 = .ok (.ifCond .ne 13, 3) := by decide +kernel
theorem dX0_assign_38 : decode cX0_assign 38 = .ok (.new 47, 3) := by decide +kernel
theorem dX0_assign_41 : decode cX0_assign 41 = .ok (.dup, 1) := by decide +kernel
theorem dX0_assign_42 : decode cX0_assign 42 = .ok (.ldc 76, 2) := by decide +kernel
theorem dX0_assign_44 : decode cX0_assign 44 = .ok (.invokespecial 51, 3) := by decide +kernel
theorem dX0_assign_47 : decode cX0_assign 47 = .ok (.athrow, 1) := by decide +kernel
theorem dX0_assign_48 : decode cX0_assign 48 = .ok (.aload_n 0, 1) := by decide +kernel
theorem dX0_assign_49 : decode cX0_assign 49 = .ok (.getfield 78, 3) := by decide +kernel
theorem dX0_assign_52 : decode cX0_assign 52 = .ok (.aload_n 0, 1) := by decide +kernel
theorem dX0_assign_53 : decode cX0_assign 53 = .ok (.getfield 42, 3) := by decide +kernel
theorem dX0_assign_56 : decode cX0_assign 56 = .ok (.iconst 0, 1) := by decide +kernel
theorem dX0_assign_57 : decode cX0_assign 57 = .ok (.laload, 1) := by decide +kernel
theorem dX0_assign_58 : decode cX0_assign 58 = .ok (.ladd, 1) := by decide +kernel
theorem dX0_assign_59 : decode cX0_assign 59 = .ok (.lstore 5, 2) := by decide +kernel
theorem dX0_assign_61 : decode cX0_assign 61 = .ok (.aload_n 0, 1) := by decide +kernel
theorem dX0_assign_62 : decode cX0_assign 62 = .ok (.getfield 20, 3) := by decide +kernel
theorem dX0_assign_65 : decode cX0_assign 65 = .ok (.iload_n 1, 1) := by decide +kernel
theorem dX0_assign_66 : decode cX0_assign 66 = .ok (.iaload, 1) := by decide +kernel
theorem dX0_assign_67 : decode cX0_assign 67 = .ok (.istore 7, 2) := by decide +kernel
theorem dX0_assign_69 : decode cX0_assign 69 = .ok (.aload_n 0, 1) := by decide +kernel
theorem dX0_assign_70 : decode cX0_assign 70 = .ok (.getfield 20, 3) := by decide +kernel
theorem dX0_assign_73 : decode cX0_assign 73 = .ok (.iload_n 1, 1) := by decide +kernel
theorem dX0_assign_74 : decode cX0_assign 74 = .ok (.iconst 1, 1) := by decide +kernel
theorem dX0_assign_75 : decode cX0_assign 75 = .ok (.iadd, 1) := by decide +kernel
theorem dX0_assign_76 : decode cX0_assign 76 = .ok (.iaload, 1) := by decide +kernel
theorem dX0_assign_77 : decode cX0_assign 77 = .ok (.istore 8, 2) := by decide +kernel
theorem dX0_assign_79 : decode cX0_assign 79 = .ok (.aload_n 0, 1) := by decide +kernel
theorem dX0_assign_80 : decode cX0_assign 80 = .ok (.iload 7, 2) := by decide +kernel
theorem dX0_assign_82 : decode cX0_assign 82 = .ok (.iload 8, 2) := by decide +kernel
theorem dX0_assign_84 : decode cX0_assign 84 = .ok (.lload 5, 2) := by decide +kernel
theorem dX0_assign_86 : decode cX0_assign 86 = .ok (.lconst 1, 1) := by decide +kernel
theorem dX0_assign_87 : decode cX0_assign 87 = .ok (.lsub, 1) := by decide +kernel
theorem dX0_assign_88 : decode cX0_assign 88 = .ok (.invokevirtual 82, 3) := by decide +kernel
theorem dX0_assign_91 : decode cX0_assign 91 = .ok (.istore 9, 2) := by decide +kernel
theorem dX0_assign_93 : decode cX0_assign 93 = .ok (.aload_n 0, 1) := by decide +kernel
theorem dX0_assign_94 : decode cX0_assign 94 = .ok (.iload 7, 2) := by decide +kernel
theorem dX0_assign_96 : decode cX0_assign 96 = .ok (.iload 9, 2) := by decide +kernel
theorem dX0_assign_98 : decode cX0_assign 98 = .ok (.lload 5, 2) := by decide +kernel
theorem dX0_assign_100 : decode cX0_assign 100 = .ok (.aload_n 0, 1) := by decide +kernel
theorem dX0_assign_101 : decode cX0_assign 101 = .ok (.iload_n 2, 1) := by decide +kernel
theorem dX0_assign_102 : decode cX0_assign 102 = .ok (.lload_n 3, 1) := by decide +kernel
theorem dX0_assign_103 : decode cX0_assign 103 = .ok (.invokevirtual 86, 3) := by decide +kernel
theorem dX0_assign_106 : decode cX0_assign 106 = .ok (.lsub, 1) := by decide +kernel
theorem dX0_assign_107 : decode cX0_assign 107 = .ok (.lconst 1, 1) := by decide +kernel
theorem dX0_assign_108 : decode cX0_assign 108 = .ok (.lsub, 1) := by decide +kernel
theorem dX0_assign_109 : decode cX0_assign 109 = .ok (.invokevirtual 82, 3) := by decide +kernel
theorem dX0_assign_112 : decode cX0_assign 112 = .ok (.istore 10, 2) := by decide +kernel
theorem dX0_assign_114 : decode cX0_assign 114 = .ok (.aload_n 0, 1) := by decide +kernel
theorem dX0_assign_115 : decode cX0_assign 115 = .ok (.iload 10, 2) := by decide +kernel
theorem dX0_assign_117 : decode cX0_assign 117 = .ok (.iload 9, 2) := by decide +kernel
theorem dX0_assign_119 : decode cX0_assign 119 = .ok (.aload_n 0, 1) := by decide +kernel
theorem dX0_assign_120 : decode cX0_assign 120 = .ok (.getfield 39, 3) := by decide +kernel
theorem dX0_assign_123 : decode cX0_assign 123 = .ok (.iconst 0, 1) := by decide +kernel
theorem dX0_assign_124 : decode cX0_assign 124 = .ok (.laload, 1) := by decide +kernel
theorem dX0_assign_125 : decode cX0_assign 125 = .ok (.invokevirtual 90, 3) := by decide +kernel
theorem dX0_assign_128 : decode cX0_assign 128 = .ok (.istore 11, 2) := by decide +kernel
theorem dX0_assign_130 : decode cX0_assign 130 = .ok (.iload 11, 2) := by decide +kernel
theorem dX0_assign_132 : decode cX0_assign 132 = .ok (.iload 10, 2) := by decide +kernel
theorem dX0_assign_134 : decode cX0_assign 134 = .ok (.isub, 1) := by decide +kernel
theorem dX0_assign_135 : decode cX0_assign 135 = .ok (.iload 8, 2) := by decide +kernel
theorem dX0_assign_137 : decode cX0_assign 137 = .ok (.iload 9, 2) := by decide +kernel
theorem dX0_assign_139 : decode cX0_assign 139 = .ok (.isub, 1) := by decide +kernel
theorem dX0_assign_140 : decode cX0_assign 140 = .ok (.iadd, 1) := by decide +kernel
theorem dX0_assign_141 : decode cX0_assign 141 = .ok (.istore 12, 2) := by decide +kernel
theorem dX0_assign_143 : decode cX0_assign 143 = .ok (.aload_n 0, 1) := by decide +kernel
theorem dX0_assign_144 : decode cX0_assign 144 = .ok (.getfield 20, 3) := by decide +kernel
theorem dX0_assign_147 : decode cX0_assign 147 = .ok (.aload_n 0, 1) := by decide +kernel
theorem dX0_assign_148 : decode cX0_assign 148 = .ok (.getfield 9, 3) := by decide +kernel
theorem dX0_assign_151 : decode cX0_assign 151 = .ok (.iaload, 1) := by decide +kernel
theorem dX0_assign_152 : decode cX0_assign 152 = .ok (.iload 12, 2) := by decide +kernel
theorem dX0_assign_154 : decode cX0_assign 154 = .ok (.isub, 1) := by decide +kernel
theorem dX0_assign_155 : decode cX0_assign 155 = .ok (.aload_n 0, 1) := by decide +kernel
theorem dX0_assign_156 : decode cX0_assign 156 = .ok (.getfield 54, 3) := by decide +kernel
theorem dX0_assign_159 : decode cX0_assign 159 = .ok (.iadd, 1) := by decide +kernel
theorem dX0_assign_160 : decode cX0_assign 160 = .ok (.aload_n 0, 1) := by decide +kernel
theorem dX0_assign_161 : decode cX0_assign 161 = .ok (.getfield 13, 3) := by decide +kernel
theorem dX0_assign_164 : decode cX0_assign 164 = .ok (.if_icmp .le 13, 3) := by decide +kernel
theorem dX0_assign_167 : decode cX0_assign 167 = .ok (.new 57, 3) := by decide +kernel
theorem dX0_assign_170 : decode cX0_assign 170 = .ok (.dup, 1) := by decide +kernel
theorem dX0_assign_171 : decode cX0_assign 171 = .ok (.ldc 93, 2) := by decide +kernel
theorem dX0_assign_173 : decode cX0_assign 173 = .ok (.invokespecial 61, 3) := by decide +kernel
theorem dX0_assign_176 : decode cX0_assign 176 = .ok (.athrow, 1) := by decide +kernel
theorem dX0_assign_177 : decode cX0_assign 177 = .ok (.iload 10, 2) := by decide +kernel
theorem dX0_assign_179 : decode cX0_assign 179 = .ok (.iload 9, 2) := by decide +kernel
theorem dX0_assign_181 : decode cX0_assign 181 = .ok (.iadd, 1) := by decide +kernel
theorem dX0_assign_182 : decode cX0_assign 182 = .ok (.iload 11, 2) := by decide +kernel
theorem dX0_assign_184 : decode cX0_assign 184 = .ok (.isub, 1) := by decide +kernel
theorem dX0_assign_185 : decode cX0_assign 185 = .ok (.istore 13, 2) := by decide +kernel
theorem dX0_assign_187 : decode cX0_assign 187 = .ok (.aload_n 0, 1) := by decide +kernel
theorem dX0_assign_188 : decode cX0_assign 188 = .ok (.iload 11, 2) := by decide +kernel
theorem dX0_assign_190 : decode cX0_assign 190 = .ok (.iload 10, 2) := by decide +kernel
theorem dX0_assign_192 : decode cX0_assign 192 = .ok (.iload 9, 2) := by decide +kernel
theorem dX0_assign_194 : decode cX0_assign 194 = .ok (.iload 11, 2) := by decide +kernel
theorem dX0_assign_196 : decode cX0_assign 196 = .ok (.isub, 1) := by decide +kernel
theorem dX0_assign_197 : decode cX0_assign 197 = .ok (.invokevirtual 95, 3) := by decide +kernel
theorem dX0_assign_200 : decode cX0_assign 200 = .ok (.aload_n 0, 1) := by decide +kernel
theorem dX0_assign_201 : decode cX0_assign 201 = .ok (.iload_n 1, 1) := by decide +kernel
theorem dX0_assign_202 : decode cX0_assign 202 = .ok (.iload 13, 2) := by decide +kernel
theorem dX0_assign_204 : decode cX0_assign 204 = .ok (.aload_n 0, 1) := by decide +kernel
theorem dX0_assign_205 : decode cX0_assign 205 = .ok (.getfield 54, 3) := by decide +kernel
theorem dX0_assign_208 : decode cX0_assign 208 = .ok (.iadd, 1) := by decide +kernel
theorem dX0_assign_209 : decode cX0_assign 209 = .ok (.invokevirtual 99, 3) := by decide +kernel
theorem dX0_assign_212 : decode cX0_assign 212 = .ok (.aload_n 0, 1) := by decide +kernel
theorem dX0_assign_213 : decode cX0_assign 213 = .ok (.iload 13, 2) := by decide +kernel
theorem dX0_assign_215 : decode cX0_assign 215 = .ok (.invokevirtual 103, 3) := by decide +kernel
theorem dX0_assign_218 : decode cX0_assign 218 = .ok (.aload_n 0, 1) := by decide +kernel
theorem dX0_assign_219 : decode cX0_assign 219 = .ok (.iconst 0, 1) := by decide +kernel
theorem dX0_assign_220 : decode cX0_assign 220 = .ok (.putfield 54, 3) := by decide +kernel
theorem dX0_assign_223 : decode cX0_assign 223 = .ok (.iload 12, 2) := by decide +kernel
theorem dX0_assign_225 : decode cX0_assign 225 = .ok (.ireturn, 1) := by decide +kernel
theorem dX0_requireDriver_0 : decode cX0_requireDriver 0 = .ok (.iload_n 1, 1) := by decide +kernel
theorem dX0_requireDriver_1 : decode cX0_requireDriver 1 = .ok (.ifCond .lt 11, 3) := by decide +kernel
theorem dX0_requireDriver_4 : decode cX0_requireDriver 4 = .ok (.iload_n 1, 1) := by decide +kernel
theorem dX0_requireDriver_5 : decode cX0_requireDriver 5 = .ok (.aload_n 0, 1) := by decide +kernel
theorem dX0_requireDriver_6 : decode cX0_requireDriver 6 = .ok (.getfield 9, 3) := by decide +kernel
theorem dX0_requireDriver_9 : decode cX0_requireDriver 9 = .ok (.if_icmp .lt 13, 3) := by decide +kernel
theorem dX0_requireDriver_12 : decode cX0_requireDriver 12 = .ok (.new 120, 3) := by decide +kernel
theorem dX0_requireDriver_15 : decode cX0_requireDriver 15 = .ok (.dup, 1) := by decide +kernel
theorem dX0_requireDriver_16 : decode cX0_requireDriver 16 = .ok (.ldc 127, 2) := by decide +kernel
theorem dX0_requireDriver_18 : decode cX0_requireDriver 18 = .ok (.invokespecial 124, 3) := by decide +kernel
theorem dX0_requireDriver_21 : decode cX0_requireDriver 21 = .ok (.athrow, 1) := by decide +kernel
theorem dX0_requireDriver_22 : decode cX0_requireDriver 22 = .ok (.return_, 1) := by decide +kernel
theorem dX0_isLimitGood_0 : decode cX0_isLimitGood 0 = .ok (.iload_n 1, 1) := by decide +kernel
theorem dX0_isLimitGood_1 : decode cX0_isLimitGood 1 = .ok (.iconst 2, 1) := by decide +kernel
theorem dX0_isLimitGood_2 : decode cX0_isLimitGood 2 = .ok (.if_icmp .ne 26, 3) := by decide +kernel
theorem dX0_isLimitGood_5 : decode cX0_isLimitGood 5 = .ok (.lload_n 2, 1) := by decide +kernel
theorem dX0_isLimitGood_6 : decode cX0_isLimitGood 6 = .ok (.lconst 0, 1) := by decide +kernel
theorem dX0_isLimitGood_7 : decode cX0_isLimitGood 7 = .ok (.lcmp, 1) := by decide +kernel
theorem dX0_isLimitGood_8 : decode cX0_isLimitGood 8 = .ok (.ifCond .lt 18, 3) := by decide +kernel
theorem dX0_isLimitGood_11 : decode cX0_isLimitGood 11 = .ok (.lload_n 2, 1) := by decide +kernel
theorem dX0_isLimitGood_12 : decode cX0_isLimitGood 12 = .ok (.aload_n 0, 1) := by decide +kernel
theorem dX0_isLimitGood_13 : decode cX0_isLimitGood 13 = .ok (.getfield 42, 3) := by decide +kernel
theorem dX0_isLimitGood_16 : decode cX0_isLimitGood 16 = .ok (.iconst 0, 1) := by decide +kernel
theorem dX0_isLimitGood_17 : decode cX0_isLimitGood 17 = .ok (.laload, 1) := by decide +kernel
theorem dX0_isLimitGood_18 : decode cX0_isLimitGood 18 = .ok (.lcmp, 1) := by decide +kernel
theorem dX0_isLimitGood_19 : decode cX0_isLimitGood 19 = .ok (.ifCond .gt 7, 3) := by decide +kernel
theorem dX0_isLimitGood_22 : decode cX0_isLimitGood 22 = .ok (.iconst 1, 1) := by decide +kernel
theorem dX0_isLimitGood_23 : decode cX0_isLimitGood 23 = .ok (.goto 4, 3) := by decide +kernel
theorem dX0_isLimitGood_26 : decode cX0_isLimitGood 26 = .ok (.iconst 0, 1) := by decide +kernel
theorem dX0_isLimitGood_27 : decode cX0_isLimitGood 27 = .ok (.ireturn, 1) := by decide +kernel
theorem dX0_isLimitGood_28 : decode cX0_isLimitGood 28 = .ok (.iload_n 1, 1) := by decide +kernel
theorem dX0_isLimitGood_29 : decode cX0_isLimitGood 29 = .ok (.ifCond .eq 8, 3) := by decide +kernel
theorem dX0_isLimitGood_32 : decode cX0_isLimitGood 32 = .ok (.iload_n 1, 1) := by decide +kernel
theorem dX0_isLimitGood_33 : decode cX0_isLimitGood 33 = .ok (.iconst 1, 1) := by decide +kernel
theorem dX0_isLimitGood_34 : decode cX0_isLimitGood 34 = .ok (.if_icmp .ne 7, 3) := by decide +kernel
theorem dX0_isLimitGood_37 : decode cX0_isLimitGood 37 = .ok (.iconst 1, 1) := by decide +kernel
theorem dX0_isLimitGood_38 : decode cX0_isLimitGood 38 = .ok (.goto 4, 3) := by decide +kernel
theorem dX0_isLimitGood_41 : decode cX0_isLimitGood 41 = .ok (.iconst 0, 1) := by decide +kernel
theorem dX0_isLimitGood_42 : decode cX0_isLimitGood 42 = .ok (.ireturn, 1) := by decide +kernel
theorem dX0_areDelaysGood_0 : decode cX0_areDelaysGood 0 = .ok (.ldc2_w 115, 3) := by decide +kernel
theorem dX0_areDelaysGood_3 : decode cX0_areDelaysGood 3 = .ok (.lstore_n 1, 1) := by decide +kernel
theorem dX0_areDelaysGood_4 : decode cX0_areDelaysGood 4 = .ok (.iconst 0, 1) := by decide +kernel
theorem dX0_areDelaysGood_5 : decode cX0_areDelaysGood 5 = .ok (.istore_n 3, 1) := by decide +kernel
theorem dX0_areDelaysGood_6 : decode cX0_areDelaysGood 6 = .ok (.iload_n 3, 1) := by decide +kernel
theorem dX0_areDelaysGood_7 : decode cX0_areDelaysGood 7 = .ok (.aload_n 0, 1) := by decide +kernel
theorem dX0_areDelaysGood_8 : decode cX0_areDelaysGood 8 = .ok (.getfield 54, 3) := by decide +kernel
theorem dX0_areDelaysGood_11 : decode cX0_areDelaysGood 11 = .ok (.if_icmp .ge 47, 3) := by decide +kernel
theorem dX0_areDelaysGood_14 : decode cX0_areDelaysGood 14 = .ok (.aload_n 0, 1) := by decide +kernel
theorem dX0_areDelaysGood_15 : decode cX0_areDelaysGood 15 = .ok (.getfield 42, 3) := by decide +kernel
theorem dX0_areDelaysGood_18 : decode cX0_areDelaysGood 18 = .ok (.iload_n 3, 1) := by decide +kernel
theorem dX0_areDelaysGood_19 : decode cX0_areDelaysGood 19 = .ok (.laload, 1) := by decide +kernel
theorem dX0_areDelaysGood_20 : decode cX0_areDelaysGood 20 = .ok (.lload_n 1, 1) := by decide +kernel
theorem dX0_areDelaysGood_21 : decode cX0_areDelaysGood 21 = .ok (.lcmp, 1) := by decide +kernel
theorem dX0_areDelaysGood_22 : decode cX0_areDelaysGood 22 = .ok (.ifCond .le 21, 3) := by decide +kernel
theorem dX0_areDelaysGood_25 : decode cX0_areDelaysGood 25 = .ok (.aload_n 0, 1) := by decide +kernel
theorem dX0_areDelaysGood_26 : decode cX0_areDelaysGood 26 = .ok (.getfield 78, 3) := by decide +kernel
theorem dX0_areDelaysGood_29 : decode cX0_areDelaysGood 29 = .ok (.aload_n 0, 1) := by decide +kernel
theorem dX0_areDelaysGood_30 : decode cX0_areDelaysGood 30 = .ok (.getfield 42, 3) := by decide +kernel
theorem dX0_areDelaysGood_33 : decode cX0_areDelaysGood 33 = .ok (.iload_n 3, 1) := by decide +kernel
theorem dX0_areDelaysGood_34 : decode cX0_areDelaysGood 34 = .ok (.laload, 1) := by decide +kernel
theorem dX0_areDelaysGood_35 : decode cX0_areDelaysGood 35 = .ok (.ladd, 1) := by decide +kernel
theorem dX0_areDelaysGood_36 : decode cX0_areDelaysGood 36 = .ok (.ldc2_w 45, 3) := by decide +kernel
theorem dX0_areDelaysGood_39 : decode cX0_areDelaysGood 39 = .ok (.lcmp, 1) := by decide +kernel
theorem dX0_areDelaysGood_40 : decode cX0_areDelaysGood 40 = .ok (.ifCond .le 5, 3) := by decide +kernel
theorem dX0_areDelaysGood_43 : decode cX0_areDelaysGood 43 = .ok (.iconst 0, 1) := by decide +kernel
theorem dX0_areDelaysGood_44 : decode cX0_areDelaysGood 44 = .ok (.ireturn, 1) := by decide +kernel
theorem dX0_areDelaysGood_45 : decode cX0_areDelaysGood 45 = .ok (.aload_n 0, 1) := by decide +kernel
theorem dX0_areDelaysGood_46 : decode cX0_areDelaysGood 46 = .ok (.getfield 42, 3) := by decide +kernel
theorem dX0_areDelaysGood_49 : decode cX0_areDelaysGood 49 = .ok (.iload_n 3, 1) := by decide +kernel
theorem dX0_areDelaysGood_50 : decode cX0_areDelaysGood 50 = .ok (.laload, 1) := by decide +kernel
theorem dX0_areDelaysGood_51 : decode cX0_areDelaysGood 51 = .ok (.lstore_n 1, 1) := by decide +kernel
theorem dX0_areDelaysGood_52 : decode cX0_areDelaysGood 52 = .ok (.iinc 3 1, 3) := by decide +kernel
theorem dX0_areDelaysGood_55 : decode cX0_areDelaysGood 55 = .ok (.goto (-49), 3) := by decide +kernel
theorem dX0_areDelaysGood_58 : decode cX0_areDelaysGood 58 = .ok (.iconst 1, 1) := by decide +kernel
theorem dX0_areDelaysGood_59 : decode cX0_areDelaysGood 59 = .ok (.ireturn, 1) := by decide +kernel
theorem dX0_firstBehind_0 : decode cX0_firstBehind 0 = .ok (.iload_n 1, 1) := by decide +kernel
theorem dX0_firstBehind_1 : decode cX0_firstBehind 1 = .ok (.istore 5, 2) := by decide +kernel
theorem dX0_firstBehind_3 : decode cX0_firstBehind 3 = .ok (.iload 5, 2) := by decide +kernel
theorem dX0_firstBehind_5 : decode cX0_firstBehind 5 = .ok (.iload_n 2, 1) := by decide +kernel
theorem dX0_firstBehind_6 : decode cX0_firstBehind 6 = .ok (.if_icmp .ge 21, 3) := by decide +kernel
theorem dX0_firstBehind_9 : decode cX0_firstBehind 9 = .ok (.aload_n 0, 1) := by decide +kernel
theorem dX0_firstBehind_10 : decode cX0_firstBehind 10 = .ok (.getfield 33, 3) := by decide +kernel
theorem dX0_firstBehind_13 : decode cX0_firstBehind 13 = .ok (.iload 5, 2) := by decide +kernel
theorem dX0_firstBehind_15 : decode cX0_firstBehind 15 = .ok (.laload, 1) := by decide +kernel
theorem dX0_firstBehind_16 : decode cX0_firstBehind 16 = .ok (.lload_n 3, 1) := by decide +kernel
theorem dX0_firstBehind_17 : decode cX0_firstBehind 17 = .ok (.lcmp, 1) := by decide +kernel
theorem dX0_firstBehind_18 : decode cX0_firstBehind 18 = .ok (.ifCond .gt 9, 3) := by decide +kernel
theorem dX0_firstBehind_21 : decode cX0_firstBehind 21 = .ok (.iinc 5 1, 3) := by decide +kernel
theorem dX0_firstBehind_24 : decode cX0_firstBehind 24 = .ok (.goto (-21), 3) := by decide +kernel
theorem dX0_firstBehind_27 : decode cX0_firstBehind 27 = .ok (.iload 5, 2) := by decide +kernel
theorem dX0_firstBehind_29 : decode cX0_firstBehind 29 = .ok (.ireturn, 1) := by decide +kernel
theorem dX0_limitOf_0 : decode cX0_limitOf 0 = .ok (.iload_n 1, 1) := by decide +kernel
theorem dX0_limitOf_1 : decode cX0_limitOf 1 = .ok (.lookupswitch 36 #[(0, 27), (2, 34)], 27) := by decide +kernel
theorem dX0_limitOf_28 : decode cX0_limitOf 28 = .ok (.aload_n 0, 1) := by decide +kernel
theorem dX0_limitOf_29 : decode cX0_limitOf 29 = .ok (.getfield 42, 3) := by decide +kernel
theorem dX0_limitOf_32 : decode cX0_limitOf 32 = .ok (.iconst 0, 1) := by decide +kernel
theorem dX0_limitOf_33 : decode cX0_limitOf 33 = .ok (.laload, 1) := by decide +kernel
theorem dX0_limitOf_34 : decode cX0_limitOf 34 = .ok (.lreturn, 1) := by decide +kernel
theorem dX0_limitOf_35 : decode cX0_limitOf 35 = .ok (.lload_n 2, 1) := by decide +kernel
theorem dX0_limitOf_36 : decode cX0_limitOf 36 = .ok (.lreturn, 1) := by decide +kernel
theorem dX0_limitOf_37 : decode cX0_limitOf 37 = .ok (.lconst 0, 1) := by decide +kernel
theorem dX0_limitOf_38 : decode cX0_limitOf 38 = .ok (.lreturn, 1) := by decide +kernel
theorem dX0_startOfSameValues_0 : decode cX0_startOfSameValues 0 = .ok (.iload_n 2, 1) := by decide +kernel
theorem dX0_startOfSameValues_1 : decode cX0_startOfSameValues 1 = .ok (.istore 5, 2) := by decide +kernel
theorem dX0_startOfSameValues_3 : decode cX0_startOfSameValues 3 = .ok (.iload 5, 2) := by decide +kernel
theorem dX0_startOfSameValues_5 : decode cX0_startOfSameValues 5 = .ok (.iload_n 1, 1) := by decide +kernel
theorem dX0_startOfSameValues_6 : decode cX0_startOfSameValues 6 = .ok (.if_icmp .le 23, 3) := by decide +kernel
theorem dX0_startOfSameValues_9 : decode cX0_startOfSameValues 9 = .ok (.aload_n 0, 1) := by decide +kernel
theorem dX0_startOfSameValues_10 : decode cX0_startOfSameValues 10 = .ok (.getfield 36, 3) := by decide +kernel
theorem dX0_startOfSameValues_13 : decode cX0_startOfSameValues 13 = .ok (.iload 5, 2) := by decide +kernel
theorem dX0_startOfSameValues_15 : decode cX0_startOfSameValues 15 = .ok (.iconst 1, 1) := by decide +kernel
theorem dX0_startOfSameValues_16 : decode cX0_startOfSameValues 16 = .ok (.isub, 1) := by decide +kernel
theorem dX0_startOfSameValues_17 : decode cX0_startOfSameValues 17 = .ok (.laload, 1) := by decide +kernel
theorem dX0_startOfSameValues_18 : decode cX0_startOfSameValues 18 = .ok (.lload_n 3, 1) := by decide +kernel
theorem dX0_startOfSameValues_19 : decode cX0_startOfSameValues 19 = .ok (.lcmp, 1) := by decide +kernel
theorem dX0_startOfSameValues_20 : decode cX0_startOfSameValues 20 = .ok (.ifCond .ne 9, 3) := by decide +kernel
theorem dX0_startOfSameValues_23 : decode cX0_startOfSameValues 23 = .ok (.iinc 5 (-1), 3) := by decide +kernel
theorem dX0_startOfSameValues_26 : decode cX0_startOfSameValues 26 = .ok (.goto (-23), 3) := by decide +kernel
theorem dX0_startOfSameValues_29 : decode cX0_startOfSameValues 29 = .ok (.iload 5, 2) := by decide +kernel
theorem dX0_startOfSameValues_31 : decode cX0_startOfSameValues 31 = .ok (.ireturn, 1) := by decide +kernel
theorem dX0_moveTransactions_0 : decode cX0_moveTransactions 0 = .ok (.aload_n 0, 1) := by decide +kernel
theorem dX0_moveTransactions_1 : decode cX0_moveTransactions 1 = .ok (.getfield 33, 3) := by decide +kernel
theorem dX0_moveTransactions_4 : decode cX0_moveTransactions 4 = .ok (.iload_n 1, 1) := by decide +kernel
theorem dX0_moveTransactions_5 : decode cX0_moveTransactions 5 = .ok (.aload_n 0, 1) := by decide +kernel
theorem dX0_moveTransactions_6 : decode cX0_moveTransactions 6 = .ok (.getfield 33, 3) := by decide +kernel
theorem dX0_moveTransactions_9 : decode cX0_moveTransactions 9 = .ok (.iload_n 2, 1) := by decide +kernel
theorem dX0_moveTransactions_10 : decode cX0_moveTransactions 10 = .ok (.iload_n 3, 1) := by decide +kernel
theorem dX0_moveTransactions_11 : decode cX0_moveTransactions 11 = .ok (.invokestatic 129, 3) := by decide +kernel
theorem dX0_moveTransactions_14 : decode cX0_moveTransactions 14 = .ok (.aload_n 0, 1) := by decide +kernel
theorem dX0_moveTransactions_15 : decode cX0_moveTransactions 15 = .ok (.getfield 36, 3) := by decide +kernel
theorem dX0_moveTransactions_18 : decode cX0_moveTransactions 18 = .ok (.iload_n 1, 1) := by decide +kernel
theorem dX0_moveTransactions_19 : decode cX0_moveTransactions 19 = .ok (.aload_n 0, 1) := by decide +kernel
theorem dX0_moveTransactions_20 : decode cX0_moveTransactions 20 = .ok (.getfield 36, 3) := by decide +kernel
theorem dX0_moveTransactions_23 : decode cX0_moveTransactions 23 = .ok (.iload_n 2, 1) := by decide +kernel
theorem dX0_moveTransactions_24 : decode cX0_moveTransactions 24 = .ok (.iload_n 3, 1) := by decide +kernel
theorem dX0_moveTransactions_25 : decode cX0_moveTransactions 25 = .ok (.invokestatic 129, 3) := by decide +kernel
theorem dX0_moveTransactions_28 : decode cX0_moveTransactions 28 = .ok (.return_, 1) := by decide +kernel
theorem dX0_endRowAt_0 : decode cX0_endRowAt 0 = .ok (.aload_n 0, 1) := by decide +kernel
theorem dX0_endRowAt_1 : decode cX0_endRowAt 1 = .ok (.getfield 20, 3) := by decide +kernel
theorem dX0_endRowAt_4 : decode cX0_endRowAt 4 = .ok (.iload_n 1, 1) := by decide +kernel
theorem dX0_endRowAt_5 : decode cX0_endRowAt 5 = .ok (.iconst 1, 1) := by decide +kernel
theorem dX0_endRowAt_6 : decode cX0_endRowAt 6 = .ok (.iadd, 1) := by decide +kernel
theorem dX0_endRowAt_7 : decode cX0_endRowAt 7 = .ok (.iaload, 1) := by decide +kernel
theorem dX0_endRowAt_8 : decode cX0_endRowAt 8 = .ok (.istore_n 3, 1) := by decide +kernel
theorem dX0_endRowAt_9 : decode cX0_endRowAt 9 = .ok (.aload_n 0, 1) := by decide +kernel
theorem dX0_endRowAt_10 : decode cX0_endRowAt 10 = .ok (.getfield 20, 3) := by decide +kernel
theorem dX0_endRowAt_13 : decode cX0_endRowAt 13 = .ok (.aload_n 0, 1) := by decide +kernel
theorem dX0_endRowAt_14 : decode cX0_endRowAt 14 = .ok (.getfield 9, 3) := by decide +kernel
theorem dX0_endRowAt_17 : decode cX0_endRowAt 17 = .ok (.iaload, 1) := by decide +kernel
theorem dX0_endRowAt_18 : decode cX0_endRowAt 18 = .ok (.istore 4, 2) := by decide +kernel
theorem dX0_endRowAt_20 : decode cX0_endRowAt 20 = .ok (.iload_n 2, 1) := by decide +kernel
theorem dX0_endRowAt_21 : decode cX0_endRowAt 21 = .ok (.iload_n 3, 1) := by decide +kernel
theorem dX0_endRowAt_22 : decode cX0_endRowAt 22 = .ok (.isub, 1) := by decide +kernel
theorem dX0_endRowAt_23 : decode cX0_endRowAt 23 = .ok (.istore 5, 2) := by decide +kernel
theorem dX0_endRowAt_25 : decode cX0_endRowAt 25 = .ok (.aload_n 0, 1) := by decide +kernel
theorem dX0_endRowAt_26 : decode cX0_endRowAt 26 = .ok (.iload 4, 2) := by decide +kernel
theorem dX0_endRowAt_28 : decode cX0_endRowAt 28 = .ok (.iload 5, 2) := by decide +kernel
theorem dX0_endRowAt_30 : decode cX0_endRowAt 30 = .ok (.iadd, 1) := by decide +kernel
theorem dX0_endRowAt_31 : decode cX0_endRowAt 31 = .ok (.invokevirtual 135, 3) := by decide +kernel
theorem dX0_endRowAt_34 : decode cX0_endRowAt 34 = .ok (.aload_n 0, 1) := by decide +kernel
theorem dX0_endRowAt_35 : decode cX0_endRowAt 35 = .ok (.iload_n 3, 1) := by decide +kernel
theorem dX0_endRowAt_36 : decode cX0_endRowAt 36 = .ok (.iload_n 2, 1) := by decide +kernel
theorem dX0_endRowAt_37 : decode cX0_endRowAt 37 = .ok (.iload 4, 2) := by decide +kernel
theorem dX0_endRowAt_39 : decode cX0_endRowAt 39 = .ok (.iload_n 3, 1) := by decide +kernel
theorem dX0_endRowAt_40 : decode cX0_endRowAt 40 = .ok (.isub, 1) := by decide +kernel
theorem dX0_endRowAt_41 : decode cX0_endRowAt 41 = .ok (.invokevirtual 95, 3) := by decide +kernel
theorem dX0_endRowAt_44 : decode cX0_endRowAt 44 = .ok (.iload_n 1, 1) := by decide +kernel
theorem dX0_endRowAt_45 : decode cX0_endRowAt 45 = .ok (.iconst 1, 1) := by decide +kernel
theorem dX0_endRowAt_46 : decode cX0_endRowAt 46 = .ok (.iadd, 1) := by decide +kernel
theorem dX0_endRowAt_47 : decode cX0_endRowAt 47 = .ok (.istore 6, 2) := by decide +kernel
theorem dX0_endRowAt_49 : decode cX0_endRowAt 49 = .ok (.iload 6, 2) := by decide +kernel
theorem dX0_endRowAt_51 : decode cX0_endRowAt 51 = .ok (.aload_n 0, 1) := by decide +kernel
theorem dX0_endRowAt_52 : decode cX0_endRowAt 52 = .ok (.getfield 9, 3) := by decide +kernel
theorem dX0_endRowAt_55 : decode cX0_endRowAt 55 = .ok (.if_icmp .gt 21, 3) := by decide +kernel
theorem dX0_endRowAt_58 : decode cX0_endRowAt 58 = .ok (.aload_n 0, 1) := by decide +kernel
theorem dX0_endRowAt_59 : decode cX0_endRowAt 59 = .ok (.getfield 20, 3) := by decide +kernel
theorem dX0_endRowAt_62 : decode cX0_endRowAt 62 = .ok (.iload 6, 2) := by decide +kernel
theorem dX0_endRowAt_64 : decode cX0_endRowAt 64 = .ok (.dup2, 1) := by decide +kernel
theorem dX0_endRowAt_65 : decode cX0_endRowAt 65 = .ok (.iaload, 1) := by decide +kernel
theorem dX0_endRowAt_66 : decode cX0_endRowAt 66 = .ok (.iload 5, 2) := by decide +kernel
theorem dX0_endRowAt_68 : decode cX0_endRowAt 68 = .ok (.iadd, 1) := by decide +kernel
theorem dX0_endRowAt_69 : decode cX0_endRowAt 69 = .ok (.iastore, 1) := by decide +kernel
theorem dX0_endRowAt_70 : decode cX0_endRowAt 70 = .ok (.iinc 6 1, 3) := by decide +kernel
theorem dX0_endRowAt_73 : decode cX0_endRowAt 73 = .ok (.goto (-24), 3) := by decide +kernel
theorem dX0_endRowAt_76 : decode cX0_endRowAt 76 = .ok (.return_, 1) := by decide +kernel
theorem dX0_makePlaces_0 : decode cX0_makePlaces 0 = .ok (.iload_n 1, 1) := by decide +kernel
theorem dX0_makePlaces_1 : decode cX0_makePlaces 1 = .ok (.aload_n 0, 1) := by decide +kernel
theorem dX0_makePlaces_2 : decode cX0_makePlaces 2 = .ok (.getfield 33, 3) := by decide +kernel
theorem dX0_makePlaces_5 : decode cX0_makePlaces 5 = .ok (.arraylength, 1) := by decide +kernel
theorem dX0_makePlaces_6 : decode cX0_makePlaces 6 = .ok (.if_icmp .gt 4, 3) := by decide +kernel
theorem dX0_makePlaces_9 : decode cX0_makePlaces 9 = .ok (.return_, 1) := by decide +kernel
theorem dX0_makePlaces_10 : decode cX0_makePlaces 10 = .ok (.iload_n 1, 1) := by decide +kernel
theorem dX0_makePlaces_11 : decode cX0_makePlaces 11 = .ok (.aload_n 0, 1) := by decide +kernel
theorem dX0_makePlaces_12 : decode cX0_makePlaces 12 = .ok (.getfield 13, 3) := by decide +kernel
theorem dX0_makePlaces_15 : decode cX0_makePlaces 15 = .ok (.iconst 2, 1) := by decide +kernel
theorem dX0_makePlaces_16 : decode cX0_makePlaces 16 = .ok (.aload_n 0, 1) := by decide +kernel
theorem dX0_makePlaces_17 : decode cX0_makePlaces 17 = .ok (.getfield 33, 3) := by decide +kernel
theorem dX0_makePlaces_20 : decode cX0_makePlaces 20 = .ok (.arraylength, 1) := by decide +kernel
theorem dX0_makePlaces_21 : decode cX0_makePlaces 21 = .ok (.imul, 1) := by decide +kernel
theorem dX0_makePlaces_22 : decode cX0_makePlaces 22 = .ok (.invokestatic 27, 3) := by decide +kernel
theorem dX0_makePlaces_25 : decode cX0_makePlaces 25 = .ok (.invokestatic 138, 3) := by decide +kernel
theorem dX0_makePlaces_28 : decode cX0_makePlaces 28 = .ok (.istore_n 2, 1) := by decide +kernel
theorem dX0_makePlaces_29 : decode cX0_makePlaces 29 = .ok (.aload_n 0, 1) := by decide +kernel
theorem dX0_makePlaces_30 : decode cX0_makePlaces 30 = .ok (.aload_n 0, 1) := by decide +kernel
theorem dX0_makePlaces_31 : decode cX0_makePlaces 31 = .ok (.getfield 33, 3) := by decide +kernel
theorem dX0_makePlaces_34 : decode cX0_makePlaces 34 = .ok (.iload_n 2, 1) := by decide +kernel
theorem dX0_makePlaces_35 : decode cX0_makePlaces 35 = .ok (.invokestatic 141, 3) := by decide +kernel
theorem dX0_makePlaces_38 : decode cX0_makePlaces 38 = .ok (.putfield 33, 3) := by decide +kernel
theorem dX0_makePlaces_41 : decode cX0_makePlaces 41 = .ok (.aload_n 0, 1) := by decide +kernel
theorem dX0_makePlaces_42 : decode cX0_makePlaces 42 = .ok (.aload_n 0, 1) := by decide +kernel
theorem dX0_makePlaces_43 : decode cX0_makePlaces 43 = .ok (.getfield 36, 3) := by decide +kernel
theorem dX0_makePlaces_46 : decode cX0_makePlaces 46 = .ok (.iload_n 2, 1) := by decide +kernel
theorem dX0_makePlaces_47 : decode cX0_makePlaces 47 = .ok (.invokestatic 141, 3) := by decide +kernel
theorem dX0_makePlaces_50 : decode cX0_makePlaces 50 = .ok (.putfield 36, 3) := by decide +kernel
theorem dX0_makePlaces_53 : decode cX0_makePlaces 53 = .ok (.return_, 1) := by decide +kernel
theorem dJ7_copyOf_0 : decode cJ7_copyOf 0 = .ok (.iload_n 1, 1) := by decide +kernel
theorem dJ7_copyOf_1 : decode cJ7_copyOf 1 = .ok (.aload_n 0, 1) := by decide +kernel
theorem dJ7_copyOf_2 : decode cJ7_copyOf 2 = .ok (.arraylength, 1) := by decide +kernel
theorem dJ7_copyOf_3 : decode cJ7_copyOf 3 = .ok (.if_icmp .ne 11, 3) := by decide +kernel
theorem dJ7_copyOf_6 : decode cJ7_copyOf 6 = .ok (.aload_n 0, 1) := by decide +kernel
theorem dJ7_copyOf_7 : decode cJ7_copyOf 7 = .ok (.invokevirtual 319, 3) := by decide +kernel
theorem dJ7_copyOf_10 : decode cJ7_copyOf 10 = .ok (.checkcast 320, 3) := by decide +kernel
theorem dJ7_copyOf_13 : decode cJ7_copyOf 13 = .ok (.areturn, 1) := by decide +kernel
theorem dJ7_copyOf_14 : decode cJ7_copyOf 14 = .ok (.iload_n 1, 1) := by decide +kernel
theorem dJ7_copyOf_15 : decode cJ7_copyOf 15 = .ok (.newarray .long, 2) := by decide +kernel
theorem dJ7_copyOf_17 : decode cJ7_copyOf 17 = .ok (.astore_n 2, 1) := by decide +kernel
theorem dJ7_copyOf_18 : decode cJ7_copyOf 18 = .ok (.aload_n 0, 1) := by decide +kernel
theorem dJ7_copyOf_19 : decode cJ7_copyOf 19 = .ok (.iconst 0, 1) := by decide +kernel
theorem dJ7_copyOf_20 : decode cJ7_copyOf 20 = .ok (.aload_n 2, 1) := by decide +kernel
theorem dJ7_copyOf_21 : decode cJ7_copyOf 21 = .ok (.iconst 0, 1) := by decide +kernel
theorem dJ7_copyOf_22 : decode cJ7_copyOf 22 = .ok (.aload_n 0, 1) := by decide +kernel
theorem dJ7_copyOf_23 : decode cJ7_copyOf 23 = .ok (.arraylength, 1) := by decide +kernel
theorem dJ7_copyOf_24 : decode cJ7_copyOf 24 = .ok (.iload_n 1, 1) := by decide +kernel
theorem dJ7_copyOf_25 : decode cJ7_copyOf 25 = .ok (.invokestatic 304, 3) := by decide +kernel
theorem dJ7_copyOf_28 : decode cJ7_copyOf 28 = .ok (.invokestatic 150, 3) := by decide +kernel
theorem dJ7_copyOf_31 : decode cJ7_copyOf 31 = .ok (.aload_n 2, 1) := by decide +kernel
theorem dJ7_copyOf_32 : decode cJ7_copyOf 32 = .ok (.areturn, 1) := by decide +kernel
theorem dX0_writeElements_0 : decode cX0_writeElements 0 = .ok (.iconst 0, 1) := by decide +kernel
theorem dX0_writeElements_1 : decode cX0_writeElements 1 = .ok (.istore_n 2, 1) := by decide +kernel
theorem dX0_writeElements_2 : decode cX0_writeElements 2 = .ok (.iload_n 2, 1) := by decide +kernel
theorem dX0_writeElements_3 : decode cX0_writeElements 3 = .ok (.aload_n 0, 1) := by decide +kernel
theorem dX0_writeElements_4 : decode cX0_writeElements 4 = .ok (.getfield 54, 3) := by decide +kernel
theorem dX0_writeElements_7 : decode cX0_writeElements 7 = .ok (.if_icmp .ge 42, 3) := by decide +kernel
theorem dX0_writeElements_10 : decode cX0_writeElements 10 = .ok (.aload_n 0, 1) := by decide +kernel
theorem dX0_writeElements_11 : decode cX0_writeElements 11 = .ok (.getfield 33, 3) := by decide +kernel
theorem dX0_writeElements_14 : decode cX0_writeElements 14 = .ok (.iload_n 1, 1) := by decide +kernel
theorem dX0_writeElements_15 : decode cX0_writeElements 15 = .ok (.iload_n 2, 1) := by decide +kernel
theorem dX0_writeElements_16 : decode cX0_writeElements 16 = .ok (.iadd, 1) := by decide +kernel
theorem dX0_writeElements_17 : decode cX0_writeElements 17 = .ok (.aload_n 0, 1) := by decide +kernel
theorem dX0_writeElements_18 : decode cX0_writeElements 18 = .ok (.getfield 78, 3) := by decide +kernel
theorem dX0_writeElements_21 : decode cX0_writeElements 21 = .ok (.aload_n 0, 1) := by decide +kernel
theorem dX0_writeElements_22 : decode cX0_writeElements 22 = .ok (.getfield 42, 3) := by decide +kernel
theorem dX0_writeElements_25 : decode cX0_writeElements 25 = .ok (.iload_n 2, 1) := by decide +kernel
theorem dX0_writeElements_26 : decode cX0_writeElements 26 = .ok (.laload, 1) := by decide +kernel
theorem dX0_writeElements_27 : decode cX0_writeElements 27 = .ok (.ladd, 1) := by decide +kernel
theorem dX0_writeElements_28 : decode cX0_writeElements 28 = .ok (.lastore, 1) := by decide +kernel
theorem dX0_writeElements_29 : decode cX0_writeElements 29 = .ok (.aload_n 0, 1) := by decide +kernel
theorem dX0_writeElements_30 : decode cX0_writeElements 30 = .ok (.getfield 36, 3) := by decide +kernel
theorem dX0_writeElements_33 : decode cX0_writeElements 33 = .ok (.iload_n 1, 1) := by decide +kernel
theorem dX0_writeElements_34 : decode cX0_writeElements 34 = .ok (.iload_n 2, 1) := by decide +kernel
theorem dX0_writeElements_35 : decode cX0_writeElements 35 = .ok (.iadd, 1) := by decide +kernel
theorem dX0_writeElements_36 : decode cX0_writeElements 36 = .ok (.aload_n 0, 1) := by decide +kernel
theorem dX0_writeElements_37 : decode cX0_writeElements 37 = .ok (.getfield 39, 3) := by decide +kernel
theorem dX0_writeElements_40 : decode cX0_writeElements 40 = .ok (.iload_n 2, 1) := by decide +kernel
theorem dX0_writeElements_41 : decode cX0_writeElements 41 = .ok (.laload, 1) := by decide +kernel
theorem dX0_writeElements_42 : decode cX0_writeElements 42 = .ok (.lastore, 1) := by decide +kernel
theorem dX0_writeElements_43 : decode cX0_writeElements 43 = .ok (.iinc 2 1, 3) := by decide +kernel
theorem dX0_writeElements_46 : decode cX0_writeElements 46 = .ok (.goto (-44), 3) := by decide +kernel
theorem dX0_writeElements_49 : decode cX0_writeElements 49 = .ok (.return_, 1) := by decide +kernel
theorem dL_start_0 : decode cL_start 0 = .ok (.aload 4, 2) := by decide +kernel
theorem dL_start_2 : decode cL_start 2 = .ok (.iconst 0, 1) := by decide +kernel
theorem dL_start_3 : decode cL_start 3 = .ok (.aload_n 0, 1) := by decide +kernel
theorem dL_start_4 : decode cL_start 4 = .ok (.iload_n 1, 1) := by decide +kernel
theorem dL_start_5 : decode cL_start 5 = .ok (.lload_n 2, 1) := by decide +kernel
theorem dL_start_6 : decode cL_start 6 = .ok (.invokevirtual 23, 3) := by decide +kernel
theorem dL_start_9 : decode cL_start 9 = .ok (.i2l, 1) := by decide +kernel
theorem dL_start_10 : decode cL_start 10 = .ok (.lastore, 1) := by decide +kernel
theorem dL_start_11 : decode cL_start 11 = .ok (.goto 7, 3) := by decide +kernel
theorem dL_start_14 : decode cL_start 14 = .ok (.astore 5, 2) := by decide +kernel
theorem dL_start_16 : decode cL_start 16 = .ok (.iconst 1, 1) := by decide +kernel
theorem dL_start_17 : decode cL_start 17 = .ok (.ireturn, 1) := by decide +kernel
theorem dL_start_18 : decode cL_start 18 = .ok (.iconst 0, 1) := by decide +kernel
theorem dL_start_19 : decode cL_start 19 = .ok (.ireturn, 1) := by decide +kernel
theorem dX0_start_0 : decode cX0_start 0 = .ok (.aload_n 0, 1) := by decide +kernel
theorem dX0_start_1 : decode cX0_start 1 = .ok (.iload_n 1, 1) := by decide +kernel
theorem dX0_start_2 : decode cX0_start 2 = .ok (.invokevirtual 62, 3) := by decide +kernel
theorem dX0_start_5 : decode cX0_start 5 = .ok (.aload_n 0, 1) := by decide +kernel
theorem dX0_start_6 : decode cX0_start 6 = .ok (.iload_n 1, 1) := by decide +kernel
theorem dX0_start_7 : decode cX0_start 7 = .ok (.invokevirtual 106, 3) := by decide +kernel
theorem dX0_start_10 : decode cX0_start 10 = .ok (.istore 4, 2) := by decide +kernel
theorem dX0_start_12 : decode cX0_start 12 = .ok (.aload_n 0, 1) := by decide +kernel
theorem dX0_start_13 : decode cX0_start 13 = .ok (.getfield 16, 3) := by decide +kernel
theorem dX0_start_16 : decode cX0_start 16 = .ok (.iload_n 1, 1) := by decide +kernel
theorem dX0_start_17 : decode cX0_start 17 = .ok (.lload_n 2, 1) := by decide +kernel
theorem dX0_start_18 : decode cX0_start 18 = .ok (.lastore, 1) := by decide +kernel
theorem dX0_start_19 : decode cX0_start 19 = .ok (.aload_n 0, 1) := by decide +kernel
theorem dX0_start_20 : decode cX0_start 20 = .ok (.iload_n 1, 1) := by decide +kernel
theorem dX0_start_21 : decode cX0_start 21 = .ok (.aload_n 0, 1) := by decide +kernel
theorem dX0_start_22 : decode cX0_start 22 = .ok (.getfield 20, 3) := by decide +kernel
theorem dX0_start_25 : decode cX0_start 25 = .ok (.iload_n 1, 1) := by decide +kernel
theorem dX0_start_26 : decode cX0_start 26 = .ok (.iaload, 1) := by decide +kernel
theorem dX0_start_27 : decode cX0_start 27 = .ok (.invokevirtual 99, 3) := by decide +kernel
theorem dX0_start_30 : decode cX0_start 30 = .ok (.iload 4, 2) := by decide +kernel
theorem dX0_start_32 : decode cX0_start 32 = .ok (.ireturn, 1) := by decide +kernel
theorem dL_advance_0 : decode cL_advance 0 = .ok (.aload_n 3, 1) := by decide +kernel
theorem dL_advance_1 : decode cL_advance 1 = .ok (.iconst 0, 1) := by decide +kernel
theorem dL_advance_2 : decode cL_advance 2 = .ok (.aload_n 0, 1) := by decide +kernel
theorem dL_advance_3 : decode cL_advance 3 = .ok (.lload_n 1, 1) := by decide +kernel
theorem dL_advance_4 : decode cL_advance 4 = .ok (.invokevirtual 27, 3) := by decide +kernel
theorem dL_advance_7 : decode cL_advance 7 = .ok (.i2l, 1) := by decide +kernel
theorem dL_advance_8 : decode cL_advance 8 = .ok (.lastore, 1) := by decide +kernel
theorem dL_advance_9 : decode cL_advance 9 = .ok (.goto 7, 3) := by decide +kernel
theorem dL_advance_12 : decode cL_advance 12 = .ok (.astore 4, 2) := by decide +kernel
theorem dL_advance_14 : decode cL_advance 14 = .ok (.iconst 1, 1) := by decide +kernel
theorem dL_advance_15 : decode cL_advance 15 = .ok (.ireturn, 1) := by decide +kernel
theorem dL_advance_16 : decode cL_advance 16 = .ok (.iconst 0, 1) := by decide +kernel
theorem dL_advance_17 : decode cL_advance 17 = .ok (.ireturn, 1) := by decide +kernel
theorem dX0_advance_0 : decode cX0_advance 0 = .ok (.lload_n 1, 1) := by decide +kernel
theorem dX0_advance_1 : decode cX0_advance 1 = .ok (.aload_n 0, 1) := by decide +kernel
theorem dX0_advance_2 : decode cX0_advance 2 = .ok (.getfield 78, 3) := by decide +kernel
theorem dX0_advance_5 : decode cX0_advance 5 = .ok (.lcmp, 1) := by decide +kernel
theorem dX0_advance_6 : decode cX0_advance 6 = .ok (.ifCond .lt 11, 3) := by decide +kernel
theorem dX0_advance_9 : decode cX0_advance 9 = .ok (.lload_n 1, 1) := by decide +kernel
theorem dX0_advance_10 : decode cX0_advance 10 = .ok (.ldc2_w 45, 3) := by decide +kernel
theorem dX0_advance_13 : decode cX0_advance 13 = .ok (.lcmp, 1) := by decide +kernel
theorem dX0_advance_14 : decode cX0_advance 14 = .ok (.ifCond .le 13, 3) := by decide +kernel
theorem dX0_advance_17 : decode cX0_advance 17 = .ok (.new 47, 3) := by decide +kernel
theorem dX0_advance_20 : decode cX0_advance 20 = .ok (.dup, 1) := by decide +kernel
theorem dX0_advance_21 : decode cX0_advance 21 = .ok (.ldc 110, 2) := by decide +kernel
theorem dX0_advance_23 : decode cX0_advance 23 = .ok (.invokespecial 51, 3) := by decide +kernel
theorem dX0_advance_26 : decode cX0_advance 26 = .ok (.athrow, 1) := by decide +kernel
theorem dX0_advance_27 : decode cX0_advance 27 = .ok (.aload_n 0, 1) := by decide +kernel
theorem dX0_advance_28 : decode cX0_advance 28 = .ok (.lload_n 1, 1) := by decide +kernel
theorem dX0_advance_29 : decode cX0_advance 29 = .ok (.putfield 78, 3) := by decide +kernel
theorem dX0_advance_32 : decode cX0_advance 32 = .ok (.aload_n 0, 1) := by decide +kernel
theorem dX0_advance_33 : decode cX0_advance 33 = .ok (.iconst 0, 1) := by decide +kernel
theorem dX0_advance_34 : decode cX0_advance 34 = .ok (.putfield 112, 3) := by decide +kernel
theorem dX0_advance_37 : decode cX0_advance 37 = .ok (.iconst 0, 1) := by decide +kernel
theorem dX0_advance_38 : decode cX0_advance 38 = .ok (.istore_n 3, 1) := by decide +kernel
theorem dX0_advance_39 : decode cX0_advance 39 = .ok (.iconst 0, 1) := by decide +kernel
theorem dX0_advance_40 : decode cX0_advance 40 = .ok (.istore 4, 2) := by decide +kernel
theorem dX0_advance_42 : decode cX0_advance 42 = .ok (.iconst 0, 1) := by decide +kernel
theorem dX0_advance_43 : decode cX0_advance 43 = .ok (.istore 5, 2) := by decide +kernel
theorem dX0_advance_45 : decode cX0_advance 45 = .ok (.iload 5, 2) := by decide +kernel
theorem dX0_advance_47 : decode cX0_advance 47 = .ok (.aload_n 0, 1) := by decide +kernel
theorem dX0_advance_48 : decode cX0_advance 48 = .ok (.getfield 9, 3) := by decide +kernel
theorem dX0_advance_51 : decode cX0_advance 51 = .ok (.if_icmp .ge 108, 3) := by decide +kernel
theorem dX0_advance_54 : decode cX0_advance 54 = .ok (.aload_n 0, 1) := by decide +kernel
theorem dX0_advance_55 : decode cX0_advance 55 = .ok (.getfield 20, 3) := by decide +kernel
theorem dX0_advance_58 : decode cX0_advance 58 = .ok (.iload 5, 2) := by decide +kernel
theorem dX0_advance_60 : decode cX0_advance 60 = .ok (.iconst 1, 1) := by decide +kernel
theorem dX0_advance_61 : decode cX0_advance 61 = .ok (.iadd, 1) := by decide +kernel
theorem dX0_advance_62 : decode cX0_advance 62 = .ok (.iaload, 1) := by decide +kernel
theorem dX0_advance_63 : decode cX0_advance 63 = .ok (.istore 6, 2) := by decide +kernel
theorem dX0_advance_65 : decode cX0_advance 65 = .ok (.aload_n 0, 1) := by decide +kernel
theorem dX0_advance_66 : decode cX0_advance 66 = .ok (.iload_n 3, 1) := by decide +kernel
theorem dX0_advance_67 : decode cX0_advance 67 = .ok (.iload 6, 2) := by decide +kernel
theorem dX0_advance_69 : decode cX0_advance 69 = .ok (.lload_n 1, 1) := by decide +kernel
theorem dX0_advance_70 : decode cX0_advance 70 = .ok (.invokevirtual 82, 3) := by decide +kernel
theorem dX0_advance_73 : decode cX0_advance 73 = .ok (.istore 7, 2) := by decide +kernel
theorem dX0_advance_75 : decode cX0_advance 75 = .ok (.iload 7, 2) := by decide +kernel
theorem dX0_advance_77 : decode cX0_advance 77 = .ok (.iload_n 3, 1) := by decide +kernel
theorem dX0_advance_78 : decode cX0_advance 78 = .ok (.if_icmp .le 40, 3) := by decide +kernel
theorem dX0_advance_81 : decode cX0_advance 81 = .ok (.aload_n 0, 1) := by decide +kernel
theorem dX0_advance_82 : decode cX0_advance 82 = .ok (.getfield 16, 3) := by decide +kernel
theorem dX0_advance_85 : decode cX0_advance 85 = .ok (.iload 5, 2) := by decide +kernel
theorem dX0_advance_87 : decode cX0_advance 87 = .ok (.aload_n 0, 1) := by decide +kernel
theorem dX0_advance_88 : decode cX0_advance 88 = .ok (.getfield 36, 3) := by decide +kernel
theorem dX0_advance_91 : decode cX0_advance 91 = .ok (.iload 7, 2) := by decide +kernel
theorem dX0_advance_93 : decode cX0_advance 93 = .ok (.iconst 1, 1) := by decide +kernel
theorem dX0_advance_94 : decode cX0_advance 94 = .ok (.isub, 1) := by decide +kernel
theorem dX0_advance_95 : decode cX0_advance 95 = .ok (.laload, 1) := by decide +kernel
theorem dX0_advance_96 : decode cX0_advance 96 = .ok (.lastore, 1) := by decide +kernel
theorem dX0_advance_97 : decode cX0_advance 97 = .ok (.aload_n 0, 1) := by decide +kernel
theorem dX0_advance_98 : decode cX0_advance 98 = .ok (.getfield 24, 3) := by decide +kernel
theorem dX0_advance_101 : decode cX0_advance 101 = .ok (.aload_n 0, 1) := by decide +kernel
theorem dX0_advance_102 : decode cX0_advance 102 = .ok (.getfield 112, 3) := by decide +kernel
theorem dX0_advance_105 : decode cX0_advance 105 = .ok (.iload 5, 2) := by decide +kernel
theorem dX0_advance_107 : decode cX0_advance 107 = .ok (.iastore, 1) := by decide +kernel
theorem dX0_advance_108 : decode cX0_advance 108 = .ok (.aload_n 0, 1) := by decide +kernel
theorem dX0_advance_109 : decode cX0_advance 109 = .ok (.dup, 1) := by decide +kernel
theorem dX0_advance_110 : decode cX0_advance 110 = .ok (.getfield 112, 3) := by decide +kernel
theorem dX0_advance_113 : decode cX0_advance 113 = .ok (.iconst 1, 1) := by decide +kernel
theorem dX0_advance_114 : decode cX0_advance 114 = .ok (.iadd, 1) := by decide +kernel
theorem dX0_advance_115 : decode cX0_advance 115 = .ok (.putfield 112, 3) := by decide +kernel
theorem dX0_advance_118 : decode cX0_advance 118 = .ok (.aload_n 0, 1) := by decide +kernel
theorem dX0_advance_119 : decode cX0_advance 119 = .ok (.iload 7, 2) := by decide +kernel
theorem dX0_advance_121 : decode cX0_advance 121 = .ok (.iload 4, 2) := by decide +kernel
theorem dX0_advance_123 : decode cX0_advance 123 = .ok (.iload 6, 2) := by decide +kernel
theorem dX0_advance_125 : decode cX0_advance 125 = .ok (.iload 7, 2) := by decide +kernel
theorem dX0_advance_127 : decode cX0_advance 127 = .ok (.isub, 1) := by decide +kernel
theorem dX0_advance_128 : decode cX0_advance 128 = .ok (.invokevirtual 95, 3) := by decide +kernel
theorem dX0_advance_131 : decode cX0_advance 131 = .ok (.aload_n 0, 1) := by decide +kernel
theorem dX0_advance_132 : decode cX0_advance 132 = .ok (.getfield 20, 3) := by decide +kernel
theorem dX0_advance_135 : decode cX0_advance 135 = .ok (.iload 5, 2) := by decide +kernel
theorem dX0_advance_137 : decode cX0_advance 137 = .ok (.iload 4, 2) := by decide +kernel
theorem dX0_advance_139 : decode cX0_advance 139 = .ok (.iastore, 1) := by decide +kernel
theorem dX0_advance_140 : decode cX0_advance 140 = .ok (.iload 4, 2) := by decide +kernel
theorem dX0_advance_142 : decode cX0_advance 142 = .ok (.iload 6, 2) := by decide +kernel
theorem dX0_advance_144 : decode cX0_advance 144 = .ok (.iload 7, 2) := by decide +kernel
theorem dX0_advance_146 : decode cX0_advance 146 = .ok (.isub, 1) := by decide +kernel
theorem dX0_advance_147 : decode cX0_advance 147 = .ok (.iadd, 1) := by decide +kernel
theorem dX0_advance_148 : decode cX0_advance 148 = .ok (.istore 4, 2) := by decide +kernel
theorem dX0_advance_150 : decode cX0_advance 150 = .ok (.iload 6, 2) := by decide +kernel
theorem dX0_advance_152 : decode cX0_advance 152 = .ok (.istore_n 3, 1) := by decide +kernel
theorem dX0_advance_153 : decode cX0_advance 153 = .ok (.iinc 5 1, 3) := by decide +kernel
theorem dX0_advance_156 : decode cX0_advance 156 = .ok (.goto (-111), 3) := by decide +kernel
theorem dX0_advance_159 : decode cX0_advance 159 = .ok (.aload_n 0, 1) := by decide +kernel
theorem dX0_advance_160 : decode cX0_advance 160 = .ok (.getfield 20, 3) := by decide +kernel
theorem dX0_advance_163 : decode cX0_advance 163 = .ok (.aload_n 0, 1) := by decide +kernel
theorem dX0_advance_164 : decode cX0_advance 164 = .ok (.getfield 9, 3) := by decide +kernel
theorem dX0_advance_167 : decode cX0_advance 167 = .ok (.iload 4, 2) := by decide +kernel
theorem dX0_advance_169 : decode cX0_advance 169 = .ok (.iastore, 1) := by decide +kernel
theorem dX0_advance_170 : decode cX0_advance 170 = .ok (.aload_n 0, 1) := by decide +kernel
theorem dX0_advance_171 : decode cX0_advance 171 = .ok (.getfield 112, 3) := by decide +kernel
theorem dX0_advance_174 : decode cX0_advance 174 = .ok (.ireturn, 1) := by decide +kernel
theorem dL_value_0 : decode cL_value 0 = .ok (.aload_n 2, 1) := by decide +kernel
theorem dL_value_1 : decode cL_value 1 = .ok (.iconst 0, 1) := by decide +kernel
theorem dL_value_2 : decode cL_value 2 = .ok (.aload_n 0, 1) := by decide +kernel
theorem dL_value_3 : decode cL_value 3 = .ok (.iload_n 1, 1) := by decide +kernel
theorem dL_value_4 : decode cL_value 4 = .ok (.invokevirtual 31, 3) := by decide +kernel
theorem dL_value_7 : decode cL_value 7 = .ok (.lastore, 1) := by decide +kernel
theorem dL_value_8 : decode cL_value 8 = .ok (.goto 6, 3) := by decide +kernel
theorem dL_value_11 : decode cL_value 11 = .ok (.astore_n 3, 1) := by decide +kernel
theorem dL_value_12 : decode cL_value 12 = .ok (.iconst 1, 1) := by decide +kernel
theorem dL_value_13 : decode cL_value 13 = .ok (.ireturn, 1) := by decide +kernel
theorem dL_value_14 : decode cL_value 14 = .ok (.iconst 0, 1) := by decide +kernel
theorem dL_value_15 : decode cL_value 15 = .ok (.ireturn, 1) := by decide +kernel
theorem dX0_value_0 : decode cX0_value 0 = .ok (.aload_n 0, 1) := by decide +kernel
theorem dX0_value_1 : decode cX0_value 1 = .ok (.iload_n 1, 1) := by decide +kernel
theorem dX0_value_2 : decode cX0_value 2 = .ok (.invokevirtual 62, 3) := by decide +kernel
theorem dX0_value_5 : decode cX0_value 5 = .ok (.aload_n 0, 1) := by decide +kernel
theorem dX0_value_6 : decode cX0_value 6 = .ok (.getfield 16, 3) := by decide +kernel
theorem dX0_value_9 : decode cX0_value 9 = .ok (.iload_n 1, 1) := by decide +kernel
theorem dX0_value_10 : decode cX0_value 10 = .ok (.laload, 1) := by decide +kernel
theorem dX0_value_11 : decode cX0_value 11 = .ok (.lreturn, 1) := by decide +kernel
theorem dL_count_0 : decode cL_count 0 = .ok (.aload_n 2, 1) := by decide +kernel
theorem dL_count_1 : decode cL_count 1 = .ok (.iconst 0, 1) := by decide +kernel
theorem dL_count_2 : decode cL_count 2 = .ok (.aload_n 0, 1) := by decide +kernel
theorem dL_count_3 : decode cL_count 3 = .ok (.iload_n 1, 1) := by decide +kernel
theorem dL_count_4 : decode cL_count 4 = .ok (.invokevirtual 35, 3) := by decide +kernel
theorem dL_count_7 : decode cL_count 7 = .ok (.i2l, 1) := by decide +kernel
theorem dL_count_8 : decode cL_count 8 = .ok (.lastore, 1) := by decide +kernel
theorem dL_count_9 : decode cL_count 9 = .ok (.goto 6, 3) := by decide +kernel
theorem dL_count_12 : decode cL_count 12 = .ok (.astore_n 3, 1) := by decide +kernel
theorem dL_count_13 : decode cL_count 13 = .ok (.iconst 1, 1) := by decide +kernel
theorem dL_count_14 : decode cL_count 14 = .ok (.ireturn, 1) := by decide +kernel
theorem dL_count_15 : decode cL_count 15 = .ok (.iconst 0, 1) := by decide +kernel
theorem dL_count_16 : decode cL_count 16 = .ok (.ireturn, 1) := by decide +kernel
theorem dX0_count_0 : decode cX0_count 0 = .ok (.aload_n 0, 1) := by decide +kernel
theorem dX0_count_1 : decode cX0_count 1 = .ok (.iload_n 1, 1) := by decide +kernel
theorem dX0_count_2 : decode cX0_count 2 = .ok (.invokevirtual 62, 3) := by decide +kernel
theorem dX0_count_5 : decode cX0_count 5 = .ok (.aload_n 0, 1) := by decide +kernel
theorem dX0_count_6 : decode cX0_count 6 = .ok (.iload_n 1, 1) := by decide +kernel
theorem dX0_count_7 : decode cX0_count 7 = .ok (.invokevirtual 106, 3) := by decide +kernel
theorem dX0_count_10 : decode cX0_count 10 = .ok (.ireturn, 1) := by decide +kernel
theorem dL_at_0 : decode cL_at 0 = .ok (.aload 4, 2) := by decide +kernel
theorem dL_at_2 : decode cL_at 2 = .ok (.iconst 0, 1) := by decide +kernel
theorem dL_at_3 : decode cL_at 3 = .ok (.aload_n 0, 1) := by decide +kernel
theorem dL_at_4 : decode cL_at 4 = .ok (.iload_n 1, 1) := by decide +kernel
theorem dL_at_5 : decode cL_at 5 = .ok (.iload_n 2, 1) := by decide +kernel
theorem dL_at_6 : decode cL_at 6 = .ok (.iload_n 3, 1) := by decide +kernel
theorem dL_at_7 : decode cL_at 7 = .ok (.invokevirtual 39, 3) := by decide +kernel
theorem dL_at_10 : decode cL_at 10 = .ok (.lastore, 1) := by decide +kernel
theorem dL_at_11 : decode cL_at 11 = .ok (.goto 7, 3) := by decide +kernel
theorem dL_at_14 : decode cL_at 14 = .ok (.astore 5, 2) := by decide +kernel
theorem dL_at_16 : decode cL_at 16 = .ok (.iconst 1, 1) := by decide +kernel
theorem dL_at_17 : decode cL_at 17 = .ok (.ireturn, 1) := by decide +kernel
theorem dL_at_18 : decode cL_at 18 = .ok (.iconst 0, 1) := by decide +kernel
theorem dL_at_19 : decode cL_at 19 = .ok (.ireturn, 1) := by decide +kernel
theorem dX0_at_0 : decode cX0_at 0 = .ok (.aload_n 0, 1) := by decide +kernel
theorem dX0_at_1 : decode cX0_at 1 = .ok (.iload_n 1, 1) := by decide +kernel
theorem dX0_at_2 : decode cX0_at 2 = .ok (.invokevirtual 62, 3) := by decide +kernel
theorem dX0_at_5 : decode cX0_at 5 = .ok (.iload_n 2, 1) := by decide +kernel
theorem dX0_at_6 : decode cX0_at 6 = .ok (.ifCond .lt 12, 3) := by decide +kernel
theorem dX0_at_9 : decode cX0_at 9 = .ok (.iload_n 2, 1) := by decide +kernel
theorem dX0_at_10 : decode cX0_at 10 = .ok (.aload_n 0, 1) := by decide +kernel
theorem dX0_at_11 : decode cX0_at 11 = .ok (.iload_n 1, 1) := by decide +kernel
theorem dX0_at_12 : decode cX0_at 12 = .ok (.invokevirtual 106, 3) := by decide +kernel
theorem dX0_at_15 : decode cX0_at 15 = .ok (.if_icmp .lt 13, 3) := by decide +kernel
theorem dX0_at_18 : decode cX0_at 18 = .ok (.new 120, 3) := by decide +kernel
theorem dX0_at_21 : decode cX0_at 21 = .ok (.dup, 1) := by decide +kernel
theorem dX0_at_22 : decode cX0_at 22 = .ok (.ldc 122, 2) := by decide +kernel
theorem dX0_at_24 : decode cX0_at 24 = .ok (.invokespecial 124, 3) := by decide +kernel
theorem dX0_at_27 : decode cX0_at 27 = .ok (.athrow, 1) := by decide +kernel
theorem dX0_at_28 : decode cX0_at 28 = .ok (.aload_n 0, 1) := by decide +kernel
theorem dX0_at_29 : decode cX0_at 29 = .ok (.getfield 20, 3) := by decide +kernel
theorem dX0_at_32 : decode cX0_at 32 = .ok (.iload_n 1, 1) := by decide +kernel
theorem dX0_at_33 : decode cX0_at 33 = .ok (.iaload, 1) := by decide +kernel
theorem dX0_at_34 : decode cX0_at 34 = .ok (.iload_n 2, 1) := by decide +kernel
theorem dX0_at_35 : decode cX0_at 35 = .ok (.iadd, 1) := by decide +kernel
theorem dX0_at_36 : decode cX0_at 36 = .ok (.istore 4, 2) := by decide +kernel
theorem dX0_at_38 : decode cX0_at 38 = .ok (.iload_n 3, 1) := by decide +kernel
theorem dX0_at_39 : decode cX0_at 39 = .ok (.ifCond .eq 13, 3) := by decide +kernel
theorem dX0_at_42 : decode cX0_at 42 = .ok (.aload_n 0, 1) := by decide +kernel
theorem dX0_at_43 : decode cX0_at 43 = .ok (.getfield 33, 3) := by decide +kernel
theorem dX0_at_46 : decode cX0_at 46 = .ok (.iload 4, 2) := by decide +kernel
theorem dX0_at_48 : decode cX0_at 48 = .ok (.laload, 1) := by decide +kernel
theorem dX0_at_49 : decode cX0_at 49 = .ok (.goto 10, 3) := by decide +kernel
theorem dX0_at_52 : decode cX0_at 52 = .ok (.aload_n 0, 1) := by decide +kernel
theorem dX0_at_53 : decode cX0_at 53 = .ok (.getfield 36, 3) := by decide +kernel
theorem dX0_at_56 : decode cX0_at 56 = .ok (.iload 4, 2) := by decide +kernel
theorem dX0_at_58 : decode cX0_at 58 = .ok (.laload, 1) := by decide +kernel
theorem dX0_at_59 : decode cX0_at 59 = .ok (.lreturn, 1) := by decide +kernel
theorem dL_projected_0 : decode cL_projected 0 = .ok (.aload 4, 2) := by decide +kernel
theorem dL_projected_2 : decode cL_projected 2 = .ok (.iconst 0, 1) := by decide +kernel
theorem dL_projected_3 : decode cL_projected 3 = .ok (.aload_n 0, 1) := by decide +kernel
theorem dL_projected_4 : decode cL_projected 4 = .ok (.iload_n 1, 1) := by decide +kernel
theorem dL_projected_5 : decode cL_projected 5 = .ok (.lload_n 2, 1) := by decide +kernel
theorem dL_projected_6 : decode cL_projected 6 = .ok (.invokevirtual 43, 3) := by decide +kernel
theorem dL_projected_9 : decode cL_projected 9 = .ok (.lastore, 1) := by decide +kernel
theorem dL_projected_10 : decode cL_projected 10 = .ok (.goto 11, 3) := by decide +kernel
theorem dL_projected_13 : decode cL_projected 13 = .ok (.astore 5, 2) := by decide +kernel
theorem dL_projected_15 : decode cL_projected 15 = .ok (.iconst 1, 1) := by decide +kernel
theorem dL_projected_16 : decode cL_projected 16 = .ok (.ireturn, 1) := by decide +kernel
theorem dL_projected_17 : decode cL_projected 17 = .ok (.astore 5, 2) := by decide +kernel
theorem dL_projected_19 : decode cL_projected 19 = .ok (.iconst 2, 1) := by decide +kernel
theorem dL_projected_20 : decode cL_projected 20 = .ok (.ireturn, 1) := by decide +kernel
theorem dL_projected_21 : decode cL_projected 21 = .ok (.iconst 0, 1) := by decide +kernel
theorem dL_projected_22 : decode cL_projected 22 = .ok (.ireturn, 1) := by decide +kernel
theorem dX0_projected_0 : decode cX0_projected 0 = .ok (.aload_n 0, 1) := by decide +kernel
theorem dX0_projected_1 : decode cX0_projected 1 = .ok (.iload_n 1, 1) := by decide +kernel
theorem dX0_projected_2 : decode cX0_projected 2 = .ok (.invokevirtual 62, 3) := by decide +kernel
theorem dX0_projected_5 : decode cX0_projected 5 = .ok (.lload_n 2, 1) := by decide +kernel
theorem dX0_projected_6 : decode cX0_projected 6 = .ok (.aload_n 0, 1) := by decide +kernel
theorem dX0_projected_7 : decode cX0_projected 7 = .ok (.getfield 78, 3) := by decide +kernel
theorem dX0_projected_10 : decode cX0_projected 10 = .ok (.lcmp, 1) := by decide +kernel
theorem dX0_projected_11 : decode cX0_projected 11 = .ok (.ifCond .ge 13, 3) := by decide +kernel
theorem dX0_projected_14 : decode cX0_projected 14 = .ok (.new 47, 3) := by decide +kernel
theorem dX0_projected_17 : decode cX0_projected 17 = .ok (.dup, 1) := by decide +kernel
theorem dX0_projected_18 : decode cX0_projected 18 = .ok (.ldc 125, 2) := by decide +kernel
theorem dX0_projected_20 : decode cX0_projected 20 = .ok (.invokespecial 51, 3) := by decide +kernel
theorem dX0_projected_23 : decode cX0_projected 23 = .ok (.athrow, 1) := by decide +kernel
theorem dX0_projected_24 : decode cX0_projected 24 = .ok (.aload_n 0, 1) := by decide +kernel
theorem dX0_projected_25 : decode cX0_projected 25 = .ok (.getfield 20, 3) := by decide +kernel
theorem dX0_projected_28 : decode cX0_projected 28 = .ok (.iload_n 1, 1) := by decide +kernel
theorem dX0_projected_29 : decode cX0_projected 29 = .ok (.iaload, 1) := by decide +kernel
theorem dX0_projected_30 : decode cX0_projected 30 = .ok (.istore 4, 2) := by decide +kernel
theorem dX0_projected_32 : decode cX0_projected 32 = .ok (.aload_n 0, 1) := by decide +kernel
theorem dX0_projected_33 : decode cX0_projected 33 = .ok (.iload 4, 2) := by decide +kernel
theorem dX0_projected_35 : decode cX0_projected 35 = .ok (.aload_n 0, 1) := by decide +kernel
theorem dX0_projected_36 : decode cX0_projected 36 = .ok (.getfield 20, 3) := by decide +kernel
theorem dX0_projected_39 : decode cX0_projected 39 = .ok (.iload_n 1, 1) := by decide +kernel
theorem dX0_projected_40 : decode cX0_projected 40 = .ok (.iconst 1, 1) := by decide +kernel
theorem dX0_projected_41 : decode cX0_projected 41 = .ok (.iadd, 1) := by decide +kernel
theorem dX0_projected_42 : decode cX0_projected 42 = .ok (.iaload, 1) := by decide +kernel
theorem dX0_projected_43 : decode cX0_projected 43 = .ok (.lload_n 2, 1) := by decide +kernel
theorem dX0_projected_44 : decode cX0_projected 44 = .ok (.invokevirtual 82, 3) := by decide +kernel
theorem dX0_projected_47 : decode cX0_projected 47 = .ok (.istore 5, 2) := by decide +kernel
theorem dX0_projected_49 : decode cX0_projected 49 = .ok (.iload 5, 2) := by decide +kernel
theorem dX0_projected_51 : decode cX0_projected 51 = .ok (.iload 4, 2) := by decide +kernel
theorem dX0_projected_53 : decode cX0_projected 53 = .ok (.if_icmp .le 15, 3) := by decide +kernel
theorem dX0_projected_56 : decode cX0_projected 56 = .ok (.aload_n 0, 1) := by decide +kernel
theorem dX0_projected_57 : decode cX0_projected 57 = .ok (.getfield 36, 3) := by decide +kernel
theorem dX0_projected_60 : decode cX0_projected 60 = .ok (.iload 5, 2) := by decide +kernel
theorem dX0_projected_62 : decode cX0_projected 62 = .ok (.iconst 1, 1) := by decide +kernel
theorem dX0_projected_63 : decode cX0_projected 63 = .ok (.isub, 1) := by decide +kernel
theorem dX0_projected_64 : decode cX0_projected 64 = .ok (.laload, 1) := by decide +kernel
theorem dX0_projected_65 : decode cX0_projected 65 = .ok (.goto 9, 3) := by decide +kernel
theorem dX0_projected_68 : decode cX0_projected 68 = .ok (.aload_n 0, 1) := by decide +kernel
theorem dX0_projected_69 : decode cX0_projected 69 = .ok (.getfield 16, 3) := by decide +kernel
theorem dX0_projected_72 : decode cX0_projected 72 = .ok (.iload_n 1, 1) := by decide +kernel
theorem dX0_projected_73 : decode cX0_projected 73 = .ok (.laload, 1) := by decide +kernel
theorem dX0_projected_74 : decode cX0_projected 74 = .ok (.lreturn, 1) := by decide +kernel
theorem dX1_init_0 : decode cX1_init 0 = .ok (.aload_n 0, 1) := by decide +kernel
theorem dX1_init_1 : decode cX1_init 1 = .ok (.invokespecial 1, 3) := by decide +kernel
theorem dX1_init_4 : decode cX1_init 4 = .ok (.aload_n 0, 1) := by decide +kernel
theorem dX1_init_5 : decode cX1_init 5 = .ok (.sipush 512, 3) := by decide +kernel
theorem dX1_init_8 : decode cX1_init 8 = .ok (.newarray .long, 2) := by decide +kernel
theorem dX1_init_10 : decode cX1_init 10 = .ok (.putfield 7, 3) := by decide +kernel
theorem dX1_init_13 : decode cX1_init 13 = .ok (.aload_n 0, 1) := by decide +kernel
theorem dX1_init_14 : decode cX1_init 14 = .ok (.sipush 512, 3) := by decide +kernel
theorem dX1_init_17 : decode cX1_init 17 = .ok (.newarray .boolean, 2) := by decide +kernel
theorem dX1_init_19 : decode cX1_init 19 = .ok (.putfield 13, 3) := by decide +kernel
theorem dX1_init_22 : decode cX1_init 22 = .ok (.aload_n 0, 1) := by decide +kernel
theorem dX1_init_23 : decode cX1_init 23 = .ok (.sipush 8192, 3) := by decide +kernel
theorem dX1_init_26 : decode cX1_init 26 = .ok (.newarray .int, 2) := by decide +kernel
theorem dX1_init_28 : decode cX1_init 28 = .ok (.putfield 17, 3) := by decide +kernel
theorem dX1_init_31 : decode cX1_init 31 = .ok (.aload_n 0, 1) := by decide +kernel
theorem dX1_init_32 : decode cX1_init 32 = .ok (.sipush 8192, 3) := by decide +kernel
theorem dX1_init_35 : decode cX1_init 35 = .ok (.newarray .long, 2) := by decide +kernel
theorem dX1_init_37 : decode cX1_init 37 = .ok (.putfield 21, 3) := by decide +kernel
theorem dX1_init_40 : decode cX1_init 40 = .ok (.aload_n 0, 1) := by decide +kernel
theorem dX1_init_41 : decode cX1_init 41 = .ok (.sipush 8192, 3) := by decide +kernel
theorem dX1_init_44 : decode cX1_init 44 = .ok (.newarray .long, 2) := by decide +kernel
theorem dX1_init_46 : decode cX1_init 46 = .ok (.putfield 24, 3) := by decide +kernel
theorem dX1_init_49 : decode cX1_init 49 = .ok (.aload_n 0, 1) := by decide +kernel
theorem dX1_init_50 : decode cX1_init 50 = .ok (.bipush 16, 2) := by decide +kernel
theorem dX1_init_52 : decode cX1_init 52 = .ok (.newarray .long, 2) := by decide +kernel
theorem dX1_init_54 : decode cX1_init 54 = .ok (.putfield 27, 3) := by decide +kernel
theorem dX1_init_57 : decode cX1_init 57 = .ok (.aload_n 0, 1) := by decide +kernel
theorem dX1_init_58 : decode cX1_init 58 = .ok (.bipush 16, 2) := by decide +kernel
theorem dX1_init_60 : decode cX1_init 60 = .ok (.newarray .long, 2) := by decide +kernel
theorem dX1_init_62 : decode cX1_init 62 = .ok (.putfield 30, 3) := by decide +kernel
theorem dX1_init_65 : decode cX1_init 65 = .ok (.aload_n 0, 1) := by decide +kernel
theorem dX1_init_66 : decode cX1_init 66 = .ok (.sipush 8208, 3) := by decide +kernel
theorem dX1_init_69 : decode cX1_init 69 = .ok (.newarray .long, 2) := by decide +kernel
theorem dX1_init_71 : decode cX1_init 71 = .ok (.putfield 33, 3) := by decide +kernel
theorem dX1_init_74 : decode cX1_init 74 = .ok (.aload_n 0, 1) := by decide +kernel
theorem dX1_init_75 : decode cX1_init 75 = .ok (.sipush 8208, 3) := by decide +kernel
theorem dX1_init_78 : decode cX1_init 78 = .ok (.newarray .long, 2) := by decide +kernel
theorem dX1_init_80 : decode cX1_init 80 = .ok (.putfield 36, 3) := by decide +kernel
theorem dX1_init_83 : decode cX1_init 83 = .ok (.aload_n 0, 1) := by decide +kernel
theorem dX1_init_84 : decode cX1_init 84 = .ok (.sipush 8208, 3) := by decide +kernel
theorem dX1_init_87 : decode cX1_init 87 = .ok (.newarray .boolean, 2) := by decide +kernel
theorem dX1_init_89 : decode cX1_init 89 = .ok (.putfield 39, 3) := by decide +kernel
theorem dX1_init_92 : decode cX1_init 92 = .ok (.aload_n 0, 1) := by decide +kernel
theorem dX1_init_93 : decode cX1_init 93 = .ok (.iload_n 1, 1) := by decide +kernel
theorem dX1_init_94 : decode cX1_init 94 = .ok (.ifCond .le 14, 3) := by decide +kernel
theorem dX1_init_97 : decode cX1_init 97 = .ok (.iload_n 1, 1) := by decide +kernel
theorem dX1_init_98 : decode cX1_init 98 = .ok (.sipush 512, 3) := by decide +kernel
theorem dX1_init_101 : decode cX1_init 101 = .ok (.if_icmp .gt 7, 3) := by decide +kernel
theorem dX1_init_104 : decode cX1_init 104 = .ok (.iload_n 1, 1) := by decide +kernel
theorem dX1_init_105 : decode cX1_init 105 = .ok (.goto 5, 3) := by decide +kernel
theorem dX1_init_108 : decode cX1_init 108 = .ok (.bipush 64, 2) := by decide +kernel
theorem dX1_init_110 : decode cX1_init 110 = .ok (.putfield 42, 3) := by decide +kernel
theorem dX1_init_113 : decode cX1_init 113 = .ok (.aload_n 0, 1) := by decide +kernel
theorem dX1_init_114 : decode cX1_init 114 = .ok (.iload_n 2, 1) := by decide +kernel
theorem dX1_init_115 : decode cX1_init 115 = .ok (.ifCond .le 14, 3) := by decide +kernel
theorem dX1_init_118 : decode cX1_init 118 = .ok (.iload_n 2, 1) := by decide +kernel
theorem dX1_init_119 : decode cX1_init 119 = .ok (.sipush 8192, 3) := by decide +kernel
theorem dX1_init_122 : decode cX1_init 122 = .ok (.if_icmp .gt 7, 3) := by decide +kernel
theorem dX1_init_125 : decode cX1_init 125 = .ok (.iload_n 2, 1) := by decide +kernel
theorem dX1_init_126 : decode cX1_init 126 = .ok (.goto 6, 3) := by decide +kernel
theorem dX1_init_129 : decode cX1_init 129 = .ok (.sipush 1024, 3) := by decide +kernel
theorem dX1_init_132 : decode cX1_init 132 = .ok (.putfield 46, 3) := by decide +kernel
theorem dX1_init_135 : decode cX1_init 135 = .ok (.return_, 1) := by decide +kernel
theorem dX1_thrown_0 : decode cX1_thrown 0 = .ok (.aload_n 0, 1) := by decide +kernel
theorem dX1_thrown_1 : decode cX1_thrown 1 = .ok (.getfield 49, 3) := by decide +kernel
theorem dX1_thrown_4 : decode cX1_thrown 4 = .ok (.ireturn, 1) := by decide +kernel
theorem dX1_element_0 : decode cX1_element 0 = .ok (.aload_n 0, 1) := by decide +kernel
theorem dX1_element_1 : decode cX1_element 1 = .ok (.lload_n 3, 1) := by decide +kernel
theorem dX1_element_2 : decode cX1_element 2 = .ok (.lconst 0, 1) := by decide +kernel
theorem dX1_element_3 : decode cX1_element 3 = .ok (.lcmp, 1) := by decide +kernel
theorem dX1_element_4 : decode cX1_element 4 = .ok (.ifCond .lt 11, 3) := by decide +kernel
theorem dX1_element_7 : decode cX1_element 7 = .ok (.lload_n 3, 1) := by decide +kernel
theorem dX1_element_8 : decode cX1_element 8 = .ok (.ldc2_w 52, 3) := by decide +kernel
theorem dX1_element_11 : decode cX1_element 11 = .ok (.lcmp, 1) := by decide +kernel
theorem dX1_element_12 : decode cX1_element 12 = .ok (.ifCond .le 7, 3) := by decide +kernel
theorem dX1_element_15 : decode cX1_element 15 = .ok (.iconst 1, 1) := by decide +kernel
theorem dX1_element_16 : decode cX1_element 16 = .ok (.goto 17, 3) := by decide +kernel
theorem dX1_element_19 : decode cX1_element 19 = .ok (.aload_n 0, 1) := by decide +kernel
theorem dX1_element_20 : decode cX1_element 20 = .ok (.getfield 54, 3) := by decide +kernel
theorem dX1_element_23 : decode cX1_element 23 = .ok (.bipush 16, 2) := by decide +kernel
theorem dX1_element_25 : decode cX1_element 25 = .ok (.if_icmp .ne 7, 3) := by decide +kernel
theorem dX1_element_28 : decode cX1_element 28 = .ok (.iconst 2, 1) := by decide +kernel
theorem dX1_element_29 : decode cX1_element 29 = .ok (.goto 4, 3) := by decide +kernel
theorem dX1_element_32 : decode cX1_element 32 = .ok (.iconst 0, 1) := by decide +kernel
theorem dX1_element_33 : decode cX1_element 33 = .ok (.putfield 49, 3) := by decide +kernel
theorem dX1_element_36 : decode cX1_element 36 = .ok (.aload_n 0, 1) := by decide +kernel
theorem dX1_element_37 : decode cX1_element 37 = .ok (.getfield 49, 3) := by decide +kernel
theorem dX1_element_40 : decode cX1_element 40 = .ok (.ifCond .le 4, 3) := by decide +kernel
theorem dX1_element_43 : decode cX1_element 43 = .ok (.return_, 1) := by decide +kernel
theorem dX1_element_44 : decode cX1_element 44 = .ok (.aload_n 0, 1) := by decide +kernel
theorem dX1_element_45 : decode cX1_element 45 = .ok (.getfield 27, 3) := by decide +kernel
theorem dX1_element_48 : decode cX1_element 48 = .ok (.aload_n 0, 1) := by decide +kernel
theorem dX1_element_49 : decode cX1_element 49 = .ok (.getfield 54, 3) := by decide +kernel
theorem dX1_element_52 : decode cX1_element 52 = .ok (.lload_n 1, 1) := by decide +kernel
theorem dX1_element_53 : decode cX1_element 53 = .ok (.lastore, 1) := by decide +kernel
theorem dX1_element_54 : decode cX1_element 54 = .ok (.aload_n 0, 1) := by decide +kernel
theorem dX1_element_55 : decode cX1_element 55 = .ok (.getfield 30, 3) := by decide +kernel
theorem dX1_element_58 : decode cX1_element 58 = .ok (.aload_n 0, 1) := by decide +kernel
theorem dX1_element_59 : decode cX1_element 59 = .ok (.getfield 54, 3) := by decide +kernel
theorem dX1_element_62 : decode cX1_element 62 = .ok (.lload_n 3, 1) := by decide +kernel
theorem dX1_element_63 : decode cX1_element 63 = .ok (.lastore, 1) := by decide +kernel
theorem dX1_element_64 : decode cX1_element 64 = .ok (.aload_n 0, 1) := by decide +kernel
theorem dX1_element_65 : decode cX1_element 65 = .ok (.dup, 1) := by decide +kernel
theorem dX1_element_66 : decode cX1_element 66 = .ok (.getfield 54, 3) := by decide +kernel
theorem dX1_element_69 : decode cX1_element 69 = .ok (.iconst 1, 1) := by decide +kernel
theorem dX1_element_70 : decode cX1_element 70 = .ok (.iadd, 1) := by decide +kernel
theorem dX1_element_71 : decode cX1_element 71 = .ok (.putfield 54, 3) := by decide +kernel
theorem dX1_element_74 : decode cX1_element 74 = .ok (.return_, 1) := by decide +kernel
theorem dX1_drop_0 : decode cX1_drop 0 = .ok (.aload_n 0, 1) := by decide +kernel
theorem dX1_drop_1 : decode cX1_drop 1 = .ok (.iconst 0, 1) := by decide +kernel
theorem dX1_drop_2 : decode cX1_drop 2 = .ok (.putfield 49, 3) := by decide +kernel
theorem dX1_drop_5 : decode cX1_drop 5 = .ok (.aload_n 0, 1) := by decide +kernel
theorem dX1_drop_6 : decode cX1_drop 6 = .ok (.getfield 54, 3) := by decide +kernel
theorem dX1_drop_9 : decode cX1_drop 9 = .ok (.istore_n 1, 1) := by decide +kernel
theorem dX1_drop_10 : decode cX1_drop 10 = .ok (.aload_n 0, 1) := by decide +kernel
theorem dX1_drop_11 : decode cX1_drop 11 = .ok (.iconst 0, 1) := by decide +kernel
theorem dX1_drop_12 : decode cX1_drop 12 = .ok (.putfield 54, 3) := by decide +kernel
theorem dX1_drop_15 : decode cX1_drop 15 = .ok (.iload_n 1, 1) := by decide +kernel
theorem dX1_drop_16 : decode cX1_drop 16 = .ok (.ireturn, 1) := by decide +kernel
theorem dX1_assign_0 : decode cX1_assign 0 = .ok (.aload_n 0, 1) := by decide +kernel
theorem dX1_assign_1 : decode cX1_assign 1 = .ok (.aload_n 0, 1) := by decide +kernel
theorem dX1_assign_2 : decode cX1_assign 2 = .ok (.iload_n 1, 1) := by decide +kernel
theorem dX1_assign_3 : decode cX1_assign 3 = .ok (.invokevirtual 60, 3) := by decide +kernel
theorem dX1_assign_6 : decode cX1_assign 6 = .ok (.ifCond .eq 7, 3) := by decide +kernel
theorem dX1_assign_9 : decode cX1_assign 9 = .ok (.iconst 1, 1) := by decide +kernel
theorem dX1_assign_10 : decode cX1_assign 10 = .ok (.goto 15, 3) := by decide +kernel
theorem dX1_assign_13 : decode cX1_assign 13 = .ok (.aload_n 0, 1) := by decide +kernel
theorem dX1_assign_14 : decode cX1_assign 14 = .ok (.getfield 54, 3) := by decide +kernel
theorem dX1_assign_17 : decode cX1_assign 17 = .ok (.ifCond .ne 7, 3) := by decide +kernel
theorem dX1_assign_20 : decode cX1_assign 20 = .ok (.iconst 2, 1) := by decide +kernel
theorem dX1_assign_21 : decode cX1_assign 21 = .ok (.goto 4, 3) := by decide +kernel
theorem dX1_assign_24 : decode cX1_assign 24 = .ok (.iconst 0, 1) := by decide +kernel
theorem dX1_assign_25 : decode cX1_assign 25 = .ok (.putfield 49, 3) := by decide +kernel
theorem dX1_assign_28 : decode cX1_assign 28 = .ok (.aload_n 0, 1) := by decide +kernel
theorem dX1_assign_29 : decode cX1_assign 29 = .ok (.getfield 49, 3) := by decide +kernel
theorem dX1_assign_32 : decode cX1_assign 32 = .ok (.ifCond .le 5, 3) := by decide +kernel
theorem dX1_assign_35 : decode cX1_assign 35 = .ok (.iconst 0, 1) := by decide +kernel
theorem dX1_assign_36 : decode cX1_assign 36 = .ok (.ireturn, 1) := by decide +kernel
theorem dX1_assign_37 : decode cX1_assign 37 = .ok (.iload_n 2, 1) := by decide +kernel
theorem dX1_assign_38 : decode cX1_assign 38 = .ok (.ifCond .lt 42, 3) := by decide +kernel
theorem dX1_assign_41 : decode cX1_assign 41 = .ok (.iload_n 2, 1) := by decide +kernel
theorem dX1_assign_42 : decode cX1_assign 42 = .ok (.iconst 2, 1) := by decide +kernel
theorem dX1_assign_43 : decode cX1_assign 43 = .ok (.if_icmp .gt 37, 3) := by decide +kernel
theorem dX1_assign_46 : decode cX1_assign 46 = .ok (.aload_n 0, 1) := by decide +kernel
theorem dX1_assign_47 : decode cX1_assign 47 = .ok (.invokevirtual 64, 3) := by decide +kernel
theorem dX1_assign_50 : decode cX1_assign 50 = .ok (.ifCond .eq 30, 3) := by decide +kernel
theorem dX1_assign_53 : decode cX1_assign 53 = .ok (.aload_n 0, 1) := by decide +kernel
theorem dX1_assign_54 : decode cX1_assign 54 = .ok (.getfield 68, 3) := by decide +kernel
theorem dX1_assign_57 : decode cX1_assign 57 = .ok (.aload_n 0, 1) := by decide +kernel
theorem dX1_assign_58 : decode cX1_assign 58 = .ok (.getfield 30, 3) := by decide +kernel
theorem dX1_assign_61 : decode cX1_assign 61 = .ok (.aload_n 0, 1) := by decide +kernel
theorem dX1_assign_62 : decode cX1_assign 62 = .ok (.getfield 54, 3) := by decide +kernel
theorem dX1_assign_65 : decode cX1_assign 65 = .ok (.iconst 1, 1) := by decide +kernel
theorem dX1_assign_66 : decode cX1_assign 66 = .ok (.isub, 1) := by decide +kernel
theorem dX1_assign_67 : decode cX1_assign 67 = .ok (.laload, 1) := by decide +kernel
theorem dX1_assign_68 : decode cX1_assign 68 = .ok (.ladd, 1) := by decide +kernel
theorem dX1_assign_69 : decode cX1_assign 69 = .ok (.ldc2_w 52, 3) := by decide +kernel
theorem dX1_assign_72 : decode cX1_assign 72 = .ok (.lcmp, 1) := by decide +kernel
theorem dX1_assign_73 : decode cX1_assign 73 = .ok (.ifCond .gt 7, 3) := by decide +kernel
theorem dX1_assign_76 : decode cX1_assign 76 = .ok (.iconst 1, 1) := by decide +kernel
theorem dX1_assign_77 : decode cX1_assign 77 = .ok (.goto 4, 3) := by decide +kernel
theorem dX1_assign_80 : decode cX1_assign 80 = .ok (.iconst 0, 1) := by decide +kernel
theorem dX1_assign_81 : decode cX1_assign 81 = .ok (.istore 5, 2) := by decide +kernel
theorem dX1_assign_83 : decode cX1_assign 83 = .ok (.iload 5, 2) := by decide +kernel
theorem dX1_assign_85 : decode cX1_assign 85 = .ok (.ifCond .eq 25, 3) := by decide +kernel
theorem dX1_assign_88 : decode cX1_assign 88 = .ok (.iload_n 2, 1) := by decide +kernel
theorem dX1_assign_89 : decode cX1_assign 89 = .ok (.iconst 2, 1) := by decide +kernel
theorem dX1_assign_90 : decode cX1_assign 90 = .ok (.if_icmp .ne 27, 3) := by decide +kernel
theorem dX1_assign_93 : decode cX1_assign 93 = .ok (.lload_n 3, 1) := by decide +kernel
theorem dX1_assign_94 : decode cX1_assign 94 = .ok (.lconst 0, 1) := by decide +kernel
theorem dX1_assign_95 : decode cX1_assign 95 = .ok (.lcmp, 1) := by decide +kernel
theorem dX1_assign_96 : decode cX1_assign 96 = .ok (.ifCond .lt 14, 3) := by decide +kernel
theorem dX1_assign_99 : decode cX1_assign 99 = .ok (.lload_n 3, 1) := by decide +kernel
theorem dX1_assign_100 : decode cX1_assign 100 = .ok (.aload_n 0, 1) := by decide +kernel
theorem dX1_assign_101 : decode cX1_assign 101 = .ok (.getfield 30, 3) := by decide +kernel
theorem dX1_assign_104 : decode cX1_assign 104 = .ok (.iconst 0, 1) := by decide +kernel
theorem dX1_assign_105 : decode cX1_assign 105 = .ok (.laload, 1) := by decide +kernel
theorem dX1_assign_106 : decode cX1_assign 106 = .ok (.lcmp, 1) := by decide +kernel
theorem dX1_assign_107 : decode cX1_assign 107 = .ok (.ifCond .le 10, 3) := by decide +kernel
theorem dX1_assign_110 : decode cX1_assign 110 = .ok (.aload_n 0, 1) := by decide +kernel
theorem dX1_assign_111 : decode cX1_assign 111 = .ok (.iconst 3, 1) := by decide +kernel
theorem dX1_assign_112 : decode cX1_assign 112 = .ok (.putfield 49, 3) := by decide +kernel
theorem dX1_assign_115 : decode cX1_assign 115 = .ok (.iconst 0, 1) := by decide +kernel
theorem dX1_assign_116 : decode cX1_assign 116 = .ok (.ireturn, 1) := by decide +kernel
theorem dX1_assign_117 : decode cX1_assign 117 = .ok (.aload_n 0, 1) := by decide +kernel
theorem dX1_assign_118 : decode cX1_assign 118 = .ok (.getfield 68, 3) := by decide +kernel
theorem dX1_assign_121 : decode cX1_assign 121 = .ok (.aload_n 0, 1) := by decide +kernel
theorem dX1_assign_122 : decode cX1_assign 122 = .ok (.getfield 30, 3) := by decide +kernel
theorem dX1_assign_125 : decode cX1_assign 125 = .ok (.iconst 0, 1) := by decide +kernel
theorem dX1_assign_126 : decode cX1_assign 126 = .ok (.laload, 1) := by decide +kernel
theorem dX1_assign_127 : decode cX1_assign 127 = .ok (.ladd, 1) := by decide +kernel
theorem dX1_assign_128 : decode cX1_assign 128 = .ok (.lstore 6, 2) := by decide +kernel
theorem dX1_assign_130 : decode cX1_assign 130 = .ok (.iconst 0, 1) := by decide +kernel
theorem dX1_assign_131 : decode cX1_assign 131 = .ok (.istore 8, 2) := by decide +kernel
theorem dX1_assign_133 : decode cX1_assign 133 = .ok (.iconst 0, 1) := by decide +kernel
theorem dX1_assign_134 : decode cX1_assign 134 = .ok (.istore 9, 2) := by decide +kernel
theorem dX1_assign_136 : decode cX1_assign 136 = .ok (.iconst 0, 1) := by decide +kernel
theorem dX1_assign_137 : decode cX1_assign 137 = .ok (.istore 10, 2) := by decide +kernel
theorem dX1_assign_139 : decode cX1_assign 139 = .ok (.iload 10, 2) := by decide +kernel
theorem dX1_assign_141 : decode cX1_assign 141 = .ok (.aload_n 0, 1) := by decide +kernel
theorem dX1_assign_142 : decode cX1_assign 142 = .ok (.getfield 57, 3) := by decide +kernel
theorem dX1_assign_145 : decode cX1_assign 145 = .ok (.if_icmp .ge 112, 3) := by decide +kernel
theorem dX1_assign_148 : decode cX1_assign 148 = .ok (.aload_n 0, 1) := by decide +kernel
theorem dX1_assign_149 : decode cX1_assign 149 = .ok (.getfield 17, 3) := by decide +kernel
theorem dX1_assign_152 : decode cX1_assign 152 = .ok (.iload 10, 2) := by decide +kernel
theorem dX1_assign_154 : decode cX1_assign 154 = .ok (.iaload, 1) := by decide +kernel
theorem dX1_assign_155 : decode cX1_assign 155 = .ok (.iload_n 1, 1) := by decide +kernel
theorem dX1_assign_156 : decode cX1_assign 156 = .ok (.if_icmp .ne 95, 3) := by decide +kernel
theorem dX1_assign_159 : decode cX1_assign 159 = .ok (.iinc 9 1, 3) := by decide +kernel
theorem dX1_assign_162 : decode cX1_assign 162 = .ok (.aload_n 0, 1) := by decide +kernel
theorem dX1_assign_163 : decode cX1_assign 163 = .ok (.getfield 21, 3) := by decide +kernel
theorem dX1_assign_166 : decode cX1_assign 166 = .ok (.iload 10, 2) := by decide +kernel
theorem dX1_assign_168 : decode cX1_assign 168 = .ok (.laload, 1) := by decide +kernel
theorem dX1_assign_169 : decode cX1_assign 169 = .ok (.lload 6, 2) := by decide +kernel
theorem dX1_assign_171 : decode cX1_assign 171 = .ok (.lcmp, 1) := by decide +kernel
theorem dX1_assign_172 : decode cX1_assign 172 = .ok (.ifCond .ge 79, 3) := by decide +kernel
theorem dX1_assign_175 : decode cX1_assign 175 = .ok (.aload_n 0, 1) := by decide +kernel
theorem dX1_assign_176 : decode cX1_assign 176 = .ok (.getfield 33, 3) := by decide +kernel
theorem dX1_assign_179 : decode cX1_assign 179 = .ok (.iload 8, 2) := by decide +kernel
theorem dX1_assign_181 : decode cX1_assign 181 = .ok (.aload_n 0, 1) := by decide +kernel
theorem dX1_assign_182 : decode cX1_assign 182 = .ok (.getfield 21, 3) := by decide +kernel
theorem dX1_assign_185 : decode cX1_assign 185 = .ok (.iload 10, 2) := by decide +kernel
theorem dX1_assign_187 : decode cX1_assign 187 = .ok (.laload, 1) := by decide +kernel
theorem dX1_assign_188 : decode cX1_assign 188 = .ok (.lastore, 1) := by decide +kernel
theorem dX1_assign_189 : decode cX1_assign 189 = .ok (.aload_n 0, 1) := by decide +kernel
theorem dX1_assign_190 : decode cX1_assign 190 = .ok (.getfield 36, 3) := by decide +kernel
theorem dX1_assign_193 : decode cX1_assign 193 = .ok (.iload 8, 2) := by decide +kernel
theorem dX1_assign_195 : decode cX1_assign 195 = .ok (.aload_n 0, 1) := by decide +kernel
theorem dX1_assign_196 : decode cX1_assign 196 = .ok (.getfield 24, 3) := by decide +kernel
theorem dX1_assign_199 : decode cX1_assign 199 = .ok (.iload 10, 2) := by decide +kernel
theorem dX1_assign_201 : decode cX1_assign 201 = .ok (.laload, 1) := by decide +kernel
theorem dX1_assign_202 : decode cX1_assign 202 = .ok (.lastore, 1) := by decide +kernel
theorem dX1_assign_203 : decode cX1_assign 203 = .ok (.aload_n 0, 1) := by decide +kernel
theorem dX1_assign_204 : decode cX1_assign 204 = .ok (.getfield 39, 3) := by decide +kernel
theorem dX1_assign_207 : decode cX1_assign 207 = .ok (.iload 8, 2) := by decide +kernel
theorem dX1_assign_209 : decode cX1_assign 209 = .ok (.iload_n 2, 1) := by decide +kernel
theorem dX1_assign_210 : decode cX1_assign 210 = .ok (.iconst 1, 1) := by decide +kernel
theorem dX1_assign_211 : decode cX1_assign 211 = .ok (.if_icmp .eq 31, 3) := by decide +kernel
theorem dX1_assign_214 : decode cX1_assign 214 = .ok (.aload_n 0, 1) := by decide +kernel
theorem dX1_assign_215 : decode cX1_assign 215 = .ok (.getfield 21, 3) := by decide +kernel
theorem dX1_assign_218 : decode cX1_assign 218 = .ok (.iload 10, 2) := by decide +kernel
theorem dX1_assign_220 : decode cX1_assign 220 = .ok (.laload, 1) := by decide +kernel
theorem dX1_assign_221 : decode cX1_assign 221 = .ok (.lload 6, 2) := by decide +kernel
theorem dX1_assign_223 : decode cX1_assign 223 = .ok (.iload_n 2, 1) := by decide +kernel
theorem dX1_assign_224 : decode cX1_assign 224 = .ok (.ifCond .ne 12, 3) := by decide +kernel
theorem dX1_assign_227 : decode cX1_assign 227 = .ok (.aload_n 0, 1) := by decide +kernel
theorem dX1_assign_228 : decode cX1_assign 228 = .ok (.getfield 30, 3) := by decide +kernel
theorem dX1_assign_231 : decode cX1_assign 231 = .ok (.iconst 0, 1) := by decide +kernel
theorem dX1_assign_232 : decode cX1_assign 232 = .ok (.laload, 1) := by decide +kernel
theorem dX1_assign_233 : decode cX1_assign 233 = .ok (.goto 4, 3) := by decide +kernel
theorem dX1_assign_236 : decode cX1_assign 236 = .ok (.lload_n 3, 1) := by decide +kernel
theorem dX1_assign_237 : decode cX1_assign 237 = .ok (.lsub, 1) := by decide +kernel
theorem dX1_assign_238 : decode cX1_assign 238 = .ok (.lcmp, 1) := by decide +kernel
theorem dX1_assign_239 : decode cX1_assign 239 = .ok (.ifCond .ge 7, 3) := by decide +kernel
theorem dX1_assign_242 : decode cX1_assign 242 = .ok (.iconst 1, 1) := by decide +kernel
theorem dX1_assign_243 : decode cX1_assign 243 = .ok (.goto 4, 3) := by decide +kernel
theorem dX1_assign_246 : decode cX1_assign 246 = .ok (.iconst 0, 1) := by decide +kernel
theorem dX1_assign_247 : decode cX1_assign 247 = .ok (.bastore, 1) := by decide +kernel
theorem dX1_assign_248 : decode cX1_assign 248 = .ok (.iinc 8 1, 3) := by decide +kernel
theorem dX1_assign_251 : decode cX1_assign 251 = .ok (.iinc 10 1, 3) := by decide +kernel
theorem dX1_assign_254 : decode cX1_assign 254 = .ok (.goto (-115), 3) := by decide +kernel
theorem dX1_assign_257 : decode cX1_assign 257 = .ok (.iload 8, 2) := by decide +kernel
theorem dX1_assign_259 : decode cX1_assign 259 = .ok (.istore 10, 2) := by decide +kernel
theorem dX1_assign_261 : decode cX1_assign 261 = .ok (.iconst 0, 1) := by decide +kernel
theorem dX1_assign_262 : decode cX1_assign 262 = .ok (.istore 11, 2) := by decide +kernel
theorem dX1_assign_264 : decode cX1_assign 264 = .ok (.iload 11, 2) := by decide +kernel
theorem dX1_assign_266 : decode cX1_assign 266 = .ok (.aload_n 0, 1) := by decide +kernel
theorem dX1_assign_267 : decode cX1_assign 267 = .ok (.getfield 54, 3) := by decide +kernel
theorem dX1_assign_270 : decode cX1_assign 270 = .ok (.if_icmp .ge 53, 3) := by decide +kernel
theorem dX1_assign_273 : decode cX1_assign 273 = .ok (.aload_n 0, 1) := by decide +kernel
theorem dX1_assign_274 : decode cX1_assign 274 = .ok (.getfield 33, 3) := by decide +kernel
theorem dX1_assign_277 : decode cX1_assign 277 = .ok (.iload 8, 2) := by decide +kernel
theorem dX1_assign_279 : decode cX1_assign 279 = .ok (.aload_n 0, 1) := by decide +kernel
theorem dX1_assign_280 : decode cX1_assign 280 = .ok (.getfield 68, 3) := by decide +kernel
theorem dX1_assign_283 : decode cX1_assign 283 = .ok (.aload_n 0, 1) := by decide +kernel
theorem dX1_assign_284 : decode cX1_assign 284 = .ok (.getfield 30, 3) := by decide +kernel
theorem dX1_assign_287 : decode cX1_assign 287 = .ok (.iload 11, 2) := by decide +kernel
theorem dX1_assign_289 : decode cX1_assign 289 = .ok (.laload, 1) := by decide +kernel
theorem dX1_assign_290 : decode cX1_assign 290 = .ok (.ladd, 1) := by decide +kernel
theorem dX1_assign_291 : decode cX1_assign 291 = .ok (.lastore, 1) := by decide +kernel
theorem dX1_assign_292 : decode cX1_assign 292 = .ok (.aload_n 0, 1) := by decide +kernel
theorem dX1_assign_293 : decode cX1_assign 293 = .ok (.getfield 36, 3) := by decide +kernel
theorem dX1_assign_296 : decode cX1_assign 296 = .ok (.iload 8, 2) := by decide +kernel
theorem dX1_assign_298 : decode cX1_assign 298 = .ok (.aload_n 0, 1) := by decide +kernel
theorem dX1_assign_299 : decode cX1_assign 299 = .ok (.getfield 27, 3) := by decide +kernel
theorem dX1_assign_302 : decode cX1_assign 302 = .ok (.iload 11, 2) := by decide +kernel
theorem dX1_assign_304 : decode cX1_assign 304 = .ok (.laload, 1) := by decide +kernel
theorem dX1_assign_305 : decode cX1_assign 305 = .ok (.lastore, 1) := by decide +kernel
theorem dX1_assign_306 : decode cX1_assign 306 = .ok (.aload_n 0, 1) := by decide +kernel
theorem dX1_assign_307 : decode cX1_assign 307 = .ok (.getfield 39, 3) := by decide +kernel
theorem dX1_assign_310 : decode cX1_assign 310 = .ok (.iload 8, 2) := by decide +kernel
theorem dX1_assign_312 : decode cX1_assign 312 = .ok (.iconst 1, 1) := by decide +kernel
theorem dX1_assign_313 : decode cX1_assign 313 = .ok (.bastore, 1) := by decide +kernel
theorem dX1_assign_314 : decode cX1_assign 314 = .ok (.iinc 8 1, 3) := by decide +kernel
theorem dX1_assign_317 : decode cX1_assign 317 = .ok (.iinc 11 1, 3) := by decide +kernel
theorem dX1_assign_320 : decode cX1_assign 320 = .ok (.goto (-56), 3) := by decide +kernel
theorem dX1_assign_323 : decode cX1_assign 323 = .ok (.iload 10, 2) := by decide +kernel
theorem dX1_assign_325 : decode cX1_assign 325 = .ok (.iconst 1, 1) := by decide +kernel
theorem dX1_assign_326 : decode cX1_assign 326 = .ok (.isub, 1) := by decide +kernel
theorem dX1_assign_327 : decode cX1_assign 327 = .ok (.istore 11, 2) := by decide +kernel
theorem dX1_assign_329 : decode cX1_assign 329 = .ok (.iload 11, 2) := by decide +kernel
theorem dX1_assign_331 : decode cX1_assign 331 = .ok (.ifCond .lt 63, 3) := by decide +kernel
theorem dX1_assign_334 : decode cX1_assign 334 = .ok (.aload_n 0, 1) := by decide +kernel
theorem dX1_assign_335 : decode cX1_assign 335 = .ok (.getfield 39, 3) := by decide +kernel
theorem dX1_assign_338 : decode cX1_assign 338 = .ok (.iload 11, 2) := by decide +kernel
theorem dX1_assign_340 : decode cX1_assign 340 = .ok (.aload_n 0, 1) := by decide +kernel
theorem dX1_assign_341 : decode cX1_assign 341 = .ok (.getfield 39, 3) := by decide +kernel
theorem dX1_assign_344 : decode cX1_assign 344 = .ok (.iload 11, 2) := by decide +kernel
theorem dX1_assign_346 : decode cX1_assign 346 = .ok (.baload, 1) := by decide +kernel
theorem dX1_assign_347 : decode cX1_assign 347 = .ok (.ifCond .ne 35, 3) := by decide +kernel
theorem dX1_assign_350 : decode cX1_assign 350 = .ok (.aload_n 0, 1) := by decide +kernel
theorem dX1_assign_351 : decode cX1_assign 351 = .ok (.getfield 39, 3) := by decide +kernel
theorem dX1_assign_354 : decode cX1_assign 354 = .ok (.iload 11, 2) := by decide +kernel
theorem dX1_assign_356 : decode cX1_assign 356 = .ok (.iconst 1, 1) := by decide +kernel
theorem dX1_assign_357 : decode cX1_assign 357 = .ok (.iadd, 1) := by decide +kernel
theorem dX1_assign_358 : decode cX1_assign 358 = .ok (.baload, 1) := by decide +kernel
theorem dX1_assign_359 : decode cX1_assign 359 = .ok (.ifCond .eq 27, 3) := by decide +kernel
theorem dX1_assign_362 : decode cX1_assign 362 = .ok (.aload_n 0, 1) := by decide +kernel
theorem dX1_assign_363 : decode cX1_assign 363 = .ok (.getfield 36, 3) := by decide +kernel
theorem dX1_assign_366 : decode cX1_assign 366 = .ok (.iload 11, 2) := by decide +kernel
theorem dX1_assign_368 : decode cX1_assign 368 = .ok (.iconst 1, 1) := by decide +kernel
theorem dX1_assign_369 : decode cX1_assign 369 = .ok (.iadd, 1) := by decide +kernel
theorem dX1_assign_370 : decode cX1_assign 370 = .ok (.laload, 1) := by decide +kernel
theorem dX1_assign_371 : decode cX1_assign 371 = .ok (.aload_n 0, 1) := by decide +kernel
theorem dX1_assign_372 : decode cX1_assign 372 = .ok (.getfield 36, 3) := by decide +kernel
theorem dX1_assign_375 : decode cX1_assign 375 = .ok (.iload 11, 2) := by decide +kernel
theorem dX1_assign_377 : decode cX1_assign 377 = .ok (.laload, 1) := by decide +kernel
theorem dX1_assign_378 : decode cX1_assign 378 = .ok (.lcmp, 1) := by decide +kernel
theorem dX1_assign_379 : decode cX1_assign 379 = .ok (.ifCond .ne 7, 3) := by decide +kernel
theorem dX1_assign_382 : decode cX1_assign 382 = .ok (.iconst 1, 1) := by decide +kernel
theorem dX1_assign_383 : decode cX1_assign 383 = .ok (.goto 4, 3) := by decide +kernel
theorem dX1_assign_386 : decode cX1_assign 386 = .ok (.iconst 0, 1) := by decide +kernel
theorem dX1_assign_387 : decode cX1_assign 387 = .ok (.bastore, 1) := by decide +kernel
theorem dX1_assign_388 : decode cX1_assign 388 = .ok (.iinc 11 (-1), 3) := by decide +kernel
theorem dX1_assign_391 : decode cX1_assign 391 = .ok (.goto (-62), 3) := by decide +kernel
theorem dX1_assign_394 : decode cX1_assign 394 = .ok (.iconst 0, 1) := by decide +kernel
theorem dX1_assign_395 : decode cX1_assign 395 = .ok (.istore 11, 2) := by decide +kernel
theorem dX1_assign_397 : decode cX1_assign 397 = .ok (.iconst 0, 1) := by decide +kernel
theorem dX1_assign_398 : decode cX1_assign 398 = .ok (.istore 12, 2) := by decide +kernel
theorem dX1_assign_400 : decode cX1_assign 400 = .ok (.iload 12, 2) := by decide +kernel
theorem dX1_assign_402 : decode cX1_assign 402 = .ok (.iload 10, 2) := by decide +kernel
theorem dX1_assign_404 : decode cX1_assign 404 = .ok (.if_icmp .ge 30, 3) := by decide +kernel
theorem dX1_assign_407 : decode cX1_assign 407 = .ok (.aload_n 0, 1) := by decide +kernel
theorem dX1_assign_408 : decode cX1_assign 408 = .ok (.getfield 39, 3) := by decide +kernel
theorem dX1_assign_411 : decode cX1_assign 411 = .ok (.iload 12, 2) := by decide +kernel
theorem dX1_assign_413 : decode cX1_assign 413 = .ok (.baload, 1) := by decide +kernel
theorem dX1_assign_414 : decode cX1_assign 414 = .ok (.ifCond .eq 10, 3) := by decide +kernel
theorem dX1_assign_417 : decode cX1_assign 417 = .ok (.iload 11, 2) := by decide +kernel
theorem dX1_assign_419 : decode cX1_assign 419 = .ok (.iconst 1, 1) := by decide +kernel
theorem dX1_assign_420 : decode cX1_assign 420 = .ok (.iadd, 1) := by decide +kernel
theorem dX1_assign_421 : decode cX1_assign 421 = .ok (.goto 5, 3) := by decide +kernel
theorem dX1_assign_424 : decode cX1_assign 424 = .ok (.iload 11, 2) := by decide +kernel
theorem dX1_assign_426 : decode cX1_assign 426 = .ok (.istore 11, 2) := by decide +kernel
theorem dX1_assign_428 : decode cX1_assign 428 = .ok (.iinc 12 1, 3) := by decide +kernel
theorem dX1_assign_431 : decode cX1_assign 431 = .ok (.goto (-31), 3) := by decide +kernel
theorem dX1_assign_434 : decode cX1_assign 434 = .ok (.aload_n 0, 1) := by decide +kernel
theorem dX1_assign_435 : decode cX1_assign 435 = .ok (.getfield 57, 3) := by decide +kernel
theorem dX1_assign_438 : decode cX1_assign 438 = .ok (.iload 9, 2) := by decide +kernel
theorem dX1_assign_440 : decode cX1_assign 440 = .ok (.isub, 1) := by decide +kernel
theorem dX1_assign_441 : decode cX1_assign 441 = .ok (.iload 11, 2) := by decide +kernel
theorem dX1_assign_443 : decode cX1_assign 443 = .ok (.iadd, 1) := by decide +kernel
theorem dX1_assign_444 : decode cX1_assign 444 = .ok (.aload_n 0, 1) := by decide +kernel
theorem dX1_assign_445 : decode cX1_assign 445 = .ok (.getfield 54, 3) := by decide +kernel
theorem dX1_assign_448 : decode cX1_assign 448 = .ok (.iadd, 1) := by decide +kernel
theorem dX1_assign_449 : decode cX1_assign 449 = .ok (.aload_n 0, 1) := by decide +kernel
theorem dX1_assign_450 : decode cX1_assign 450 = .ok (.getfield 46, 3) := by decide +kernel
theorem dX1_assign_453 : decode cX1_assign 453 = .ok (.if_icmp .le 10, 3) := by decide +kernel
theorem dX1_assign_456 : decode cX1_assign 456 = .ok (.aload_n 0, 1) := by decide +kernel
theorem dX1_assign_457 : decode cX1_assign 457 = .ok (.iconst 2, 1) := by decide +kernel
theorem dX1_assign_458 : decode cX1_assign 458 = .ok (.putfield 49, 3) := by decide +kernel
theorem dX1_assign_461 : decode cX1_assign 461 = .ok (.iconst 0, 1) := by decide +kernel
theorem dX1_assign_462 : decode cX1_assign 462 = .ok (.ireturn, 1) := by decide +kernel
theorem dX1_assign_463 : decode cX1_assign 463 = .ok (.aload_n 0, 1) := by decide +kernel
theorem dX1_assign_464 : decode cX1_assign 464 = .ok (.iload_n 1, 1) := by decide +kernel
theorem dX1_assign_465 : decode cX1_assign 465 = .ok (.iload 8, 2) := by decide +kernel
theorem dX1_assign_467 : decode cX1_assign 467 = .ok (.invokevirtual 72, 3) := by decide +kernel
theorem dX1_assign_470 : decode cX1_assign 470 = .ok (.aload_n 0, 1) := by decide +kernel
theorem dX1_assign_471 : decode cX1_assign 471 = .ok (.iconst 0, 1) := by decide +kernel
theorem dX1_assign_472 : decode cX1_assign 472 = .ok (.putfield 54, 3) := by decide +kernel
theorem dX1_assign_475 : decode cX1_assign 475 = .ok (.iload 9, 2) := by decide +kernel
theorem dX1_assign_477 : decode cX1_assign 477 = .ok (.iload 11, 2) := by decide +kernel
theorem dX1_assign_479 : decode cX1_assign 479 = .ok (.isub, 1) := by decide +kernel
theorem dX1_assign_480 : decode cX1_assign 480 = .ok (.ireturn, 1) := by decide +kernel
theorem dX1_none_0 : decode cX1_none 0 = .ok (.iload_n 1, 1) := by decide +kernel
theorem dX1_none_1 : decode cX1_none 1 = .ok (.ifCond .lt 11, 3) := by decide +kernel
theorem dX1_none_4 : decode cX1_none 4 = .ok (.iload_n 1, 1) := by decide +kernel
theorem dX1_none_5 : decode cX1_none 5 = .ok (.aload_n 0, 1) := by decide +kernel
theorem dX1_none_6 : decode cX1_none 6 = .ok (.getfield 42, 3) := by decide +kernel
theorem dX1_none_9 : decode cX1_none 9 = .ok (.if_icmp .lt 7, 3) := by decide +kernel
theorem dX1_none_12 : decode cX1_none 12 = .ok (.iconst 1, 1) := by decide +kernel
theorem dX1_none_13 : decode cX1_none 13 = .ok (.goto 4, 3) := by decide +kernel
theorem dX1_none_16 : decode cX1_none 16 = .ok (.iconst 0, 1) := by decide +kernel
theorem dX1_none_17 : decode cX1_none 17 = .ok (.ireturn, 1) := by decide +kernel
theorem dX1_rises_0 : decode cX1_rises 0 = .ok (.iconst 1, 1) := by decide +kernel
theorem dX1_rises_1 : decode cX1_rises 1 = .ok (.istore_n 1, 1) := by decide +kernel
theorem dX1_rises_2 : decode cX1_rises 2 = .ok (.iconst 1, 1) := by decide +kernel
theorem dX1_rises_3 : decode cX1_rises 3 = .ok (.istore_n 2, 1) := by decide +kernel
theorem dX1_rises_4 : decode cX1_rises 4 = .ok (.iload_n 2, 1) := by decide +kernel
theorem dX1_rises_5 : decode cX1_rises 5 = .ok (.aload_n 0, 1) := by decide +kernel
theorem dX1_rises_6 : decode cX1_rises 6 = .ok (.getfield 54, 3) := by decide +kernel
theorem dX1_rises_9 : decode cX1_rises 9 = .ok (.if_icmp .ge 37, 3) := by decide +kernel
theorem dX1_rises_12 : decode cX1_rises 12 = .ok (.iload_n 1, 1) := by decide +kernel
theorem dX1_rises_13 : decode cX1_rises 13 = .ok (.ifCond .eq 25, 3) := by decide +kernel
theorem dX1_rises_16 : decode cX1_rises 16 = .ok (.aload_n 0, 1) := by decide +kernel
theorem dX1_rises_17 : decode cX1_rises 17 = .ok (.getfield 30, 3) := by decide +kernel
theorem dX1_rises_20 : decode cX1_rises 20 = .ok (.iload_n 2, 1) := by decide +kernel
theorem dX1_rises_21 : decode cX1_rises 21 = .ok (.laload, 1) := by decide +kernel
theorem dX1_rises_22 : decode cX1_rises 22 = .ok (.aload_n 0, 1) := by decide +kernel
theorem dX1_rises_23 : decode cX1_rises 23 = .ok (.getfield 30, 3) := by decide +kernel
theorem dX1_rises_26 : decode cX1_rises 26 = .ok (.iload_n 2, 1) := by decide +kernel
theorem dX1_rises_27 : decode cX1_rises 27 = .ok (.iconst 1, 1) := by decide +kernel
theorem dX1_rises_28 : decode cX1_rises 28 = .ok (.isub, 1) := by decide +kernel
theorem dX1_rises_29 : decode cX1_rises 29 = .ok (.laload, 1) := by decide +kernel
theorem dX1_rises_30 : decode cX1_rises 30 = .ok (.lcmp, 1) := by decide +kernel
theorem dX1_rises_31 : decode cX1_rises 31 = .ok (.ifCond .le 7, 3) := by decide +kernel
theorem dX1_rises_34 : decode cX1_rises 34 = .ok (.iconst 1, 1) := by decide +kernel
theorem dX1_rises_35 : decode cX1_rises 35 = .ok (.goto 4, 3) := by decide +kernel
theorem dX1_rises_38 : decode cX1_rises 38 = .ok (.iconst 0, 1) := by decide +kernel
theorem dX1_rises_39 : decode cX1_rises 39 = .ok (.istore_n 1, 1) := by decide +kernel
theorem dX1_rises_40 : decode cX1_rises 40 = .ok (.iinc 2 1, 3) := by decide +kernel
theorem dX1_rises_43 : decode cX1_rises 43 = .ok (.goto (-39), 3) := by decide +kernel
theorem dX1_rises_46 : decode cX1_rises 46 = .ok (.iload_n 1, 1) := by decide +kernel
theorem dX1_rises_47 : decode cX1_rises 47 = .ok (.ireturn, 1) := by decide +kernel
theorem dX1_replace_0 : decode cX1_replace 0 = .ok (.iconst 0, 1) := by decide +kernel
theorem dX1_replace_1 : decode cX1_replace 1 = .ok (.istore_n 3, 1) := by decide +kernel
theorem dX1_replace_2 : decode cX1_replace 2 = .ok (.iconst 0, 1) := by decide +kernel
theorem dX1_replace_3 : decode cX1_replace 3 = .ok (.istore 4, 2) := by decide +kernel
theorem dX1_replace_5 : decode cX1_replace 5 = .ok (.iload 4, 2) := by decide +kernel
theorem dX1_replace_7 : decode cX1_replace 7 = .ok (.aload_n 0, 1) := by decide +kernel
theorem dX1_replace_8 : decode cX1_replace 8 = .ok (.getfield 57, 3) := by decide +kernel
theorem dX1_replace_11 : decode cX1_replace 11 = .ok (.if_icmp .ge 62, 3) := by decide +kernel
theorem dX1_replace_14 : decode cX1_replace 14 = .ok (.aload_n 0, 1) := by decide +kernel
theorem dX1_replace_15 : decode cX1_replace 15 = .ok (.getfield 17, 3) := by decide +kernel
theorem dX1_replace_18 : decode cX1_replace 18 = .ok (.iload 4, 2) := by decide +kernel
theorem dX1_replace_20 : decode cX1_replace 20 = .ok (.iaload, 1) := by decide +kernel
theorem dX1_replace_21 : decode cX1_replace 21 = .ok (.iload_n 1, 1) := by decide +kernel
theorem dX1_replace_22 : decode cX1_replace 22 = .ok (.if_icmp .eq 45, 3) := by decide +kernel
theorem dX1_replace_25 : decode cX1_replace 25 = .ok (.aload_n 0, 1) := by decide +kernel
theorem dX1_replace_26 : decode cX1_replace 26 = .ok (.getfield 17, 3) := by decide +kernel
theorem dX1_replace_29 : decode cX1_replace 29 = .ok (.iload_n 3, 1) := by decide +kernel
theorem dX1_replace_30 : decode cX1_replace 30 = .ok (.aload_n 0, 1) := by decide +kernel
theorem dX1_replace_31 : decode cX1_replace 31 = .ok (.getfield 17, 3) := by decide +kernel
theorem dX1_replace_34 : decode cX1_replace 34 = .ok (.iload 4, 2) := by decide +kernel
theorem dX1_replace_36 : decode cX1_replace 36 = .ok (.iaload, 1) := by decide +kernel
theorem dX1_replace_37 : decode cX1_replace 37 = .ok (.iastore, 1) := by decide +kernel
theorem dX1_replace_38 : decode cX1_replace 38 = .ok (.aload_n 0, 1) := by decide +kernel
theorem dX1_replace_39 : decode cX1_replace 39 = .ok (.getfield 21, 3) := by decide +kernel
theorem dX1_replace_42 : decode cX1_replace 42 = .ok (.iload_n 3, 1) := by decide +kernel
theorem dX1_replace_43 : decode cX1_replace 43 = .ok (.aload_n 0, 1) := by decide +kernel
theorem dX1_replace_44 : decode cX1_replace 44 = .ok (.getfield 21, 3) := by decide +kernel
theorem dX1_replace_47 : decode cX1_replace 47 = .ok (.iload 4, 2) := by decide +kernel
theorem dX1_replace_49 : decode cX1_replace 49 = .ok (.laload, 1) := by decide +kernel
theorem dX1_replace_50 : decode cX1_replace 50 = .ok (.lastore, 1) := by decide +kernel
theorem dX1_replace_51 : decode cX1_replace 51 = .ok (.aload_n 0, 1) := by decide +kernel
theorem dX1_replace_52 : decode cX1_replace 52 = .ok (.getfield 24, 3) := by decide +kernel
theorem dX1_replace_55 : decode cX1_replace 55 = .ok (.iload_n 3, 1) := by decide +kernel
theorem dX1_replace_56 : decode cX1_replace 56 = .ok (.aload_n 0, 1) := by decide +kernel
theorem dX1_replace_57 : decode cX1_replace 57 = .ok (.getfield 24, 3) := by decide +kernel
theorem dX1_replace_60 : decode cX1_replace 60 = .ok (.iload 4, 2) := by decide +kernel
theorem dX1_replace_62 : decode cX1_replace 62 = .ok (.laload, 1) := by decide +kernel
theorem dX1_replace_63 : decode cX1_replace 63 = .ok (.lastore, 1) := by decide +kernel
theorem dX1_replace_64 : decode cX1_replace 64 = .ok (.iinc 3 1, 3) := by decide +kernel
theorem dX1_replace_67 : decode cX1_replace 67 = .ok (.iinc 4 1, 3) := by decide +kernel
theorem dX1_replace_70 : decode cX1_replace 70 = .ok (.goto (-65), 3) := by decide +kernel
theorem dX1_replace_73 : decode cX1_replace 73 = .ok (.aload_n 0, 1) := by decide +kernel
theorem dX1_replace_74 : decode cX1_replace 74 = .ok (.iload_n 3, 1) := by decide +kernel
theorem dX1_replace_75 : decode cX1_replace 75 = .ok (.putfield 57, 3) := by decide +kernel
theorem dX1_replace_78 : decode cX1_replace 78 = .ok (.iconst 0, 1) := by decide +kernel
theorem dX1_replace_79 : decode cX1_replace 79 = .ok (.istore 4, 2) := by decide +kernel
theorem dX1_replace_81 : decode cX1_replace 81 = .ok (.iload 4, 2) := by decide +kernel
theorem dX1_replace_83 : decode cX1_replace 83 = .ok (.iload_n 2, 1) := by decide +kernel
theorem dX1_replace_84 : decode cX1_replace 84 = .ok (.if_icmp .ge 71, 3) := by decide +kernel
theorem dX1_replace_87 : decode cX1_replace 87 = .ok (.aload_n 0, 1) := by decide +kernel
theorem dX1_replace_88 : decode cX1_replace 88 = .ok (.getfield 39, 3) := by decide +kernel
theorem dX1_replace_91 : decode cX1_replace 91 = .ok (.iload 4, 2) := by decide +kernel
theorem dX1_replace_93 : decode cX1_replace 93 = .ok (.baload, 1) := by decide +kernel
theorem dX1_replace_94 : decode cX1_replace 94 = .ok (.ifCond .eq 55, 3) := by decide +kernel
theorem dX1_replace_97 : decode cX1_replace 97 = .ok (.aload_n 0, 1) := by decide +kernel
theorem dX1_replace_98 : decode cX1_replace 98 = .ok (.getfield 17, 3) := by decide +kernel
theorem dX1_replace_101 : decode cX1_replace 101 = .ok (.aload_n 0, 1) := by decide +kernel
theorem dX1_replace_102 : decode cX1_replace 102 = .ok (.getfield 57, 3) := by decide +kernel
theorem dX1_replace_105 : decode cX1_replace 105 = .ok (.iload_n 1, 1) := by decide +kernel
theorem dX1_replace_106 : decode cX1_replace 106 = .ok (.iastore, 1) := by decide +kernel
theorem dX1_replace_107 : decode cX1_replace 107 = .ok (.aload_n 0, 1) := by decide +kernel
theorem dX1_replace_108 : decode cX1_replace 108 = .ok (.getfield 21, 3) := by decide +kernel
theorem dX1_replace_111 : decode cX1_replace 111 = .ok (.aload_n 0, 1) := by decide +kernel
theorem dX1_replace_112 : decode cX1_replace 112 = .ok (.getfield 57, 3) := by decide +kernel
theorem dX1_replace_115 : decode cX1_replace 115 = .ok (.aload_n 0, 1) := by decide +kernel
theorem dX1_replace_116 : decode cX1_replace 116 = .ok (.getfield 33, 3) := by decide +kernel
theorem dX1_replace_119 : decode cX1_replace 119 = .ok (.iload 4, 2) := by decide +kernel
theorem dX1_replace_121 : decode cX1_replace 121 = .ok (.laload, 1) := by decide +kernel
theorem dX1_replace_122 : decode cX1_replace 122 = .ok (.lastore, 1) := by decide +kernel
theorem dX1_replace_123 : decode cX1_replace 123 = .ok (.aload_n 0, 1) := by decide +kernel
theorem dX1_replace_124 : decode cX1_replace 124 = .ok (.getfield 24, 3) := by decide +kernel
theorem dX1_replace_127 : decode cX1_replace 127 = .ok (.aload_n 0, 1) := by decide +kernel
theorem dX1_replace_128 : decode cX1_replace 128 = .ok (.getfield 57, 3) := by decide +kernel
theorem dX1_replace_131 : decode cX1_replace 131 = .ok (.aload_n 0, 1) := by decide +kernel
theorem dX1_replace_132 : decode cX1_replace 132 = .ok (.getfield 36, 3) := by decide +kernel
theorem dX1_replace_135 : decode cX1_replace 135 = .ok (.iload 4, 2) := by decide +kernel
theorem dX1_replace_137 : decode cX1_replace 137 = .ok (.laload, 1) := by decide +kernel
theorem dX1_replace_138 : decode cX1_replace 138 = .ok (.lastore, 1) := by decide +kernel
theorem dX1_replace_139 : decode cX1_replace 139 = .ok (.aload_n 0, 1) := by decide +kernel
theorem dX1_replace_140 : decode cX1_replace 140 = .ok (.dup, 1) := by decide +kernel
theorem dX1_replace_141 : decode cX1_replace 141 = .ok (.getfield 57, 3) := by decide +kernel
theorem dX1_replace_144 : decode cX1_replace 144 = .ok (.iconst 1, 1) := by decide +kernel
theorem dX1_replace_145 : decode cX1_replace 145 = .ok (.iadd, 1) := by decide +kernel
theorem dX1_replace_146 : decode cX1_replace 146 = .ok (.putfield 57, 3) := by decide +kernel
theorem dX1_replace_149 : decode cX1_replace 149 = .ok (.iinc 4 1, 3) := by decide +kernel
theorem dX1_replace_152 : decode cX1_replace 152 = .ok (.goto (-71), 3) := by decide +kernel
theorem dX1_replace_155 : decode cX1_replace 155 = .ok (.return_, 1) := by decide +kernel
theorem dX1_start_0 : decode cX1_start 0 = .ok (.aload_n 0, 1) := by decide +kernel
theorem dX1_start_1 : decode cX1_start 1 = .ok (.aload_n 0, 1) := by decide +kernel
theorem dX1_start_2 : decode cX1_start 2 = .ok (.iload_n 1, 1) := by decide +kernel
theorem dX1_start_3 : decode cX1_start 3 = .ok (.invokevirtual 60, 3) := by decide +kernel
theorem dX1_start_6 : decode cX1_start 6 = .ok (.ifCond .eq 7, 3) := by decide +kernel
theorem dX1_start_9 : decode cX1_start 9 = .ok (.iconst 1, 1) := by decide +kernel
theorem dX1_start_10 : decode cX1_start 10 = .ok (.goto 4, 3) := by decide +kernel
theorem dX1_start_13 : decode cX1_start 13 = .ok (.iconst 0, 1) := by decide +kernel
theorem dX1_start_14 : decode cX1_start 14 = .ok (.putfield 49, 3) := by decide +kernel
theorem dX1_start_17 : decode cX1_start 17 = .ok (.aload_n 0, 1) := by decide +kernel
theorem dX1_start_18 : decode cX1_start 18 = .ok (.getfield 49, 3) := by decide +kernel
theorem dX1_start_21 : decode cX1_start 21 = .ok (.ifCond .le 5, 3) := by decide +kernel
theorem dX1_start_24 : decode cX1_start 24 = .ok (.iconst 0, 1) := by decide +kernel
theorem dX1_start_25 : decode cX1_start 25 = .ok (.ireturn, 1) := by decide +kernel
theorem dX1_start_26 : decode cX1_start 26 = .ok (.aload_n 0, 1) := by decide +kernel
theorem dX1_start_27 : decode cX1_start 27 = .ok (.getfield 57, 3) := by decide +kernel
theorem dX1_start_30 : decode cX1_start 30 = .ok (.istore 4, 2) := by decide +kernel
theorem dX1_start_32 : decode cX1_start 32 = .ok (.aload_n 0, 1) := by decide +kernel
theorem dX1_start_33 : decode cX1_start 33 = .ok (.iload_n 1, 1) := by decide +kernel
theorem dX1_start_34 : decode cX1_start 34 = .ok (.iconst 0, 1) := by decide +kernel
theorem dX1_start_35 : decode cX1_start 35 = .ok (.invokevirtual 72, 3) := by decide +kernel
theorem dX1_start_38 : decode cX1_start 38 = .ok (.aload_n 0, 1) := by decide +kernel
theorem dX1_start_39 : decode cX1_start 39 = .ok (.getfield 7, 3) := by decide +kernel
theorem dX1_start_42 : decode cX1_start 42 = .ok (.iload_n 1, 1) := by decide +kernel
theorem dX1_start_43 : decode cX1_start 43 = .ok (.lload_n 2, 1) := by decide +kernel
theorem dX1_start_44 : decode cX1_start 44 = .ok (.lastore, 1) := by decide +kernel
theorem dX1_start_45 : decode cX1_start 45 = .ok (.iload 4, 2) := by decide +kernel
theorem dX1_start_47 : decode cX1_start 47 = .ok (.aload_n 0, 1) := by decide +kernel
theorem dX1_start_48 : decode cX1_start 48 = .ok (.getfield 57, 3) := by decide +kernel
theorem dX1_start_51 : decode cX1_start 51 = .ok (.isub, 1) := by decide +kernel
theorem dX1_start_52 : decode cX1_start 52 = .ok (.ireturn, 1) := by decide +kernel
theorem dX1_advance_0 : decode cX1_advance 0 = .ok (.aload_n 0, 1) := by decide +kernel
theorem dX1_advance_1 : decode cX1_advance 1 = .ok (.lload_n 1, 1) := by decide +kernel
theorem dX1_advance_2 : decode cX1_advance 2 = .ok (.aload_n 0, 1) := by decide +kernel
theorem dX1_advance_3 : decode cX1_advance 3 = .ok (.getfield 68, 3) := by decide +kernel
theorem dX1_advance_6 : decode cX1_advance 6 = .ok (.lcmp, 1) := by decide +kernel
theorem dX1_advance_7 : decode cX1_advance 7 = .ok (.ifCond .lt 11, 3) := by decide +kernel
theorem dX1_advance_10 : decode cX1_advance 10 = .ok (.lload_n 1, 1) := by decide +kernel
theorem dX1_advance_11 : decode cX1_advance 11 = .ok (.ldc2_w 52, 3) := by decide +kernel
theorem dX1_advance_14 : decode cX1_advance 14 = .ok (.lcmp, 1) := by decide +kernel
theorem dX1_advance_15 : decode cX1_advance 15 = .ok (.ifCond .le 7, 3) := by decide +kernel
theorem dX1_advance_18 : decode cX1_advance 18 = .ok (.iconst 1, 1) := by decide +kernel
theorem dX1_advance_19 : decode cX1_advance 19 = .ok (.goto 4, 3) := by decide +kernel
theorem dX1_advance_22 : decode cX1_advance 22 = .ok (.iconst 0, 1) := by decide +kernel
theorem dX1_advance_23 : decode cX1_advance 23 = .ok (.putfield 49, 3) := by decide +kernel
theorem dX1_advance_26 : decode cX1_advance 26 = .ok (.aload_n 0, 1) := by decide +kernel
theorem dX1_advance_27 : decode cX1_advance 27 = .ok (.getfield 49, 3) := by decide +kernel
theorem dX1_advance_30 : decode cX1_advance 30 = .ok (.ifCond .le 5, 3) := by decide +kernel
theorem dX1_advance_33 : decode cX1_advance 33 = .ok (.iconst 0, 1) := by decide +kernel
theorem dX1_advance_34 : decode cX1_advance 34 = .ok (.ireturn, 1) := by decide +kernel
theorem dX1_advance_35 : decode cX1_advance 35 = .ok (.aload_n 0, 1) := by decide +kernel
theorem dX1_advance_36 : decode cX1_advance 36 = .ok (.lload_n 1, 1) := by decide +kernel
theorem dX1_advance_37 : decode cX1_advance 37 = .ok (.putfield 68, 3) := by decide +kernel
theorem dX1_advance_40 : decode cX1_advance 40 = .ok (.iconst 0, 1) := by decide +kernel
theorem dX1_advance_41 : decode cX1_advance 41 = .ok (.istore_n 3, 1) := by decide +kernel
theorem dX1_advance_42 : decode cX1_advance 42 = .ok (.iload_n 3, 1) := by decide +kernel
theorem dX1_advance_43 : decode cX1_advance 43 = .ok (.aload_n 0, 1) := by decide +kernel
theorem dX1_advance_44 : decode cX1_advance 44 = .ok (.getfield 42, 3) := by decide +kernel
theorem dX1_advance_47 : decode cX1_advance 47 = .ok (.if_icmp .ge 16, 3) := by decide +kernel
theorem dX1_advance_50 : decode cX1_advance 50 = .ok (.aload_n 0, 1) := by decide +kernel
theorem dX1_advance_51 : decode cX1_advance 51 = .ok (.getfield 13, 3) := by decide +kernel
theorem dX1_advance_54 : decode cX1_advance 54 = .ok (.iload_n 3, 1) := by decide +kernel
theorem dX1_advance_55 : decode cX1_advance 55 = .ok (.iconst 0, 1) := by decide +kernel
theorem dX1_advance_56 : decode cX1_advance 56 = .ok (.bastore, 1) := by decide +kernel
theorem dX1_advance_57 : decode cX1_advance 57 = .ok (.iinc 3 1, 3) := by decide +kernel
theorem dX1_advance_60 : decode cX1_advance 60 = .ok (.goto (-18), 3) := by decide +kernel
theorem dX1_advance_63 : decode cX1_advance 63 = .ok (.iconst 0, 1) := by decide +kernel
theorem dX1_advance_64 : decode cX1_advance 64 = .ok (.istore_n 3, 1) := by decide +kernel
theorem dX1_advance_65 : decode cX1_advance 65 = .ok (.iconst 0, 1) := by decide +kernel
theorem dX1_advance_66 : decode cX1_advance 66 = .ok (.istore 4, 2) := by decide +kernel
theorem dX1_advance_68 : decode cX1_advance 68 = .ok (.iload 4, 2) := by decide +kernel
theorem dX1_advance_70 : decode cX1_advance 70 = .ok (.aload_n 0, 1) := by decide +kernel
theorem dX1_advance_71 : decode cX1_advance 71 = .ok (.getfield 57, 3) := by decide +kernel
theorem dX1_advance_74 : decode cX1_advance 74 = .ok (.if_icmp .ge 98, 3) := by decide +kernel
theorem dX1_advance_77 : decode cX1_advance 77 = .ok (.aload_n 0, 1) := by decide +kernel
theorem dX1_advance_78 : decode cX1_advance 78 = .ok (.getfield 21, 3) := by decide +kernel
theorem dX1_advance_81 : decode cX1_advance 81 = .ok (.iload 4, 2) := by decide +kernel
theorem dX1_advance_83 : decode cX1_advance 83 = .ok (.laload, 1) := by decide +kernel
theorem dX1_advance_84 : decode cX1_advance 84 = .ok (.lload_n 1, 1) := by decide +kernel
theorem dX1_advance_85 : decode cX1_advance 85 = .ok (.lcmp, 1) := by decide +kernel
theorem dX1_advance_86 : decode cX1_advance 86 = .ok (.ifCond .gt 38, 3) := by decide +kernel
theorem dX1_advance_89 : decode cX1_advance 89 = .ok (.aload_n 0, 1) := by decide +kernel
theorem dX1_advance_90 : decode cX1_advance 90 = .ok (.getfield 13, 3) := by decide +kernel
theorem dX1_advance_93 : decode cX1_advance 93 = .ok (.aload_n 0, 1) := by decide +kernel
theorem dX1_advance_94 : decode cX1_advance 94 = .ok (.getfield 17, 3) := by decide +kernel
theorem dX1_advance_97 : decode cX1_advance 97 = .ok (.iload 4, 2) := by decide +kernel
theorem dX1_advance_99 : decode cX1_advance 99 = .ok (.iaload, 1) := by decide +kernel
theorem dX1_advance_100 : decode cX1_advance 100 = .ok (.iconst 1, 1) := by decide +kernel
theorem dX1_advance_101 : decode cX1_advance 101 = .ok (.bastore, 1) := by decide +kernel
theorem dX1_advance_102 : decode cX1_advance 102 = .ok (.aload_n 0, 1) := by decide +kernel
theorem dX1_advance_103 : decode cX1_advance 103 = .ok (.getfield 7, 3) := by decide +kernel
theorem dX1_advance_106 : decode cX1_advance 106 = .ok (.aload_n 0, 1) := by decide +kernel
theorem dX1_advance_107 : decode cX1_advance 107 = .ok (.getfield 17, 3) := by decide +kernel
theorem dX1_advance_110 : decode cX1_advance 110 = .ok (.iload 4, 2) := by decide +kernel
theorem dX1_advance_112 : decode cX1_advance 112 = .ok (.iaload, 1) := by decide +kernel
theorem dX1_advance_113 : decode cX1_advance 113 = .ok (.aload_n 0, 1) := by decide +kernel
theorem dX1_advance_114 : decode cX1_advance 114 = .ok (.getfield 24, 3) := by decide +kernel
theorem dX1_advance_117 : decode cX1_advance 117 = .ok (.iload 4, 2) := by decide +kernel
theorem dX1_advance_119 : decode cX1_advance 119 = .ok (.laload, 1) := by decide +kernel
theorem dX1_advance_120 : decode cX1_advance 120 = .ok (.lastore, 1) := by decide +kernel
theorem dX1_advance_121 : decode cX1_advance 121 = .ok (.goto 45, 3) := by decide +kernel
theorem dX1_advance_124 : decode cX1_advance 124 = .ok (.aload_n 0, 1) := by decide +kernel
theorem dX1_advance_125 : decode cX1_advance 125 = .ok (.getfield 17, 3) := by decide +kernel
theorem dX1_advance_128 : decode cX1_advance 128 = .ok (.iload_n 3, 1) := by decide +kernel
theorem dX1_advance_129 : decode cX1_advance 129 = .ok (.aload_n 0, 1) := by decide +kernel
theorem dX1_advance_130 : decode cX1_advance 130 = .ok (.getfield 17, 3) := by decide +kernel
theorem dX1_advance_133 : decode cX1_advance 133 = .ok (.iload 4, 2) := by decide +kernel
theorem dX1_advance_135 : decode cX1_advance 135 = .ok (.iaload, 1) := by decide +kernel
theorem dX1_advance_136 : decode cX1_advance 136 = .ok (.iastore, 1) := by decide +kernel
theorem dX1_advance_137 : decode cX1_advance 137 = .ok (.aload_n 0, 1) := by decide +kernel
theorem dX1_advance_138 : decode cX1_advance 138 = .ok (.getfield 21, 3) := by decide +kernel
theorem dX1_advance_141 : decode cX1_advance 141 = .ok (.iload_n 3, 1) := by decide +kernel
theorem dX1_advance_142 : decode cX1_advance 142 = .ok (.aload_n 0, 1) := by decide +kernel
theorem dX1_advance_143 : decode cX1_advance 143 = .ok (.getfield 21, 3) := by decide +kernel
theorem dX1_advance_146 : decode cX1_advance 146 = .ok (.iload 4, 2) := by decide +kernel
theorem dX1_advance_148 : decode cX1_advance 148 = .ok (.laload, 1) := by decide +kernel
theorem dX1_advance_149 : decode cX1_advance 149 = .ok (.lastore, 1) := by decide +kernel
theorem dX1_advance_150 : decode cX1_advance 150 = .ok (.aload_n 0, 1) := by decide +kernel
theorem dX1_advance_151 : decode cX1_advance 151 = .ok (.getfield 24, 3) := by decide +kernel
theorem dX1_advance_154 : decode cX1_advance 154 = .ok (.iload_n 3, 1) := by decide +kernel
theorem dX1_advance_155 : decode cX1_advance 155 = .ok (.aload_n 0, 1) := by decide +kernel
theorem dX1_advance_156 : decode cX1_advance 156 = .ok (.getfield 24, 3) := by decide +kernel
theorem dX1_advance_159 : decode cX1_advance 159 = .ok (.iload 4, 2) := by decide +kernel
theorem dX1_advance_161 : decode cX1_advance 161 = .ok (.laload, 1) := by decide +kernel
theorem dX1_advance_162 : decode cX1_advance 162 = .ok (.lastore, 1) := by decide +kernel
theorem dX1_advance_163 : decode cX1_advance 163 = .ok (.iinc 3 1, 3) := by decide +kernel
theorem dX1_advance_166 : decode cX1_advance 166 = .ok (.iinc 4 1, 3) := by decide +kernel
theorem dX1_advance_169 : decode cX1_advance 169 = .ok (.goto (-101), 3) := by decide +kernel
theorem dX1_advance_172 : decode cX1_advance 172 = .ok (.aload_n 0, 1) := by decide +kernel
theorem dX1_advance_173 : decode cX1_advance 173 = .ok (.iload_n 3, 1) := by decide +kernel
theorem dX1_advance_174 : decode cX1_advance 174 = .ok (.putfield 57, 3) := by decide +kernel
theorem dX1_advance_177 : decode cX1_advance 177 = .ok (.iconst 0, 1) := by decide +kernel
theorem dX1_advance_178 : decode cX1_advance 178 = .ok (.istore 4, 2) := by decide +kernel
theorem dX1_advance_180 : decode cX1_advance 180 = .ok (.iconst 0, 1) := by decide +kernel
theorem dX1_advance_181 : decode cX1_advance 181 = .ok (.istore 5, 2) := by decide +kernel
theorem dX1_advance_183 : decode cX1_advance 183 = .ok (.iload 5, 2) := by decide +kernel
theorem dX1_advance_185 : decode cX1_advance 185 = .ok (.aload_n 0, 1) := by decide +kernel
theorem dX1_advance_186 : decode cX1_advance 186 = .ok (.getfield 42, 3) := by decide +kernel
theorem dX1_advance_189 : decode cX1_advance 189 = .ok (.if_icmp .ge 30, 3) := by decide +kernel
theorem dX1_advance_192 : decode cX1_advance 192 = .ok (.aload_n 0, 1) := by decide +kernel
theorem dX1_advance_193 : decode cX1_advance 193 = .ok (.getfield 13, 3) := by decide +kernel
theorem dX1_advance_196 : decode cX1_advance 196 = .ok (.iload 5, 2) := by decide +kernel
theorem dX1_advance_198 : decode cX1_advance 198 = .ok (.baload, 1) := by decide +kernel
theorem dX1_advance_199 : decode cX1_advance 199 = .ok (.ifCond .eq 10, 3) := by decide +kernel
theorem dX1_advance_202 : decode cX1_advance 202 = .ok (.iload 4, 2) := by decide +kernel
theorem dX1_advance_204 : decode cX1_advance 204 = .ok (.iconst 1, 1) := by decide +kernel
theorem dX1_advance_205 : decode cX1_advance 205 = .ok (.iadd, 1) := by decide +kernel
theorem dX1_advance_206 : decode cX1_advance 206 = .ok (.goto 5, 3) := by decide +kernel
theorem dX1_advance_209 : decode cX1_advance 209 = .ok (.iload 4, 2) := by decide +kernel
theorem dX1_advance_211 : decode cX1_advance 211 = .ok (.istore 4, 2) := by decide +kernel
theorem dX1_advance_213 : decode cX1_advance 213 = .ok (.iinc 5 1, 3) := by decide +kernel
theorem dX1_advance_216 : decode cX1_advance 216 = .ok (.goto (-33), 3) := by decide +kernel
theorem dX1_advance_219 : decode cX1_advance 219 = .ok (.iload 4, 2) := by decide +kernel
theorem dX1_advance_221 : decode cX1_advance 221 = .ok (.ireturn, 1) := by decide +kernel
theorem dX1_active_0 : decode cX1_active 0 = .ok (.aload_n 0, 1) := by decide +kernel
theorem dX1_active_1 : decode cX1_active 1 = .ok (.iconst 0, 1) := by decide +kernel
theorem dX1_active_2 : decode cX1_active 2 = .ok (.putfield 49, 3) := by decide +kernel
theorem dX1_active_5 : decode cX1_active 5 = .ok (.iconst 0, 1) := by decide +kernel
theorem dX1_active_6 : decode cX1_active 6 = .ok (.istore_n 2, 1) := by decide +kernel
theorem dX1_active_7 : decode cX1_active 7 = .ok (.iconst 0, 1) := by decide +kernel
theorem dX1_active_8 : decode cX1_active 8 = .ok (.istore_n 3, 1) := by decide +kernel
theorem dX1_active_9 : decode cX1_active 9 = .ok (.iload_n 3, 1) := by decide +kernel
theorem dX1_active_10 : decode cX1_active 10 = .ok (.aload_n 0, 1) := by decide +kernel
theorem dX1_active_11 : decode cX1_active 11 = .ok (.getfield 42, 3) := by decide +kernel
theorem dX1_active_14 : decode cX1_active 14 = .ok (.if_icmp .ge 32, 3) := by decide +kernel
theorem dX1_active_17 : decode cX1_active 17 = .ok (.iload_n 1, 1) := by decide +kernel
theorem dX1_active_18 : decode cX1_active 18 = .ok (.ifCond .lt 28, 3) := by decide +kernel
theorem dX1_active_21 : decode cX1_active 21 = .ok (.aload_n 0, 1) := by decide +kernel
theorem dX1_active_22 : decode cX1_active 22 = .ok (.getfield 13, 3) := by decide +kernel
theorem dX1_active_25 : decode cX1_active 25 = .ok (.iload_n 3, 1) := by decide +kernel
theorem dX1_active_26 : decode cX1_active 26 = .ok (.baload, 1) := by decide +kernel
theorem dX1_active_27 : decode cX1_active 27 = .ok (.ifCond .eq 13, 3) := by decide +kernel
theorem dX1_active_30 : decode cX1_active 30 = .ok (.iload_n 2, 1) := by decide +kernel
theorem dX1_active_31 : decode cX1_active 31 = .ok (.iload_n 1, 1) := by decide +kernel
theorem dX1_active_32 : decode cX1_active 32 = .ok (.if_icmp .ne 5, 3) := by decide +kernel
theorem dX1_active_35 : decode cX1_active 35 = .ok (.iload_n 3, 1) := by decide +kernel
theorem dX1_active_36 : decode cX1_active 36 = .ok (.ireturn, 1) := by decide +kernel
theorem dX1_active_37 : decode cX1_active 37 = .ok (.iinc 2 1, 3) := by decide +kernel
theorem dX1_active_40 : decode cX1_active 40 = .ok (.iinc 3 1, 3) := by decide +kernel
theorem dX1_active_43 : decode cX1_active 43 = .ok (.goto (-34), 3) := by decide +kernel
theorem dX1_active_46 : decode cX1_active 46 = .ok (.iconst (-1), 1) := by decide +kernel
theorem dX1_active_47 : decode cX1_active 47 = .ok (.ireturn, 1) := by decide +kernel
theorem dX1_now_0 : decode cX1_now 0 = .ok (.aload_n 0, 1) := by decide +kernel
theorem dX1_now_1 : decode cX1_now 1 = .ok (.iconst 0, 1) := by decide +kernel
theorem dX1_now_2 : decode cX1_now 2 = .ok (.putfield 49, 3) := by decide +kernel
theorem dX1_now_5 : decode cX1_now 5 = .ok (.aload_n 0, 1) := by decide +kernel
theorem dX1_now_6 : decode cX1_now 6 = .ok (.getfield 68, 3) := by decide +kernel
theorem dX1_now_9 : decode cX1_now 9 = .ok (.lreturn, 1) := by decide +kernel
theorem dX1_next_0 : decode cX1_next 0 = .ok (.aload_n 0, 1) := by decide +kernel
theorem dX1_next_1 : decode cX1_next 1 = .ok (.iconst 0, 1) := by decide +kernel
theorem dX1_next_2 : decode cX1_next 2 = .ok (.putfield 49, 3) := by decide +kernel
theorem dX1_next_5 : decode cX1_next 5 = .ok (.ldc2_w 76, 3) := by decide +kernel
theorem dX1_next_8 : decode cX1_next 8 = .ok (.lstore_n 1, 1) := by decide +kernel
theorem dX1_next_9 : decode cX1_next 9 = .ok (.iconst 0, 1) := by decide +kernel
theorem dX1_next_10 : decode cX1_next 10 = .ok (.istore_n 3, 1) := by decide +kernel
theorem dX1_next_11 : decode cX1_next 11 = .ok (.iload_n 3, 1) := by decide +kernel
theorem dX1_next_12 : decode cX1_next 12 = .ok (.aload_n 0, 1) := by decide +kernel
theorem dX1_next_13 : decode cX1_next 13 = .ok (.getfield 57, 3) := by decide +kernel
theorem dX1_next_16 : decode cX1_next 16 = .ok (.if_icmp .ge 39, 3) := by decide +kernel
theorem dX1_next_19 : decode cX1_next 19 = .ok (.lload_n 1, 1) := by decide +kernel
theorem dX1_next_20 : decode cX1_next 20 = .ok (.ldc2_w 76, 3) := by decide +kernel
theorem dX1_next_23 : decode cX1_next 23 = .ok (.lcmp, 1) := by decide +kernel
theorem dX1_next_24 : decode cX1_next 24 = .ok (.ifCond .eq 14, 3) := by decide +kernel
theorem dX1_next_27 : decode cX1_next 27 = .ok (.aload_n 0, 1) := by decide +kernel
theorem dX1_next_28 : decode cX1_next 28 = .ok (.getfield 21, 3) := by decide +kernel
theorem dX1_next_31 : decode cX1_next 31 = .ok (.iload_n 3, 1) := by decide +kernel
theorem dX1_next_32 : decode cX1_next 32 = .ok (.laload, 1) := by decide +kernel
theorem dX1_next_33 : decode cX1_next 33 = .ok (.lload_n 1, 1) := by decide +kernel
theorem dX1_next_34 : decode cX1_next 34 = .ok (.lcmp, 1) := by decide +kernel
theorem dX1_next_35 : decode cX1_next 35 = .ok (.ifCond .ge 12, 3) := by decide +kernel
theorem dX1_next_38 : decode cX1_next 38 = .ok (.aload_n 0, 1) := by decide +kernel
theorem dX1_next_39 : decode cX1_next 39 = .ok (.getfield 21, 3) := by decide +kernel
theorem dX1_next_42 : decode cX1_next 42 = .ok (.iload_n 3, 1) := by decide +kernel
theorem dX1_next_43 : decode cX1_next 43 = .ok (.laload, 1) := by decide +kernel
theorem dX1_next_44 : decode cX1_next 44 = .ok (.goto 4, 3) := by decide +kernel
theorem dX1_next_47 : decode cX1_next 47 = .ok (.lload_n 1, 1) := by decide +kernel
theorem dX1_next_48 : decode cX1_next 48 = .ok (.lstore_n 1, 1) := by decide +kernel
theorem dX1_next_49 : decode cX1_next 49 = .ok (.iinc 3 1, 3) := by decide +kernel
theorem dX1_next_52 : decode cX1_next 52 = .ok (.goto (-41), 3) := by decide +kernel
theorem dX1_next_55 : decode cX1_next 55 = .ok (.lload_n 1, 1) := by decide +kernel
theorem dX1_next_56 : decode cX1_next 56 = .ok (.lreturn, 1) := by decide +kernel
theorem dX1_value_0 : decode cX1_value 0 = .ok (.aload_n 0, 1) := by decide +kernel
theorem dX1_value_1 : decode cX1_value 1 = .ok (.aload_n 0, 1) := by decide +kernel
theorem dX1_value_2 : decode cX1_value 2 = .ok (.iload_n 1, 1) := by decide +kernel
theorem dX1_value_3 : decode cX1_value 3 = .ok (.invokevirtual 60, 3) := by decide +kernel
theorem dX1_value_6 : decode cX1_value 6 = .ok (.ifCond .eq 7, 3) := by decide +kernel
theorem dX1_value_9 : decode cX1_value 9 = .ok (.iconst 1, 1) := by decide +kernel
theorem dX1_value_10 : decode cX1_value 10 = .ok (.goto 4, 3) := by decide +kernel
theorem dX1_value_13 : decode cX1_value 13 = .ok (.iconst 0, 1) := by decide +kernel
theorem dX1_value_14 : decode cX1_value 14 = .ok (.putfield 49, 3) := by decide +kernel
theorem dX1_value_17 : decode cX1_value 17 = .ok (.aload_n 0, 1) := by decide +kernel
theorem dX1_value_18 : decode cX1_value 18 = .ok (.getfield 49, 3) := by decide +kernel
theorem dX1_value_21 : decode cX1_value 21 = .ok (.ifCond .le 7, 3) := by decide +kernel
theorem dX1_value_24 : decode cX1_value 24 = .ok (.lconst 0, 1) := by decide +kernel
theorem dX1_value_25 : decode cX1_value 25 = .ok (.goto 9, 3) := by decide +kernel
theorem dX1_value_28 : decode cX1_value 28 = .ok (.aload_n 0, 1) := by decide +kernel
theorem dX1_value_29 : decode cX1_value 29 = .ok (.getfield 7, 3) := by decide +kernel
theorem dX1_value_32 : decode cX1_value 32 = .ok (.iload_n 1, 1) := by decide +kernel
theorem dX1_value_33 : decode cX1_value 33 = .ok (.laload, 1) := by decide +kernel
theorem dX1_value_34 : decode cX1_value 34 = .ok (.lreturn, 1) := by decide +kernel
theorem dX1_count_0 : decode cX1_count 0 = .ok (.aload_n 0, 1) := by decide +kernel
theorem dX1_count_1 : decode cX1_count 1 = .ok (.aload_n 0, 1) := by decide +kernel
theorem dX1_count_2 : decode cX1_count 2 = .ok (.iload_n 1, 1) := by decide +kernel
theorem dX1_count_3 : decode cX1_count 3 = .ok (.invokevirtual 60, 3) := by decide +kernel
theorem dX1_count_6 : decode cX1_count 6 = .ok (.ifCond .eq 7, 3) := by decide +kernel
theorem dX1_count_9 : decode cX1_count 9 = .ok (.iconst 1, 1) := by decide +kernel
theorem dX1_count_10 : decode cX1_count 10 = .ok (.goto 4, 3) := by decide +kernel
theorem dX1_count_13 : decode cX1_count 13 = .ok (.iconst 0, 1) := by decide +kernel
theorem dX1_count_14 : decode cX1_count 14 = .ok (.putfield 49, 3) := by decide +kernel
theorem dX1_count_17 : decode cX1_count 17 = .ok (.iconst 0, 1) := by decide +kernel
theorem dX1_count_18 : decode cX1_count 18 = .ok (.istore_n 2, 1) := by decide +kernel
theorem dX1_count_19 : decode cX1_count 19 = .ok (.iconst 0, 1) := by decide +kernel
theorem dX1_count_20 : decode cX1_count 20 = .ok (.istore_n 3, 1) := by decide +kernel
theorem dX1_count_21 : decode cX1_count 21 = .ok (.iload_n 3, 1) := by decide +kernel
theorem dX1_count_22 : decode cX1_count 22 = .ok (.aload_n 0, 1) := by decide +kernel
theorem dX1_count_23 : decode cX1_count 23 = .ok (.getfield 57, 3) := by decide +kernel
theorem dX1_count_26 : decode cX1_count 26 = .ok (.if_icmp .ge 34, 3) := by decide +kernel
theorem dX1_count_29 : decode cX1_count 29 = .ok (.aload_n 0, 1) := by decide +kernel
theorem dX1_count_30 : decode cX1_count 30 = .ok (.getfield 49, 3) := by decide +kernel
theorem dX1_count_33 : decode cX1_count 33 = .ok (.ifCond .ne 27, 3) := by decide +kernel
theorem dX1_count_36 : decode cX1_count 36 = .ok (.aload_n 0, 1) := by decide +kernel
theorem dX1_count_37 : decode cX1_count 37 = .ok (.getfield 17, 3) := by decide +kernel
theorem dX1_count_40 : decode cX1_count 40 = .ok (.iload_n 3, 1) := by decide +kernel
theorem dX1_count_41 : decode cX1_count 41 = .ok (.iaload, 1) := by decide +kernel
theorem dX1_count_42 : decode cX1_count 42 = .ok (.iload_n 1, 1) := by decide +kernel
theorem dX1_count_43 : decode cX1_count 43 = .ok (.if_icmp .ne 9, 3) := by decide +kernel
theorem dX1_count_46 : decode cX1_count 46 = .ok (.iload_n 2, 1) := by decide +kernel
theorem dX1_count_47 : decode cX1_count 47 = .ok (.iconst 1, 1) := by decide +kernel
theorem dX1_count_48 : decode cX1_count 48 = .ok (.iadd, 1) := by decide +kernel
theorem dX1_count_49 : decode cX1_count 49 = .ok (.goto 4, 3) := by decide +kernel
theorem dX1_count_52 : decode cX1_count 52 = .ok (.iload_n 2, 1) := by decide +kernel
theorem dX1_count_53 : decode cX1_count 53 = .ok (.istore_n 2, 1) := by decide +kernel
theorem dX1_count_54 : decode cX1_count 54 = .ok (.iinc 3 1, 3) := by decide +kernel
theorem dX1_count_57 : decode cX1_count 57 = .ok (.goto (-36), 3) := by decide +kernel
theorem dX1_count_60 : decode cX1_count 60 = .ok (.iload_n 2, 1) := by decide +kernel
theorem dX1_count_61 : decode cX1_count 61 = .ok (.ireturn, 1) := by decide +kernel
theorem dX1_at_0 : decode cX1_at 0 = .ok (.aload_n 0, 1) := by decide +kernel
theorem dX1_at_1 : decode cX1_at 1 = .ok (.iload_n 1, 1) := by decide +kernel
theorem dX1_at_2 : decode cX1_at 2 = .ok (.invokevirtual 60, 3) := by decide +kernel
theorem dX1_at_5 : decode cX1_at 5 = .ok (.ifCond .ne 7, 3) := by decide +kernel
theorem dX1_at_8 : decode cX1_at 8 = .ok (.iload_n 2, 1) := by decide +kernel
theorem dX1_at_9 : decode cX1_at 9 = .ok (.ifCond .ge 7, 3) := by decide +kernel
theorem dX1_at_12 : decode cX1_at 12 = .ok (.iconst (-1), 1) := by decide +kernel
theorem dX1_at_13 : decode cX1_at 13 = .ok (.goto 9, 3) := by decide +kernel
theorem dX1_at_16 : decode cX1_at 16 = .ok (.aload_n 0, 1) := by decide +kernel
theorem dX1_at_17 : decode cX1_at 17 = .ok (.iload_n 1, 1) := by decide +kernel
theorem dX1_at_18 : decode cX1_at 18 = .ok (.iload_n 2, 1) := by decide +kernel
theorem dX1_at_19 : decode cX1_at 19 = .ok (.invokevirtual 78, 3) := by decide +kernel
theorem dX1_at_22 : decode cX1_at 22 = .ok (.istore 4, 2) := by decide +kernel
theorem dX1_at_24 : decode cX1_at 24 = .ok (.aload_n 0, 1) := by decide +kernel
theorem dX1_at_25 : decode cX1_at 25 = .ok (.iload 4, 2) := by decide +kernel
theorem dX1_at_27 : decode cX1_at 27 = .ok (.iconst (-1), 1) := by decide +kernel
theorem dX1_at_28 : decode cX1_at 28 = .ok (.if_icmp .ne 7, 3) := by decide +kernel
theorem dX1_at_31 : decode cX1_at 31 = .ok (.iconst 1, 1) := by decide +kernel
theorem dX1_at_32 : decode cX1_at 32 = .ok (.goto 4, 3) := by decide +kernel
theorem dX1_at_35 : decode cX1_at 35 = .ok (.iconst 0, 1) := by decide +kernel
theorem dX1_at_36 : decode cX1_at 36 = .ok (.putfield 49, 3) := by decide +kernel
theorem dX1_at_39 : decode cX1_at 39 = .ok (.aload_n 0, 1) := by decide +kernel
theorem dX1_at_40 : decode cX1_at 40 = .ok (.getfield 49, 3) := by decide +kernel
theorem dX1_at_43 : decode cX1_at 43 = .ok (.ifCond .le 7, 3) := by decide +kernel
theorem dX1_at_46 : decode cX1_at 46 = .ok (.lconst 0, 1) := by decide +kernel
theorem dX1_at_47 : decode cX1_at 47 = .ok (.goto 24, 3) := by decide +kernel
theorem dX1_at_50 : decode cX1_at 50 = .ok (.iload_n 3, 1) := by decide +kernel
theorem dX1_at_51 : decode cX1_at 51 = .ok (.ifCond .eq 13, 3) := by decide +kernel
theorem dX1_at_54 : decode cX1_at 54 = .ok (.aload_n 0, 1) := by decide +kernel
theorem dX1_at_55 : decode cX1_at 55 = .ok (.getfield 21, 3) := by decide +kernel
theorem dX1_at_58 : decode cX1_at 58 = .ok (.iload 4, 2) := by decide +kernel
theorem dX1_at_60 : decode cX1_at 60 = .ok (.laload, 1) := by decide +kernel
theorem dX1_at_61 : decode cX1_at 61 = .ok (.goto 10, 3) := by decide +kernel
theorem dX1_at_64 : decode cX1_at 64 = .ok (.aload_n 0, 1) := by decide +kernel
theorem dX1_at_65 : decode cX1_at 65 = .ok (.getfield 24, 3) := by decide +kernel
theorem dX1_at_68 : decode cX1_at 68 = .ok (.iload 4, 2) := by decide +kernel
theorem dX1_at_70 : decode cX1_at 70 = .ok (.laload, 1) := by decide +kernel
theorem dX1_at_71 : decode cX1_at 71 = .ok (.lreturn, 1) := by decide +kernel
theorem dX1_find_0 : decode cX1_find 0 = .ok (.iconst 0, 1) := by decide +kernel
theorem dX1_find_1 : decode cX1_find 1 = .ok (.istore_n 3, 1) := by decide +kernel
theorem dX1_find_2 : decode cX1_find 2 = .ok (.iconst 0, 1) := by decide +kernel
theorem dX1_find_3 : decode cX1_find 3 = .ok (.istore 4, 2) := by decide +kernel
theorem dX1_find_5 : decode cX1_find 5 = .ok (.iload 4, 2) := by decide +kernel
theorem dX1_find_7 : decode cX1_find 7 = .ok (.aload_n 0, 1) := by decide +kernel
theorem dX1_find_8 : decode cX1_find 8 = .ok (.getfield 57, 3) := by decide +kernel
theorem dX1_find_11 : decode cX1_find 11 = .ok (.if_icmp .ge 31, 3) := by decide +kernel
theorem dX1_find_14 : decode cX1_find 14 = .ok (.aload_n 0, 1) := by decide +kernel
theorem dX1_find_15 : decode cX1_find 15 = .ok (.getfield 17, 3) := by decide +kernel
theorem dX1_find_18 : decode cX1_find 18 = .ok (.iload 4, 2) := by decide +kernel
theorem dX1_find_20 : decode cX1_find 20 = .ok (.iaload, 1) := by decide +kernel
theorem dX1_find_21 : decode cX1_find 21 = .ok (.iload_n 1, 1) := by decide +kernel
theorem dX1_find_22 : decode cX1_find 22 = .ok (.if_icmp .ne 14, 3) := by decide +kernel
theorem dX1_find_25 : decode cX1_find 25 = .ok (.iload_n 3, 1) := by decide +kernel
theorem dX1_find_26 : decode cX1_find 26 = .ok (.iload_n 2, 1) := by decide +kernel
theorem dX1_find_27 : decode cX1_find 27 = .ok (.if_icmp .ne 6, 3) := by decide +kernel
theorem dX1_find_30 : decode cX1_find 30 = .ok (.iload 4, 2) := by decide +kernel
theorem dX1_find_32 : decode cX1_find 32 = .ok (.ireturn, 1) := by decide +kernel
theorem dX1_find_33 : decode cX1_find 33 = .ok (.iinc 3 1, 3) := by decide +kernel
theorem dX1_find_36 : decode cX1_find 36 = .ok (.iinc 4 1, 3) := by decide +kernel
theorem dX1_find_39 : decode cX1_find 39 = .ok (.goto (-34), 3) := by decide +kernel
theorem dX1_find_42 : decode cX1_find 42 = .ok (.iconst (-1), 1) := by decide +kernel
theorem dX1_find_43 : decode cX1_find 43 = .ok (.ireturn, 1) := by decide +kernel
theorem dX1_projected_0 : decode cX1_projected 0 = .ok (.aload_n 0, 1) := by decide +kernel
theorem dX1_projected_1 : decode cX1_projected 1 = .ok (.aload_n 0, 1) := by decide +kernel
theorem dX1_projected_2 : decode cX1_projected 2 = .ok (.iload_n 1, 1) := by decide +kernel
theorem dX1_projected_3 : decode cX1_projected 3 = .ok (.invokevirtual 60, 3) := by decide +kernel
theorem dX1_projected_6 : decode cX1_projected 6 = .ok (.ifCond .eq 7, 3) := by decide +kernel
theorem dX1_projected_9 : decode cX1_projected 9 = .ok (.iconst 1, 1) := by decide +kernel
theorem dX1_projected_10 : decode cX1_projected 10 = .ok (.goto 17, 3) := by decide +kernel
theorem dX1_projected_13 : decode cX1_projected 13 = .ok (.lload_n 2, 1) := by decide +kernel
theorem dX1_projected_14 : decode cX1_projected 14 = .ok (.aload_n 0, 1) := by decide +kernel
theorem dX1_projected_15 : decode cX1_projected 15 = .ok (.getfield 68, 3) := by decide +kernel
theorem dX1_projected_18 : decode cX1_projected 18 = .ok (.lcmp, 1) := by decide +kernel
theorem dX1_projected_19 : decode cX1_projected 19 = .ok (.ifCond .ge 7, 3) := by decide +kernel
theorem dX1_projected_22 : decode cX1_projected 22 = .ok (.iconst 2, 1) := by decide +kernel
theorem dX1_projected_23 : decode cX1_projected 23 = .ok (.goto 4, 3) := by decide +kernel
theorem dX1_projected_26 : decode cX1_projected 26 = .ok (.iconst 0, 1) := by decide +kernel
theorem dX1_projected_27 : decode cX1_projected 27 = .ok (.putfield 49, 3) := by decide +kernel
theorem dX1_projected_30 : decode cX1_projected 30 = .ok (.aload_n 0, 1) := by decide +kernel
theorem dX1_projected_31 : decode cX1_projected 31 = .ok (.getfield 49, 3) := by decide +kernel
theorem dX1_projected_34 : decode cX1_projected 34 = .ok (.ifCond .le 5, 3) := by decide +kernel
theorem dX1_projected_37 : decode cX1_projected 37 = .ok (.lconst 0, 1) := by decide +kernel
theorem dX1_projected_38 : decode cX1_projected 38 = .ok (.lreturn, 1) := by decide +kernel
theorem dX1_projected_39 : decode cX1_projected 39 = .ok (.aload_n 0, 1) := by decide +kernel
theorem dX1_projected_40 : decode cX1_projected 40 = .ok (.getfield 7, 3) := by decide +kernel
theorem dX1_projected_43 : decode cX1_projected 43 = .ok (.iload_n 1, 1) := by decide +kernel
theorem dX1_projected_44 : decode cX1_projected 44 = .ok (.laload, 1) := by decide +kernel
theorem dX1_projected_45 : decode cX1_projected 45 = .ok (.lstore 4, 2) := by decide +kernel
theorem dX1_projected_47 : decode cX1_projected 47 = .ok (.iconst 0, 1) := by decide +kernel
theorem dX1_projected_48 : decode cX1_projected 48 = .ok (.istore 6, 2) := by decide +kernel
theorem dX1_projected_50 : decode cX1_projected 50 = .ok (.iload 6, 2) := by decide +kernel
theorem dX1_projected_52 : decode cX1_projected 52 = .ok (.aload_n 0, 1) := by decide +kernel
theorem dX1_projected_53 : decode cX1_projected 53 = .ok (.getfield 57, 3) := by decide +kernel
theorem dX1_projected_56 : decode cX1_projected 56 = .ok (.if_icmp .ge 46, 3) := by decide +kernel
theorem dX1_projected_59 : decode cX1_projected 59 = .ok (.aload_n 0, 1) := by decide +kernel
theorem dX1_projected_60 : decode cX1_projected 60 = .ok (.getfield 17, 3) := by decide +kernel
theorem dX1_projected_63 : decode cX1_projected 63 = .ok (.iload 6, 2) := by decide +kernel
theorem dX1_projected_65 : decode cX1_projected 65 = .ok (.iaload, 1) := by decide +kernel
theorem dX1_projected_66 : decode cX1_projected 66 = .ok (.iload_n 1, 1) := by decide +kernel
theorem dX1_projected_67 : decode cX1_projected 67 = .ok (.if_icmp .ne 25, 3) := by decide +kernel
theorem dX1_projected_70 : decode cX1_projected 70 = .ok (.aload_n 0, 1) := by decide +kernel
theorem dX1_projected_71 : decode cX1_projected 71 = .ok (.getfield 21, 3) := by decide +kernel
theorem dX1_projected_74 : decode cX1_projected 74 = .ok (.iload 6, 2) := by decide +kernel
theorem dX1_projected_76 : decode cX1_projected 76 = .ok (.laload, 1) := by decide +kernel
theorem dX1_projected_77 : decode cX1_projected 77 = .ok (.lload_n 2, 1) := by decide +kernel
theorem dX1_projected_78 : decode cX1_projected 78 = .ok (.lcmp, 1) := by decide +kernel
theorem dX1_projected_79 : decode cX1_projected 79 = .ok (.ifCond .gt 13, 3) := by decide +kernel
theorem dX1_projected_82 : decode cX1_projected 82 = .ok (.aload_n 0, 1) := by decide +kernel
theorem dX1_projected_83 : decode cX1_projected 83 = .ok (.getfield 24, 3) := by decide +kernel
theorem dX1_projected_86 : decode cX1_projected 86 = .ok (.iload 6, 2) := by decide +kernel
theorem dX1_projected_88 : decode cX1_projected 88 = .ok (.laload, 1) := by decide +kernel
theorem dX1_projected_89 : decode cX1_projected 89 = .ok (.goto 5, 3) := by decide +kernel
theorem dX1_projected_92 : decode cX1_projected 92 = .ok (.lload 4, 2) := by decide +kernel
theorem dX1_projected_94 : decode cX1_projected 94 = .ok (.lstore 4, 2) := by decide +kernel
theorem dX1_projected_96 : decode cX1_projected 96 = .ok (.iinc 6 1, 3) := by decide +kernel
theorem dX1_projected_99 : decode cX1_projected 99 = .ok (.goto (-49), 3) := by decide +kernel
theorem dX1_projected_102 : decode cX1_projected 102 = .ok (.lload 4, 2) := by decide +kernel
theorem dX1_projected_104 : decode cX1_projected 104 = .ok (.lreturn, 1) := by decide +kernel
theorem dX1_total_0 : decode cX1_total 0 = .ok (.aload_n 0, 1) := by decide +kernel
theorem dX1_total_1 : decode cX1_total 1 = .ok (.iconst 0, 1) := by decide +kernel
theorem dX1_total_2 : decode cX1_total 2 = .ok (.putfield 49, 3) := by decide +kernel
theorem dX1_total_5 : decode cX1_total 5 = .ok (.aload_n 0, 1) := by decide +kernel
theorem dX1_total_6 : decode cX1_total 6 = .ok (.getfield 57, 3) := by decide +kernel
theorem dX1_total_9 : decode cX1_total 9 = .ok (.ireturn, 1) := by decide +kernel
