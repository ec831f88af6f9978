theorem dX0_init_0 : decode cX0_init 0 = .ok (.aload_n 0, 1) := by decide +kernel
theorem dX0_init_1 : decode cX0_init 1 = .ok (.invokespecial 3, 3) := by decide +kernel
theorem dX0_init_4 : decode cX0_init 4 = .ok (.aload_n 0, 1) := by decide +kernel
theorem dX0_init_5 : decode cX0_init 5 = .ok (.sipush 576, 3) := by decide +kernel
theorem dX0_init_8 : decode cX0_init 8 = .ok (.newarray .byte, 2) := by decide +kernel
theorem dX0_init_10 : decode cX0_init 10 = .ok (.putfield 9, 3) := by decide +kernel
theorem dX0_init_13 : decode cX0_init 13 = .ok (.aload_n 0, 1) := by decide +kernel
theorem dX0_init_14 : decode cX0_init 14 = .ok (.bipush 24, 2) := by decide +kernel
theorem dX0_init_16 : decode cX0_init 16 = .ok (.newarray .byte, 2) := by decide +kernel
theorem dX0_init_18 : decode cX0_init 18 = .ok (.putfield 15, 3) := by decide +kernel
theorem dX0_init_21 : decode cX0_init 21 = .ok (.aload_n 0, 1) := by decide +kernel
theorem dX0_init_22 : decode cX0_init 22 = .ok (.iconst 0, 1) := by decide +kernel
theorem dX0_init_23 : decode cX0_init 23 = .ok (.putfield 18, 3) := by decide +kernel
theorem dX0_init_26 : decode cX0_init 26 = .ok (.aload_n 0, 1) := by decide +kernel
theorem dX0_init_27 : decode cX0_init 27 = .ok (.iconst 0, 1) := by decide +kernel
theorem dX0_init_28 : decode cX0_init 28 = .ok (.putfield 22, 3) := by decide +kernel
theorem dX0_init_31 : decode cX0_init 31 = .ok (.aload_n 0, 1) := by decide +kernel
theorem dX0_init_32 : decode cX0_init 32 = .ok (.iconst 0, 1) := by decide +kernel
theorem dX0_init_33 : decode cX0_init 33 = .ok (.putfield 25, 3) := by decide +kernel
theorem dX0_init_36 : decode cX0_init 36 = .ok (.aload_n 0, 1) := by decide +kernel
theorem dX0_init_37 : decode cX0_init 37 = .ok (.iconst 0, 1) := by decide +kernel
theorem dX0_init_38 : decode cX0_init 38 = .ok (.putfield 28, 3) := by decide +kernel
theorem dX0_init_41 : decode cX0_init 41 = .ok (.return_, 1) := by decide +kernel
theorem dX0_codeWith_0 : decode cX0_codeWith 0 = .ok (.iload_n 0, 1) := by decide +kernel
theorem dX0_codeWith_1 : decode cX0_codeWith 1 = .ok (.iload_n 2, 1) := by decide +kernel
theorem dX0_codeWith_2 : decode cX0_codeWith 2 = .ok (.iconst 5, 1) := by decide +kernel
theorem dX0_codeWith_3 : decode cX0_codeWith 3 = .ok (.iload_n 1, 1) := by decide +kernel
theorem dX0_codeWith_4 : decode cX0_codeWith 4 = .ok (.imul, 1) := by decide +kernel
theorem dX0_codeWith_5 : decode cX0_codeWith 5 = .ok (.ishl, 1) := by decide +kernel
theorem dX0_codeWith_6 : decode cX0_codeWith 6 = .ok (.ior, 1) := by decide +kernel
theorem dX0_codeWith_7 : decode cX0_codeWith 7 = .ok (.ireturn, 1) := by decide +kernel
theorem dX0_sizeIn_0 : decode cX0_sizeIn 0 = .ok (.iload_n 0, 1) := by decide +kernel
theorem dX0_sizeIn_1 : decode cX0_sizeIn 1 = .ok (.iconst 5, 1) := by decide +kernel
theorem dX0_sizeIn_2 : decode cX0_sizeIn 2 = .ok (.iload_n 1, 1) := by decide +kernel
theorem dX0_sizeIn_3 : decode cX0_sizeIn 3 = .ok (.imul, 1) := by decide +kernel
theorem dX0_sizeIn_4 : decode cX0_sizeIn 4 = .ok (.iushr, 1) := by decide +kernel
theorem dX0_sizeIn_5 : decode cX0_sizeIn 5 = .ok (.bipush 31, 2) := by decide +kernel
theorem dX0_sizeIn_7 : decode cX0_sizeIn 7 = .ok (.iand, 1) := by decide +kernel
theorem dX0_sizeIn_8 : decode cX0_sizeIn 8 = .ok (.ireturn, 1) := by decide +kernel
theorem dX0_code_0 : decode cX0_code 0 = .ok (.aload_n 0, 1) := by decide +kernel
theorem dX0_code_1 : decode cX0_code 1 = .ok (.getfield 18, 3) := by decide +kernel
theorem dX0_code_4 : decode cX0_code 4 = .ok (.ireturn, 1) := by decide +kernel
theorem dX0_parts_0 : decode cX0_parts 0 = .ok (.aload_n 0, 1) := by decide +kernel
theorem dX0_parts_1 : decode cX0_parts 1 = .ok (.getfield 22, 3) := by decide +kernel
theorem dX0_parts_4 : decode cX0_parts 4 = .ok (.ireturn, 1) := by decide +kernel
theorem dX0_order_0 : decode cX0_order 0 = .ok (.aload_n 0, 1) := by decide +kernel
theorem dX0_order_1 : decode cX0_order 1 = .ok (.getfield 25, 3) := by decide +kernel
theorem dX0_order_4 : decode cX0_order 4 = .ok (.ireturn, 1) := by decide +kernel
theorem dX0_exponent_0 : decode cX0_exponent 0 = .ok (.aload_n 0, 1) := by decide +kernel
theorem dX0_exponent_1 : decode cX0_exponent 1 = .ok (.getfield 28, 3) := by decide +kernel
theorem dX0_exponent_4 : decode cX0_exponent 4 = .ok (.ireturn, 1) := by decide +kernel
theorem dX0_sizeOf_0 : decode cX0_sizeOf 0 = .ok (.aload_n 0, 1) := by decide +kernel
theorem dX0_sizeOf_1 : decode cX0_sizeOf 1 = .ok (.getfield 18, 3) := by decide +kernel
theorem dX0_sizeOf_4 : decode cX0_sizeOf 4 = .ok (.iload_n 1, 1) := by decide +kernel
theorem dX0_sizeOf_5 : decode cX0_sizeOf 5 = .ok (.invokestatic 31, 3) := by decide +kernel
theorem dX0_sizeOf_8 : decode cX0_sizeOf 8 = .ok (.ireturn, 1) := by decide +kernel
theorem dX0_has_0 : decode cX0_has 0 = .ok (.iload_n 1, 1) := by decide +kernel
theorem dX0_has_1 : decode cX0_has 1 = .ok (.ifCond .lt 21, 3) := by decide +kernel
theorem dX0_has_4 : decode cX0_has 4 = .ok (.iload_n 1, 1) := by decide +kernel
theorem dX0_has_5 : decode cX0_has 5 = .ok (.aload_n 0, 1) := by decide +kernel
theorem dX0_has_6 : decode cX0_has 6 = .ok (.getfield 25, 3) := by decide +kernel
theorem dX0_has_9 : decode cX0_has 9 = .ok (.if_icmp .ge 13, 3) := by decide +kernel
theorem dX0_has_12 : decode cX0_has 12 = .ok (.iload_n 1, 1) := by decide +kernel
theorem dX0_has_13 : decode cX0_has 13 = .ok (.bipush 24, 2) := by decide +kernel
theorem dX0_has_15 : decode cX0_has 15 = .ok (.if_icmp .ge 7, 3) := by decide +kernel
theorem dX0_has_18 : decode cX0_has 18 = .ok (.iconst 1, 1) := by decide +kernel
theorem dX0_has_19 : decode cX0_has 19 = .ok (.goto 4, 3) := by decide +kernel
theorem dX0_has_22 : decode cX0_has 22 = .ok (.iconst 0, 1) := by decide +kernel
theorem dX0_has_23 : decode cX0_has 23 = .ok (.ireturn, 1) := by decide +kernel
theorem dX0_become_0 : decode cX0_become 0 = .ok (.iload_n 1, 1) := by decide +kernel
theorem dX0_become_1 : decode cX0_become 1 = .ok (.aload_n 0, 1) := by decide +kernel
theorem dX0_become_2 : decode cX0_become 2 = .ok (.getfield 18, 3) := by decide +kernel
theorem dX0_become_5 : decode cX0_become 5 = .ok (.if_icmp .ne 4, 3) := by decide +kernel
theorem dX0_become_8 : decode cX0_become 8 = .ok (.return_, 1) := by decide +kernel
theorem dX0_become_9 : decode cX0_become 9 = .ok (.aload_n 0, 1) := by decide +kernel
theorem dX0_become_10 : decode cX0_become 10 = .ok (.iload_n 1, 1) := by decide +kernel
theorem dX0_become_11 : decode cX0_become 11 = .ok (.putfield 18, 3) := by decide +kernel
theorem dX0_become_14 : decode cX0_become 14 = .ok (.aload_n 0, 1) := by decide +kernel
theorem dX0_become_15 : decode cX0_become 15 = .ok (.iconst 0, 1) := by decide +kernel
theorem dX0_become_16 : decode cX0_become 16 = .ok (.putfield 22, 3) := by decide +kernel
theorem dX0_become_19 : decode cX0_become 19 = .ok (.aload_n 0, 1) := by decide +kernel
theorem dX0_become_20 : decode cX0_become 20 = .ok (.iload_n 1, 1) := by decide +kernel
theorem dX0_become_21 : decode cX0_become 21 = .ok (.ifCond .ne 7, 3) := by decide +kernel
theorem dX0_become_24 : decode cX0_become 24 = .ok (.iconst 0, 1) := by decide +kernel
theorem dX0_become_25 : decode cX0_become 25 = .ok (.goto 4, 3) := by decide +kernel
theorem dX0_become_28 : decode cX0_become 28 = .ok (.iconst 1, 1) := by decide +kernel
theorem dX0_become_29 : decode cX0_become 29 = .ok (.putfield 25, 3) := by decide +kernel
theorem dX0_become_32 : decode cX0_become 32 = .ok (.aload_n 0, 1) := by decide +kernel
theorem dX0_become_33 : decode cX0_become 33 = .ok (.aload_n 0, 1) := by decide +kernel
theorem dX0_become_34 : decode cX0_become 34 = .ok (.getfield 25, 3) := by decide +kernel
theorem dX0_become_37 : decode cX0_become 37 = .ok (.putfield 28, 3) := by decide +kernel
theorem dX0_become_40 : decode cX0_become 40 = .ok (.iconst 0, 1) := by decide +kernel
theorem dX0_become_41 : decode cX0_become 41 = .ok (.istore_n 2, 1) := by decide +kernel
theorem dX0_become_42 : decode cX0_become 42 = .ok (.iload_n 2, 1) := by decide +kernel
theorem dX0_become_43 : decode cX0_become 43 = .ok (.iconst 3, 1) := by decide +kernel
theorem dX0_become_44 : decode cX0_become 44 = .ok (.if_icmp .ge 57, 3) := by decide +kernel
theorem dX0_become_47 : decode cX0_become 47 = .ok (.aload_n 0, 1) := by decide +kernel
theorem dX0_become_48 : decode cX0_become 48 = .ok (.iload_n 2, 1) := by decide +kernel
theorem dX0_become_49 : decode cX0_become 49 = .ok (.invokevirtual 35, 3) := by decide +kernel
theorem dX0_become_52 : decode cX0_become 52 = .ok (.ifCond .le 49, 3) := by decide +kernel
theorem dX0_become_55 : decode cX0_become 55 = .ok (.aload_n 0, 1) := by decide +kernel
theorem dX0_become_56 : decode cX0_become 56 = .ok (.dup, 1) := by decide +kernel
theorem dX0_become_57 : decode cX0_become 57 = .ok (.getfield 22, 3) := by decide +kernel
theorem dX0_become_60 : decode cX0_become 60 = .ok (.iconst 1, 1) := by decide +kernel
theorem dX0_become_61 : decode cX0_become 61 = .ok (.iadd, 1) := by decide +kernel
theorem dX0_become_62 : decode cX0_become 62 = .ok (.putfield 22, 3) := by decide +kernel
theorem dX0_become_65 : decode cX0_become 65 = .ok (.aload_n 0, 1) := by decide +kernel
theorem dX0_become_66 : decode cX0_become 66 = .ok (.dup, 1) := by decide +kernel
theorem dX0_become_67 : decode cX0_become 67 = .ok (.getfield 25, 3) := by decide +kernel
theorem dX0_become_70 : decode cX0_become 70 = .ok (.aload_n 0, 1) := by decide +kernel
theorem dX0_become_71 : decode cX0_become 71 = .ok (.iload_n 2, 1) := by decide +kernel
theorem dX0_become_72 : decode cX0_become 72 = .ok (.invokevirtual 35, 3) := by decide +kernel
theorem dX0_become_75 : decode cX0_become 75 = .ok (.imul, 1) := by decide +kernel
theorem dX0_become_76 : decode cX0_become 76 = .ok (.putfield 25, 3) := by decide +kernel
theorem dX0_become_79 : decode cX0_become 79 = .ok (.aload_n 0, 1) := by decide +kernel
theorem dX0_become_80 : decode cX0_become 80 = .ok (.aload_n 0, 1) := by decide +kernel
theorem dX0_become_81 : decode cX0_become 81 = .ok (.getfield 28, 3) := by decide +kernel
theorem dX0_become_84 : decode cX0_become 84 = .ok (.aload_n 0, 1) := by decide +kernel
theorem dX0_become_85 : decode cX0_become 85 = .ok (.iload_n 2, 1) := by decide +kernel
theorem dX0_become_86 : decode cX0_become 86 = .ok (.invokevirtual 35, 3) := by decide +kernel
theorem dX0_become_89 : decode cX0_become 89 = .ok (.invokestatic 39, 3) := by decide +kernel
theorem dX0_become_92 : decode cX0_become 92 = .ok (.putfield 28, 3) := by decide +kernel
theorem dX0_become_95 : decode cX0_become 95 = .ok (.iinc 2 1, 3) := by decide +kernel
theorem dX0_become_98 : decode cX0_become 98 = .ok (.goto (-56), 3) := by decide +kernel
theorem dX0_become_101 : decode cX0_become 101 = .ok (.aload_n 0, 1) := by decide +kernel
theorem dX0_become_102 : decode cX0_become 102 = .ok (.invokevirtual 42, 3) := by decide +kernel
theorem dX0_become_105 : decode cX0_become 105 = .ok (.return_, 1) := by decide +kernel
theorem dX0_fillTables_0 : decode cX0_fillTables 0 = .ok (.iconst 0, 1) := by decide +kernel
theorem dX0_fillTables_1 : decode cX0_fillTables 1 = .ok (.istore_n 1, 1) := by decide +kernel
theorem dX0_fillTables_2 : decode cX0_fillTables 2 = .ok (.iload_n 1, 1) := by decide +kernel
theorem dX0_fillTables_3 : decode cX0_fillTables 3 = .ok (.aload_n 0, 1) := by decide +kernel
theorem dX0_fillTables_4 : decode cX0_fillTables 4 = .ok (.getfield 25, 3) := by decide +kernel
theorem dX0_fillTables_7 : decode cX0_fillTables 7 = .ok (.if_icmp .ge 69, 3) := by decide +kernel
theorem dX0_fillTables_10 : decode cX0_fillTables 10 = .ok (.iload_n 1, 1) := by decide +kernel
theorem dX0_fillTables_11 : decode cX0_fillTables 11 = .ok (.bipush 24, 2) := by decide +kernel
theorem dX0_fillTables_13 : decode cX0_fillTables 13 = .ok (.if_icmp .ge 63, 3) := by decide +kernel
theorem dX0_fillTables_16 : decode cX0_fillTables 16 = .ok (.iconst 0, 1) := by decide +kernel
theorem dX0_fillTables_17 : decode cX0_fillTables 17 = .ok (.istore_n 2, 1) := by decide +kernel
theorem dX0_fillTables_18 : decode cX0_fillTables 18 = .ok (.iload_n 2, 1) := by decide +kernel
theorem dX0_fillTables_19 : decode cX0_fillTables 19 = .ok (.aload_n 0, 1) := by decide +kernel
theorem dX0_fillTables_20 : decode cX0_fillTables 20 = .ok (.getfield 25, 3) := by decide +kernel
theorem dX0_fillTables_23 : decode cX0_fillTables 23 = .ok (.if_icmp .ge 47, 3) := by decide +kernel
theorem dX0_fillTables_26 : decode cX0_fillTables 26 = .ok (.iload_n 2, 1) := by decide +kernel
theorem dX0_fillTables_27 : decode cX0_fillTables 27 = .ok (.bipush 24, 2) := by decide +kernel
theorem dX0_fillTables_29 : decode cX0_fillTables 29 = .ok (.if_icmp .ge 41, 3) := by decide +kernel
theorem dX0_fillTables_32 : decode cX0_fillTables 32 = .ok (.aload_n 0, 1) := by decide +kernel
theorem dX0_fillTables_33 : decode cX0_fillTables 33 = .ok (.iload_n 1, 1) := by decide +kernel
theorem dX0_fillTables_34 : decode cX0_fillTables 34 = .ok (.iload_n 2, 1) := by decide +kernel
theorem dX0_fillTables_35 : decode cX0_fillTables 35 = .ok (.invokevirtual 45, 3) := by decide +kernel
theorem dX0_fillTables_38 : decode cX0_fillTables 38 = .ok (.istore_n 3, 1) := by decide +kernel
theorem dX0_fillTables_39 : decode cX0_fillTables 39 = .ok (.aload_n 0, 1) := by decide +kernel
theorem dX0_fillTables_40 : decode cX0_fillTables 40 = .ok (.getfield 9, 3) := by decide +kernel
theorem dX0_fillTables_43 : decode cX0_fillTables 43 = .ok (.iload_n 1, 1) := by decide +kernel
theorem dX0_fillTables_44 : decode cX0_fillTables 44 = .ok (.bipush 24, 2) := by decide +kernel
theorem dX0_fillTables_46 : decode cX0_fillTables 46 = .ok (.imul, 1) := by decide +kernel
theorem dX0_fillTables_47 : decode cX0_fillTables 47 = .ok (.iload_n 2, 1) := by decide +kernel
theorem dX0_fillTables_48 : decode cX0_fillTables 48 = .ok (.iadd, 1) := by decide +kernel
theorem dX0_fillTables_49 : decode cX0_fillTables 49 = .ok (.iload_n 3, 1) := by decide +kernel
theorem dX0_fillTables_50 : decode cX0_fillTables 50 = .ok (.i2b, 1) := by decide +kernel
theorem dX0_fillTables_51 : decode cX0_fillTables 51 = .ok (.bastore, 1) := by decide +kernel
theorem dX0_fillTables_52 : decode cX0_fillTables 52 = .ok (.iload_n 3, 1) := by decide +kernel
theorem dX0_fillTables_53 : decode cX0_fillTables 53 = .ok (.ifCond .ne 11, 3) := by decide +kernel
theorem dX0_fillTables_56 : decode cX0_fillTables 56 = .ok (.aload_n 0, 1) := by decide +kernel
theorem dX0_fillTables_57 : decode cX0_fillTables 57 = .ok (.getfield 15, 3) := by decide +kernel
theorem dX0_fillTables_60 : decode cX0_fillTables 60 = .ok (.iload_n 1, 1) := by decide +kernel
theorem dX0_fillTables_61 : decode cX0_fillTables 61 = .ok (.iload_n 2, 1) := by decide +kernel
theorem dX0_fillTables_62 : decode cX0_fillTables 62 = .ok (.i2b, 1) := by decide +kernel
theorem dX0_fillTables_63 : decode cX0_fillTables 63 = .ok (.bastore, 1) := by decide +kernel
theorem dX0_fillTables_64 : decode cX0_fillTables 64 = .ok (.iinc 2 1, 3) := by decide +kernel
theorem dX0_fillTables_67 : decode cX0_fillTables 67 = .ok (.goto (-49), 3) := by decide +kernel
theorem dX0_fillTables_70 : decode cX0_fillTables 70 = .ok (.iinc 1 1, 3) := by decide +kernel
theorem dX0_fillTables_73 : decode cX0_fillTables 73 = .ok (.goto (-71), 3) := by decide +kernel
theorem dX0_fillTables_76 : decode cX0_fillTables 76 = .ok (.return_, 1) := by decide +kernel
theorem dX0_plusByParts_0 : decode cX0_plusByParts 0 = .ok (.iconst 0, 1) := by decide +kernel
theorem dX0_plusByParts_1 : decode cX0_plusByParts 1 = .ok (.istore_n 3, 1) := by decide +kernel
theorem dX0_plusByParts_2 : decode cX0_plusByParts 2 = .ok (.iconst 1, 1) := by decide +kernel
theorem dX0_plusByParts_3 : decode cX0_plusByParts 3 = .ok (.istore 4, 2) := by decide +kernel
theorem dX0_plusByParts_5 : decode cX0_plusByParts 5 = .ok (.aload_n 0, 1) := by decide +kernel
theorem dX0_plusByParts_6 : decode cX0_plusByParts 6 = .ok (.getfield 22, 3) := by decide +kernel
theorem dX0_plusByParts_9 : decode cX0_plusByParts 9 = .ok (.iconst 1, 1) := by decide +kernel
theorem dX0_plusByParts_10 : decode cX0_plusByParts 10 = .ok (.isub, 1) := by decide +kernel
theorem dX0_plusByParts_11 : decode cX0_plusByParts 11 = .ok (.istore 5, 2) := by decide +kernel
theorem dX0_plusByParts_13 : decode cX0_plusByParts 13 = .ok (.iload 5, 2) := by decide +kernel
theorem dX0_plusByParts_15 : decode cX0_plusByParts 15 = .ok (.ifCond .lt 57, 3) := by decide +kernel
theorem dX0_plusByParts_18 : decode cX0_plusByParts 18 = .ok (.aload_n 0, 1) := by decide +kernel
theorem dX0_plusByParts_19 : decode cX0_plusByParts 19 = .ok (.iload 5, 2) := by decide +kernel
theorem dX0_plusByParts_21 : decode cX0_plusByParts 21 = .ok (.invokevirtual 35, 3) := by decide +kernel
theorem dX0_plusByParts_24 : decode cX0_plusByParts 24 = .ok (.istore 6, 2) := by decide +kernel
theorem dX0_plusByParts_26 : decode cX0_plusByParts 26 = .ok (.iload 6, 2) := by decide +kernel
theorem dX0_plusByParts_28 : decode cX0_plusByParts 28 = .ok (.ifCond .le 38, 3) := by decide +kernel
theorem dX0_plusByParts_31 : decode cX0_plusByParts 31 = .ok (.iload_n 3, 1) := by decide +kernel
theorem dX0_plusByParts_32 : decode cX0_plusByParts 32 = .ok (.iload 4, 2) := by decide +kernel
theorem dX0_plusByParts_34 : decode cX0_plusByParts 34 = .ok (.iload_n 1, 1) := by decide +kernel
theorem dX0_plusByParts_35 : decode cX0_plusByParts 35 = .ok (.iload 6, 2) := by decide +kernel
theorem dX0_plusByParts_37 : decode cX0_plusByParts 37 = .ok (.irem, 1) := by decide +kernel
theorem dX0_plusByParts_38 : decode cX0_plusByParts 38 = .ok (.iload_n 2, 1) := by decide +kernel
theorem dX0_plusByParts_39 : decode cX0_plusByParts 39 = .ok (.iload 6, 2) := by decide +kernel
theorem dX0_plusByParts_41 : decode cX0_plusByParts 41 = .ok (.irem, 1) := by decide +kernel
theorem dX0_plusByParts_42 : decode cX0_plusByParts 42 = .ok (.iadd, 1) := by decide +kernel
theorem dX0_plusByParts_43 : decode cX0_plusByParts 43 = .ok (.iload 6, 2) := by decide +kernel
theorem dX0_plusByParts_45 : decode cX0_plusByParts 45 = .ok (.irem, 1) := by decide +kernel
theorem dX0_plusByParts_46 : decode cX0_plusByParts 46 = .ok (.imul, 1) := by decide +kernel
theorem dX0_plusByParts_47 : decode cX0_plusByParts 47 = .ok (.iadd, 1) := by decide +kernel
theorem dX0_plusByParts_48 : decode cX0_plusByParts 48 = .ok (.istore_n 3, 1) := by decide +kernel
theorem dX0_plusByParts_49 : decode cX0_plusByParts 49 = .ok (.iload 4, 2) := by decide +kernel
theorem dX0_plusByParts_51 : decode cX0_plusByParts 51 = .ok (.iload 6, 2) := by decide +kernel
theorem dX0_plusByParts_53 : decode cX0_plusByParts 53 = .ok (.imul, 1) := by decide +kernel
theorem dX0_plusByParts_54 : decode cX0_plusByParts 54 = .ok (.istore 4, 2) := by decide +kernel
theorem dX0_plusByParts_56 : decode cX0_plusByParts 56 = .ok (.iload_n 1, 1) := by decide +kernel
theorem dX0_plusByParts_57 : decode cX0_plusByParts 57 = .ok (.iload 6, 2) := by decide +kernel
theorem dX0_plusByParts_59 : decode cX0_plusByParts 59 = .ok (.idiv, 1) := by decide +kernel
theorem dX0_plusByParts_60 : decode cX0_plusByParts 60 = .ok (.istore_n 1, 1) := by decide +kernel
theorem dX0_plusByParts_61 : decode cX0_plusByParts 61 = .ok (.iload_n 2, 1) := by decide +kernel
theorem dX0_plusByParts_62 : decode cX0_plusByParts 62 = .ok (.iload 6, 2) := by decide +kernel
theorem dX0_plusByParts_64 : decode cX0_plusByParts 64 = .ok (.idiv, 1) := by decide +kernel
theorem dX0_plusByParts_65 : decode cX0_plusByParts 65 = .ok (.istore_n 2, 1) := by decide +kernel
theorem dX0_plusByParts_66 : decode cX0_plusByParts 66 = .ok (.iinc 5 (-1), 3) := by decide +kernel
theorem dX0_plusByParts_69 : decode cX0_plusByParts 69 = .ok (.goto (-56), 3) := by decide +kernel
theorem dX0_plusByParts_72 : decode cX0_plusByParts 72 = .ok (.iload_n 3, 1) := by decide +kernel
theorem dX0_plusByParts_73 : decode cX0_plusByParts 73 = .ok (.ireturn, 1) := by decide +kernel
theorem dX0_leastCommonMultiple_0 : decode cX0_leastCommonMultiple 0 = .ok (.iload_n 0, 1) := by decide +kernel
theorem dX0_leastCommonMultiple_1 : decode cX0_leastCommonMultiple 1 = .ok (.istore_n 2, 1) := by decide +kernel
theorem dX0_leastCommonMultiple_2 : decode cX0_leastCommonMultiple 2 = .ok (.iconst 1, 1) := by decide +kernel
theorem dX0_leastCommonMultiple_3 : decode cX0_leastCommonMultiple 3 = .ok (.istore_n 3, 1) := by decide +kernel
theorem dX0_leastCommonMultiple_4 : decode cX0_leastCommonMultiple 4 = .ok (.iload_n 3, 1) := by decide +kernel
theorem dX0_leastCommonMultiple_5 : decode cX0_leastCommonMultiple 5 = .ok (.iload_n 1, 1) := by decide +kernel
theorem dX0_leastCommonMultiple_6 : decode cX0_leastCommonMultiple 6 = .ok (.if_icmp .ge 19, 3) := by decide +kernel
theorem dX0_leastCommonMultiple_9 : decode cX0_leastCommonMultiple 9 = .ok (.iload_n 2, 1) := by decide +kernel
theorem dX0_leastCommonMultiple_10 : decode cX0_leastCommonMultiple 10 = .ok (.iload_n 1, 1) := by decide +kernel
theorem dX0_leastCommonMultiple_11 : decode cX0_leastCommonMultiple 11 = .ok (.irem, 1) := by decide +kernel
theorem dX0_leastCommonMultiple_12 : decode cX0_leastCommonMultiple 12 = .ok (.ifCond .eq 13, 3) := by decide +kernel
theorem dX0_leastCommonMultiple_15 : decode cX0_leastCommonMultiple 15 = .ok (.iload_n 2, 1) := by decide +kernel
theorem dX0_leastCommonMultiple_16 : decode cX0_leastCommonMultiple 16 = .ok (.iload_n 0, 1) := by decide +kernel
theorem dX0_leastCommonMultiple_17 : decode cX0_leastCommonMultiple 17 = .ok (.iadd, 1) := by decide +kernel
theorem dX0_leastCommonMultiple_18 : decode cX0_leastCommonMultiple 18 = .ok (.istore_n 2, 1) := by decide +kernel
theorem dX0_leastCommonMultiple_19 : decode cX0_leastCommonMultiple 19 = .ok (.iinc 3 1, 3) := by decide +kernel
theorem dX0_leastCommonMultiple_22 : decode cX0_leastCommonMultiple 22 = .ok (.goto (-18), 3) := by decide +kernel
theorem dX0_leastCommonMultiple_25 : decode cX0_leastCommonMultiple 25 = .ok (.iload_n 2, 1) := by decide +kernel
theorem dX0_leastCommonMultiple_26 : decode cX0_leastCommonMultiple 26 = .ok (.ireturn, 1) := by decide +kernel
theorem dX0_plus_0 : decode cX0_plus 0 = .ok (.aload_n 0, 1) := by decide +kernel
theorem dX0_plus_1 : decode cX0_plus 1 = .ok (.iload_n 1, 1) := by decide +kernel
theorem dX0_plus_2 : decode cX0_plus 2 = .ok (.invokevirtual 48, 3) := by decide +kernel
theorem dX0_plus_5 : decode cX0_plus 5 = .ok (.ifCond .eq 25, 3) := by decide +kernel
theorem dX0_plus_8 : decode cX0_plus 8 = .ok (.aload_n 0, 1) := by decide +kernel
theorem dX0_plus_9 : decode cX0_plus 9 = .ok (.iload_n 2, 1) := by decide +kernel
theorem dX0_plus_10 : decode cX0_plus 10 = .ok (.invokevirtual 48, 3) := by decide +kernel
theorem dX0_plus_13 : decode cX0_plus 13 = .ok (.ifCond .eq 17, 3) := by decide +kernel
theorem dX0_plus_16 : decode cX0_plus 16 = .ok (.aload_n 0, 1) := by decide +kernel
theorem dX0_plus_17 : decode cX0_plus 17 = .ok (.getfield 9, 3) := by decide +kernel
theorem dX0_plus_20 : decode cX0_plus 20 = .ok (.iload_n 1, 1) := by decide +kernel
theorem dX0_plus_21 : decode cX0_plus 21 = .ok (.bipush 24, 2) := by decide +kernel
theorem dX0_plus_23 : decode cX0_plus 23 = .ok (.imul, 1) := by decide +kernel
theorem dX0_plus_24 : decode cX0_plus 24 = .ok (.iload_n 2, 1) := by decide +kernel
theorem dX0_plus_25 : decode cX0_plus 25 = .ok (.iadd, 1) := by decide +kernel
theorem dX0_plus_26 : decode cX0_plus 26 = .ok (.baload, 1) := by decide +kernel
theorem dX0_plus_27 : decode cX0_plus 27 = .ok (.goto 4, 3) := by decide +kernel
theorem dX0_plus_30 : decode cX0_plus 30 = .ok (.iconst 0, 1) := by decide +kernel
theorem dX0_plus_31 : decode cX0_plus 31 = .ok (.ireturn, 1) := by decide +kernel
theorem dX0_opposite_0 : decode cX0_opposite 0 = .ok (.aload_n 0, 1) := by decide +kernel
theorem dX0_opposite_1 : decode cX0_opposite 1 = .ok (.iload_n 1, 1) := by decide +kernel
theorem dX0_opposite_2 : decode cX0_opposite 2 = .ok (.invokevirtual 48, 3) := by decide +kernel
theorem dX0_opposite_5 : decode cX0_opposite 5 = .ok (.ifCond .eq 12, 3) := by decide +kernel
theorem dX0_opposite_8 : decode cX0_opposite 8 = .ok (.aload_n 0, 1) := by decide +kernel
theorem dX0_opposite_9 : decode cX0_opposite 9 = .ok (.getfield 15, 3) := by decide +kernel
theorem dX0_opposite_12 : decode cX0_opposite 12 = .ok (.iload_n 1, 1) := by decide +kernel
theorem dX0_opposite_13 : decode cX0_opposite 13 = .ok (.baload, 1) := by decide +kernel
theorem dX0_opposite_14 : decode cX0_opposite 14 = .ok (.goto 4, 3) := by decide +kernel
theorem dX0_opposite_17 : decode cX0_opposite 17 = .ok (.iconst 0, 1) := by decide +kernel
theorem dX0_opposite_18 : decode cX0_opposite 18 = .ok (.ireturn, 1) := by decide +kernel
theorem dX0_multiple_0 : decode cX0_multiple 0 = .ok (.iconst 0, 1) := by decide +kernel
theorem dX0_multiple_1 : decode cX0_multiple 1 = .ok (.istore_n 3, 1) := by decide +kernel
theorem dX0_multiple_2 : decode cX0_multiple 2 = .ok (.iconst 0, 1) := by decide +kernel
theorem dX0_multiple_3 : decode cX0_multiple 3 = .ok (.istore 4, 2) := by decide +kernel
theorem dX0_multiple_5 : decode cX0_multiple 5 = .ok (.iload 4, 2) := by decide +kernel
theorem dX0_multiple_7 : decode cX0_multiple 7 = .ok (.iload_n 2, 1) := by decide +kernel
theorem dX0_multiple_8 : decode cX0_multiple 8 = .ok (.if_icmp .ge 16, 3) := by decide +kernel
theorem dX0_multiple_11 : decode cX0_multiple 11 = .ok (.aload_n 0, 1) := by decide +kernel
theorem dX0_multiple_12 : decode cX0_multiple 12 = .ok (.iload_n 3, 1) := by decide +kernel
theorem dX0_multiple_13 : decode cX0_multiple 13 = .ok (.iload_n 1, 1) := by decide +kernel
theorem dX0_multiple_14 : decode cX0_multiple 14 = .ok (.invokevirtual 52, 3) := by decide +kernel
theorem dX0_multiple_17 : decode cX0_multiple 17 = .ok (.istore_n 3, 1) := by decide +kernel
theorem dX0_multiple_18 : decode cX0_multiple 18 = .ok (.iinc 4 1, 3) := by decide +kernel
theorem dX0_multiple_21 : decode cX0_multiple 21 = .ok (.goto (-16), 3) := by decide +kernel
theorem dX0_multiple_24 : decode cX0_multiple 24 = .ok (.iload_n 3, 1) := by decide +kernel
theorem dX0_multiple_25 : decode cX0_multiple 25 = .ok (.ireturn, 1) := by decide +kernel
theorem dX0_isUnit_0 : decode cX0_isUnit 0 = .ok (.iconst 2, 1) := by decide +kernel
theorem dX0_isUnit_1 : decode cX0_isUnit 1 = .ok (.istore_n 2, 1) := by decide +kernel
theorem dX0_isUnit_2 : decode cX0_isUnit 2 = .ok (.iload_n 2, 1) := by decide +kernel
theorem dX0_isUnit_3 : decode cX0_isUnit 3 = .ok (.iload_n 1, 1) := by decide +kernel
theorem dX0_isUnit_4 : decode cX0_isUnit 4 = .ok (.if_icmp .gt 26, 3) := by decide +kernel
theorem dX0_isUnit_7 : decode cX0_isUnit 7 = .ok (.iload_n 1, 1) := by decide +kernel
theorem dX0_isUnit_8 : decode cX0_isUnit 8 = .ok (.iload_n 2, 1) := by decide +kernel
theorem dX0_isUnit_9 : decode cX0_isUnit 9 = .ok (.irem, 1) := by decide +kernel
theorem dX0_isUnit_10 : decode cX0_isUnit 10 = .ok (.ifCond .ne 14, 3) := by decide +kernel
theorem dX0_isUnit_13 : decode cX0_isUnit 13 = .ok (.aload_n 0, 1) := by decide +kernel
theorem dX0_isUnit_14 : decode cX0_isUnit 14 = .ok (.getfield 28, 3) := by decide +kernel
theorem dX0_isUnit_17 : decode cX0_isUnit 17 = .ok (.iload_n 2, 1) := by decide +kernel
theorem dX0_isUnit_18 : decode cX0_isUnit 18 = .ok (.irem, 1) := by decide +kernel
theorem dX0_isUnit_19 : decode cX0_isUnit 19 = .ok (.ifCond .ne 5, 3) := by decide +kernel
theorem dX0_isUnit_22 : decode cX0_isUnit 22 = .ok (.iconst 0, 1) := by decide +kernel
theorem dX0_isUnit_23 : decode cX0_isUnit 23 = .ok (.ireturn, 1) := by decide +kernel
theorem dX0_isUnit_24 : decode cX0_isUnit 24 = .ok (.iinc 2 1, 3) := by decide +kernel
theorem dX0_isUnit_27 : decode cX0_isUnit 27 = .ok (.goto (-25), 3) := by decide +kernel
theorem dX0_isUnit_30 : decode cX0_isUnit 30 = .ok (.iconst 1, 1) := by decide +kernel
theorem dX0_isUnit_31 : decode cX0_isUnit 31 = .ok (.ireturn, 1) := by decide +kernel
theorem dX0_moved_0 : decode cX0_moved 0 = .ok (.iload_n 1, 1) := by decide +kernel
theorem dX0_moved_1 : decode cX0_moved 1 = .ok (.ifCond .ne 5, 3) := by decide +kernel
theorem dX0_moved_4 : decode cX0_moved 4 = .ok (.iconst 0, 1) := by decide +kernel
theorem dX0_moved_5 : decode cX0_moved 5 = .ok (.ireturn, 1) := by decide +kernel
theorem dX0_moved_6 : decode cX0_moved 6 = .ok (.iconst 0, 1) := by decide +kernel
theorem dX0_moved_7 : decode cX0_moved 7 = .ok (.istore_n 3, 1) := by decide +kernel
theorem dX0_moved_8 : decode cX0_moved 8 = .ok (.iconst 0, 1) := by decide +kernel
theorem dX0_moved_9 : decode cX0_moved 9 = .ok (.istore 4, 2) := by decide +kernel
theorem dX0_moved_11 : decode cX0_moved 11 = .ok (.iload 4, 2) := by decide +kernel
theorem dX0_moved_13 : decode cX0_moved 13 = .ok (.aload_n 0, 1) := by decide +kernel
theorem dX0_moved_14 : decode cX0_moved 14 = .ok (.getfield 25, 3) := by decide +kernel
theorem dX0_moved_17 : decode cX0_moved 17 = .ok (.if_icmp .ge 30, 3) := by decide +kernel
theorem dX0_moved_20 : decode cX0_moved 20 = .ok (.iload_n 1, 1) := by decide +kernel
theorem dX0_moved_21 : decode cX0_moved 21 = .ok (.iload 4, 2) := by decide +kernel
theorem dX0_moved_23 : decode cX0_moved 23 = .ok (.invokestatic 55, 3) := by decide +kernel
theorem dX0_moved_26 : decode cX0_moved 26 = .ok (.ifCond .eq 15, 3) := by decide +kernel
theorem dX0_moved_29 : decode cX0_moved 29 = .ok (.iload_n 3, 1) := by decide +kernel
theorem dX0_moved_30 : decode cX0_moved 30 = .ok (.iconst 1, 1) := by decide +kernel
theorem dX0_moved_31 : decode cX0_moved 31 = .ok (.aload_n 0, 1) := by decide +kernel
theorem dX0_moved_32 : decode cX0_moved 32 = .ok (.iload 4, 2) := by decide +kernel
theorem dX0_moved_34 : decode cX0_moved 34 = .ok (.iload_n 2, 1) := by decide +kernel
theorem dX0_moved_35 : decode cX0_moved 35 = .ok (.invokevirtual 52, 3) := by decide +kernel
theorem dX0_moved_38 : decode cX0_moved 38 = .ok (.ishl, 1) := by decide +kernel
theorem dX0_moved_39 : decode cX0_moved 39 = .ok (.ior, 1) := by decide +kernel
theorem dX0_moved_40 : decode cX0_moved 40 = .ok (.istore_n 3, 1) := by decide +kernel
theorem dX0_moved_41 : decode cX0_moved 41 = .ok (.iinc 4 1, 3) := by decide +kernel
theorem dX0_moved_44 : decode cX0_moved 44 = .ok (.goto (-33), 3) := by decide +kernel
theorem dX0_moved_47 : decode cX0_moved 47 = .ok (.iload_n 3, 1) := by decide +kernel
theorem dX0_moved_48 : decode cX0_moved 48 = .ok (.ireturn, 1) := by decide +kernel
theorem dX0_withoutOppositesOf_0 : decode cX0_withoutOppositesOf 0 = .ok (.iconst 0, 1) := by decide +kernel
theorem dX0_withoutOppositesOf_1 : decode cX0_withoutOppositesOf 1 = .ok (.istore_n 2, 1) := by decide +kernel
theorem dX0_withoutOppositesOf_2 : decode cX0_withoutOppositesOf 2 = .ok (.iconst 1, 1) := by decide +kernel
theorem dX0_withoutOppositesOf_3 : decode cX0_withoutOppositesOf 3 = .ok (.istore_n 3, 1) := by decide +kernel
theorem dX0_withoutOppositesOf_4 : decode cX0_withoutOppositesOf 4 = .ok (.iload_n 3, 1) := by decide +kernel
theorem dX0_withoutOppositesOf_5 : decode cX0_withoutOppositesOf 5 = .ok (.aload_n 0, 1) := by decide +kernel
theorem dX0_withoutOppositesOf_6 : decode cX0_withoutOppositesOf 6 = .ok (.getfield 25, 3) := by decide +kernel
theorem dX0_withoutOppositesOf_9 : decode cX0_withoutOppositesOf 9 = .ok (.if_icmp .ge 27, 3) := by decide +kernel
theorem dX0_withoutOppositesOf_12 : decode cX0_withoutOppositesOf 12 = .ok (.iload_n 1, 1) := by decide +kernel
theorem dX0_withoutOppositesOf_13 : decode cX0_withoutOppositesOf 13 = .ok (.aload_n 0, 1) := by decide +kernel
theorem dX0_withoutOppositesOf_14 : decode cX0_withoutOppositesOf 14 = .ok (.iload_n 3, 1) := by decide +kernel
theorem dX0_withoutOppositesOf_15 : decode cX0_withoutOppositesOf 15 = .ok (.invokevirtual 59, 3) := by decide +kernel
theorem dX0_withoutOppositesOf_18 : decode cX0_withoutOppositesOf 18 = .ok (.invokestatic 55, 3) := by decide +kernel
theorem dX0_withoutOppositesOf_21 : decode cX0_withoutOppositesOf 21 = .ok (.ifCond .ne 9, 3) := by decide +kernel
theorem dX0_withoutOppositesOf_24 : decode cX0_withoutOppositesOf 24 = .ok (.iload_n 2, 1) := by decide +kernel
theorem dX0_withoutOppositesOf_25 : decode cX0_withoutOppositesOf 25 = .ok (.iconst 1, 1) := by decide +kernel
theorem dX0_withoutOppositesOf_26 : decode cX0_withoutOppositesOf 26 = .ok (.iload_n 3, 1) := by decide +kernel
theorem dX0_withoutOppositesOf_27 : decode cX0_withoutOppositesOf 27 = .ok (.ishl, 1) := by decide +kernel
theorem dX0_withoutOppositesOf_28 : decode cX0_withoutOppositesOf 28 = .ok (.ior, 1) := by decide +kernel
theorem dX0_withoutOppositesOf_29 : decode cX0_withoutOppositesOf 29 = .ok (.istore_n 2, 1) := by decide +kernel
theorem dX0_withoutOppositesOf_30 : decode cX0_withoutOppositesOf 30 = .ok (.iinc 3 1, 3) := by decide +kernel
theorem dX0_withoutOppositesOf_33 : decode cX0_withoutOppositesOf 33 = .ok (.goto (-29), 3) := by decide +kernel
theorem dX0_withoutOppositesOf_36 : decode cX0_withoutOppositesOf 36 = .ok (.iload_n 2, 1) := by decide +kernel
theorem dX0_withoutOppositesOf_37 : decode cX0_withoutOppositesOf 37 = .ok (.ireturn, 1) := by decide +kernel
theorem dX0_isIn_0 : decode cX0_isIn 0 = .ok (.iload_n 0, 1) := by decide +kernel
theorem dX0_isIn_1 : decode cX0_isIn 1 = .ok (.iload_n 1, 1) := by decide +kernel
theorem dX0_isIn_2 : decode cX0_isIn 2 = .ok (.iushr, 1) := by decide +kernel
theorem dX0_isIn_3 : decode cX0_isIn 3 = .ok (.iconst 1, 1) := by decide +kernel
theorem dX0_isIn_4 : decode cX0_isIn 4 = .ok (.iand, 1) := by decide +kernel
theorem dX0_isIn_5 : decode cX0_isIn 5 = .ok (.ifCond .eq 7, 3) := by decide +kernel
theorem dX0_isIn_8 : decode cX0_isIn 8 = .ok (.iconst 1, 1) := by decide +kernel
theorem dX0_isIn_9 : decode cX0_isIn 9 = .ok (.goto 4, 3) := by decide +kernel
theorem dX0_isIn_12 : decode cX0_isIn 12 = .ok (.iconst 0, 1) := by decide +kernel
theorem dX0_isIn_13 : decode cX0_isIn 13 = .ok (.ireturn, 1) := by decide +kernel
theorem dX1_init_0 : decode cX1_init 0 = .ok (.aload_n 0, 1) := by decide +kernel
theorem dX1_init_1 : decode cX1_init 1 = .ok (.invokespecial 1, 3) := by decide +kernel
theorem dX1_init_4 : decode cX1_init 4 = .ok (.aload_n 0, 1) := by decide +kernel
theorem dX1_init_5 : decode cX1_init 5 = .ok (.new 7, 3) := by decide +kernel
theorem dX1_init_8 : decode cX1_init 8 = .ok (.dup, 1) := by decide +kernel
theorem dX1_init_9 : decode cX1_init 9 = .ok (.invokespecial 9, 3) := by decide +kernel
theorem dX1_init_12 : decode cX1_init 12 = .ok (.putfield 10, 3) := by decide +kernel
theorem dX1_init_15 : decode cX1_init 15 = .ok (.aload_n 0, 1) := by decide +kernel
theorem dX1_init_16 : decode cX1_init 16 = .ok (.iconst 0, 1) := by decide +kernel
theorem dX1_init_17 : decode cX1_init 17 = .ok (.putfield 16, 3) := by decide +kernel
theorem dX1_init_20 : decode cX1_init 20 = .ok (.aload_n 0, 1) := by decide +kernel
theorem dX1_init_21 : decode cX1_init 21 = .ok (.iconst 0, 1) := by decide +kernel
theorem dX1_init_22 : decode cX1_init 22 = .ok (.putfield 20, 3) := by decide +kernel
theorem dX1_init_25 : decode cX1_init 25 = .ok (.return_, 1) := by decide +kernel
theorem dX1_isKept_0 : decode cX1_isKept 0 = .ok (.aload_n 0, 1) := by decide +kernel
theorem dX1_isKept_1 : decode cX1_isKept 1 = .ok (.getfield 20, 3) := by decide +kernel
theorem dX1_isKept_4 : decode cX1_isKept 4 = .ok (.ireturn, 1) := by decide +kernel
theorem dX1_keep_0 : decode cX1_keep 0 = .ok (.aload_n 0, 1) := by decide +kernel
theorem dX1_keep_1 : decode cX1_keep 1 = .ok (.iconst 1, 1) := by decide +kernel
theorem dX1_keep_2 : decode cX1_keep 2 = .ok (.putfield 20, 3) := by decide +kernel
theorem dX1_keep_5 : decode cX1_keep 5 = .ok (.aload_n 0, 1) := by decide +kernel
theorem dX1_keep_6 : decode cX1_keep 6 = .ok (.aload_n 1, 1) := by decide +kernel
theorem dX1_keep_7 : decode cX1_keep 7 = .ok (.invokevirtual 24, 3) := by decide +kernel
theorem dX1_keep_10 : decode cX1_keep 10 = .ok (.putfield 16, 3) := by decide +kernel
theorem dX1_keep_13 : decode cX1_keep 13 = .ok (.aload_n 0, 1) := by decide +kernel
theorem dX1_keep_14 : decode cX1_keep 14 = .ok (.getfield 10, 3) := by decide +kernel
theorem dX1_keep_17 : decode cX1_keep 17 = .ok (.aload_n 2, 1) := by decide +kernel
theorem dX1_keep_18 : decode cX1_keep 18 = .ok (.invokevirtual 30, 3) := by decide +kernel
theorem dX1_keep_21 : decode cX1_keep 21 = .ok (.return_, 1) := by decide +kernel
theorem dX1_giveBack_0 : decode cX1_giveBack 0 = .ok (.aload_n 1, 1) := by decide +kernel
theorem dX1_giveBack_1 : decode cX1_giveBack 1 = .ok (.aload_n 0, 1) := by decide +kernel
theorem dX1_giveBack_2 : decode cX1_giveBack 2 = .ok (.getfield 16, 3) := by decide +kernel
theorem dX1_giveBack_5 : decode cX1_giveBack 5 = .ok (.invokevirtual 34, 3) := by decide +kernel
theorem dX1_giveBack_8 : decode cX1_giveBack 8 = .ok (.aload_n 2, 1) := by decide +kernel
theorem dX1_giveBack_9 : decode cX1_giveBack 9 = .ok (.aload_n 0, 1) := by decide +kernel
theorem dX1_giveBack_10 : decode cX1_giveBack 10 = .ok (.getfield 10, 3) := by decide +kernel
theorem dX1_giveBack_13 : decode cX1_giveBack 13 = .ok (.invokevirtual 30, 3) := by decide +kernel
theorem dX1_giveBack_16 : decode cX1_giveBack 16 = .ok (.return_, 1) := by decide +kernel
theorem dX2_init_0 : decode cX2_init 0 = .ok (.aload_n 0, 1) := by decide +kernel
theorem dX2_init_1 : decode cX2_init 1 = .ok (.invokespecial 3, 3) := by decide +kernel
theorem dX2_init_4 : decode cX2_init 4 = .ok (.aload_n 0, 1) := by decide +kernel
theorem dX2_init_5 : decode cX2_init 5 = .ok (.bipush 13, 2) := by decide +kernel
theorem dX2_init_7 : decode cX2_init 7 = .ok (.newarray .int, 2) := by decide +kernel
theorem dX2_init_9 : decode cX2_init 9 = .ok (.putfield 9, 3) := by decide +kernel
theorem dX2_init_12 : decode cX2_init 12 = .ok (.aload_n 0, 1) := by decide +kernel
theorem dX2_init_13 : decode cX2_init 13 = .ok (.new 15, 3) := by decide +kernel
theorem dX2_init_16 : decode cX2_init 16 = .ok (.dup, 1) := by decide +kernel
theorem dX2_init_17 : decode cX2_init 17 = .ok (.invokespecial 17, 3) := by decide +kernel
theorem dX2_init_20 : decode cX2_init 20 = .ok (.putfield 18, 3) := by decide +kernel
theorem dX2_init_23 : decode cX2_init 23 = .ok (.aload_n 0, 1) := by decide +kernel
theorem dX2_init_24 : decode cX2_init 24 = .ok (.new 15, 3) := by decide +kernel
theorem dX2_init_27 : decode cX2_init 27 = .ok (.dup, 1) := by decide +kernel
theorem dX2_init_28 : decode cX2_init 28 = .ok (.invokespecial 17, 3) := by decide +kernel
theorem dX2_init_31 : decode cX2_init 31 = .ok (.putfield 22, 3) := by decide +kernel
theorem dX2_init_34 : decode cX2_init 34 = .ok (.aload_n 0, 1) := by decide +kernel
theorem dX2_init_35 : decode cX2_init 35 = .ok (.iconst 0, 1) := by decide +kernel
theorem dX2_init_36 : decode cX2_init 36 = .ok (.putfield 25, 3) := by decide +kernel
theorem dX2_init_39 : decode cX2_init 39 = .ok (.return_, 1) := by decide +kernel
theorem dX2_study_0 : decode cX2_study 0 = .ok (.aload_n 1, 1) := by decide +kernel
theorem dX2_study_1 : decode cX2_study 1 = .ok (.invokevirtual 29, 3) := by decide +kernel
theorem dX2_study_4 : decode cX2_study 4 = .ok (.aload_n 0, 1) := by decide +kernel
theorem dX2_study_5 : decode cX2_study 5 = .ok (.getfield 25, 3) := by decide +kernel
theorem dX2_study_8 : decode cX2_study 8 = .ok (.if_icmp .ne 4, 3) := by decide +kernel
theorem dX2_study_11 : decode cX2_study 11 = .ok (.return_, 1) := by decide +kernel
theorem dX2_study_12 : decode cX2_study 12 = .ok (.aload_n 0, 1) := by decide +kernel
theorem dX2_study_13 : decode cX2_study 13 = .ok (.aload_n 1, 1) := by decide +kernel
theorem dX2_study_14 : decode cX2_study 14 = .ok (.invokevirtual 29, 3) := by decide +kernel
theorem dX2_study_17 : decode cX2_study 17 = .ok (.putfield 25, 3) := by decide +kernel
theorem dX2_study_20 : decode cX2_study 20 = .ok (.iconst 0, 1) := by decide +kernel
theorem dX2_study_21 : decode cX2_study 21 = .ok (.istore_n 2, 1) := by decide +kernel
theorem dX2_study_22 : decode cX2_study 22 = .ok (.iload_n 2, 1) := by decide +kernel
theorem dX2_study_23 : decode cX2_study 23 = .ok (.bipush 12, 2) := by decide +kernel
theorem dX2_study_25 : decode cX2_study 25 = .ok (.if_icmp .gt 16, 3) := by decide +kernel
theorem dX2_study_28 : decode cX2_study 28 = .ok (.aload_n 0, 1) := by decide +kernel
theorem dX2_study_29 : decode cX2_study 29 = .ok (.getfield 9, 3) := by decide +kernel
theorem dX2_study_32 : decode cX2_study 32 = .ok (.iload_n 2, 1) := by decide +kernel
theorem dX2_study_33 : decode cX2_study 33 = .ok (.iconst 0, 1) := by decide +kernel
theorem dX2_study_34 : decode cX2_study 34 = .ok (.iastore, 1) := by decide +kernel
theorem dX2_study_35 : decode cX2_study 35 = .ok (.iinc 2 1, 3) := by decide +kernel
theorem dX2_study_38 : decode cX2_study 38 = .ok (.goto (-16), 3) := by decide +kernel
theorem dX2_study_41 : decode cX2_study 41 = .ok (.aload_n 0, 1) := by decide +kernel
theorem dX2_study_42 : decode cX2_study 42 = .ok (.getfield 18, 3) := by decide +kernel
theorem dX2_study_45 : decode cX2_study 45 = .ok (.invokevirtual 35, 3) := by decide +kernel
theorem dX2_study_48 : decode cX2_study 48 = .ok (.aload_n 0, 1) := by decide +kernel
theorem dX2_study_49 : decode cX2_study 49 = .ok (.getfield 22, 3) := by decide +kernel
theorem dX2_study_52 : decode cX2_study 52 = .ok (.invokevirtual 35, 3) := by decide +kernel
theorem dX2_study_55 : decode cX2_study 55 = .ok (.aload_n 0, 1) := by decide +kernel
theorem dX2_study_56 : decode cX2_study 56 = .ok (.aload_n 1, 1) := by decide +kernel
theorem dX2_study_57 : decode cX2_study 57 = .ok (.iconst 0, 1) := by decide +kernel
theorem dX2_study_58 : decode cX2_study 58 = .ok (.iconst 1, 1) := by decide +kernel
theorem dX2_study_59 : decode cX2_study 59 = .ok (.iconst 0, 1) := by decide +kernel
theorem dX2_study_60 : decode cX2_study 60 = .ok (.invokestatic 38, 3) := by decide +kernel
theorem dX2_study_63 : decode cX2_study 63 = .ok (.return_, 1) := by decide +kernel
theorem dX2_howManyOf_0 : decode cX2_howManyOf 0 = .ok (.iload_n 1, 1) := by decide +kernel
theorem dX2_howManyOf_1 : decode cX2_howManyOf 1 = .ok (.ifCond .lt 18, 3) := by decide +kernel
theorem dX2_howManyOf_4 : decode cX2_howManyOf 4 = .ok (.iload_n 1, 1) := by decide +kernel
theorem dX2_howManyOf_5 : decode cX2_howManyOf 5 = .ok (.bipush 12, 2) := by decide +kernel
theorem dX2_howManyOf_7 : decode cX2_howManyOf 7 = .ok (.if_icmp .gt 12, 3) := by decide +kernel
theorem dX2_howManyOf_10 : decode cX2_howManyOf 10 = .ok (.aload_n 0, 1) := by decide +kernel
theorem dX2_howManyOf_11 : decode cX2_howManyOf 11 = .ok (.getfield 9, 3) := by decide +kernel
theorem dX2_howManyOf_14 : decode cX2_howManyOf 14 = .ok (.iload_n 1, 1) := by decide +kernel
theorem dX2_howManyOf_15 : decode cX2_howManyOf 15 = .ok (.iaload, 1) := by decide +kernel
theorem dX2_howManyOf_16 : decode cX2_howManyOf 16 = .ok (.goto 4, 3) := by decide +kernel
theorem dX2_howManyOf_19 : decode cX2_howManyOf 19 = .ok (.iconst 0, 1) := by decide +kernel
theorem dX2_howManyOf_20 : decode cX2_howManyOf 20 = .ok (.ireturn, 1) := by decide +kernel
theorem dX2_firstLongest_0 : decode cX2_firstLongest 0 = .ok (.aload_n 0, 1) := by decide +kernel
theorem dX2_firstLongest_1 : decode cX2_firstLongest 1 = .ok (.getfield 22, 3) := by decide +kernel
theorem dX2_firstLongest_4 : decode cX2_firstLongest 4 = .ok (.areturn, 1) := by decide +kernel
theorem dX2_grow_0 : decode cX2_grow 0 = .ok (.iload_n 2, 1) := by decide +kernel
theorem dX2_grow_1 : decode cX2_grow 1 = .ok (.ifCond .lt 9, 3) := by decide +kernel
theorem dX2_grow_4 : decode cX2_grow 4 = .ok (.iload_n 2, 1) := by decide +kernel
theorem dX2_grow_5 : decode cX2_grow 5 = .ok (.bipush 12, 2) := by decide +kernel
theorem dX2_grow_7 : decode cX2_grow 7 = .ok (.if_icmp .le 4, 3) := by decide +kernel
theorem dX2_grow_10 : decode cX2_grow 10 = .ok (.return_, 1) := by decide +kernel
theorem dX2_grow_11 : decode cX2_grow 11 = .ok (.aload_n 0, 1) := by decide +kernel
theorem dX2_grow_12 : decode cX2_grow 12 = .ok (.getfield 9, 3) := by decide +kernel
theorem dX2_grow_15 : decode cX2_grow 15 = .ok (.iload_n 2, 1) := by decide +kernel
theorem dX2_grow_16 : decode cX2_grow 16 = .ok (.dup2, 1) := by decide +kernel
theorem dX2_grow_17 : decode cX2_grow 17 = .ok (.iaload, 1) := by decide +kernel
theorem dX2_grow_18 : decode cX2_grow 18 = .ok (.iconst 1, 1) := by decide +kernel
theorem dX2_grow_19 : decode cX2_grow 19 = .ok (.iadd, 1) := by decide +kernel
theorem dX2_grow_20 : decode cX2_grow 20 = .ok (.iastore, 1) := by decide +kernel
theorem dX2_grow_21 : decode cX2_grow 21 = .ok (.iload_n 2, 1) := by decide +kernel
theorem dX2_grow_22 : decode cX2_grow 22 = .ok (.aload_n 0, 1) := by decide +kernel
theorem dX2_grow_23 : decode cX2_grow 23 = .ok (.getfield 22, 3) := by decide +kernel
theorem dX2_grow_26 : decode cX2_grow 26 = .ok (.invokevirtual 42, 3) := by decide +kernel
theorem dX2_grow_29 : decode cX2_grow 29 = .ok (.if_icmp .le 14, 3) := by decide +kernel
theorem dX2_grow_32 : decode cX2_grow 32 = .ok (.aload_n 0, 1) := by decide +kernel
theorem dX2_grow_33 : decode cX2_grow 33 = .ok (.getfield 22, 3) := by decide +kernel
theorem dX2_grow_36 : decode cX2_grow 36 = .ok (.aload_n 0, 1) := by decide +kernel
theorem dX2_grow_37 : decode cX2_grow 37 = .ok (.getfield 18, 3) := by decide +kernel
theorem dX2_grow_40 : decode cX2_grow 40 = .ok (.invokevirtual 45, 3) := by decide +kernel
theorem dX2_grow_43 : decode cX2_grow 43 = .ok (.iload_n 3, 1) := by decide +kernel
theorem dX2_grow_44 : decode cX2_grow 44 = .ok (.istore 5, 2) := by decide +kernel
theorem dX2_grow_46 : decode cX2_grow 46 = .ok (.iload 5, 2) := by decide +kernel
theorem dX2_grow_48 : decode cX2_grow 48 = .ok (.aload_n 1, 1) := by decide +kernel
theorem dX2_grow_49 : decode cX2_grow 49 = .ok (.invokevirtual 49, 3) := by decide +kernel
theorem dX2_grow_52 : decode cX2_grow 52 = .ok (.if_icmp .ge 74, 3) := by decide +kernel
theorem dX2_grow_55 : decode cX2_grow 55 = .ok (.iload_n 2, 1) := by decide +kernel
theorem dX2_grow_56 : decode cX2_grow 56 = .ok (.bipush 12, 2) := by decide +kernel
theorem dX2_grow_58 : decode cX2_grow 58 = .ok (.if_icmp .ge 68, 3) := by decide +kernel
theorem dX2_grow_61 : decode cX2_grow 61 = .ok (.iload 4, 2) := by decide +kernel
theorem dX2_grow_63 : decode cX2_grow 63 = .ok (.aload_n 1, 1) := by decide +kernel
theorem dX2_grow_64 : decode cX2_grow 64 = .ok (.iload 5, 2) := by decide +kernel
theorem dX2_grow_66 : decode cX2_grow 66 = .ok (.invokevirtual 52, 3) := by decide +kernel
theorem dX2_grow_69 : decode cX2_grow 69 = .ok (.invokestatic 56, 3) := by decide +kernel
theorem dX2_grow_72 : decode cX2_grow 72 = .ok (.ifCond .ne 48, 3) := by decide +kernel
theorem dX2_grow_75 : decode cX2_grow 75 = .ok (.aload_n 0, 1) := by decide +kernel
theorem dX2_grow_76 : decode cX2_grow 76 = .ok (.getfield 18, 3) := by decide +kernel
theorem dX2_grow_79 : decode cX2_grow 79 = .ok (.iload 5, 2) := by decide +kernel
theorem dX2_grow_81 : decode cX2_grow 81 = .ok (.invokevirtual 60, 3) := by decide +kernel
theorem dX2_grow_84 : decode cX2_grow 84 = .ok (.pop, 1) := by decide +kernel
theorem dX2_grow_85 : decode cX2_grow 85 = .ok (.aload_n 0, 1) := by decide +kernel
theorem dX2_grow_86 : decode cX2_grow 86 = .ok (.aload_n 1, 1) := by decide +kernel
theorem dX2_grow_87 : decode cX2_grow 87 = .ok (.iload_n 2, 1) := by decide +kernel
theorem dX2_grow_88 : decode cX2_grow 88 = .ok (.iconst 1, 1) := by decide +kernel
theorem dX2_grow_89 : decode cX2_grow 89 = .ok (.iadd, 1) := by decide +kernel
theorem dX2_grow_90 : decode cX2_grow 90 = .ok (.iload 5, 2) := by decide +kernel
theorem dX2_grow_92 : decode cX2_grow 92 = .ok (.iload 4, 2) := by decide +kernel
theorem dX2_grow_94 : decode cX2_grow 94 = .ok (.iconst 1, 1) := by decide +kernel
theorem dX2_grow_95 : decode cX2_grow 95 = .ok (.iload 5, 2) := by decide +kernel
theorem dX2_grow_97 : decode cX2_grow 97 = .ok (.ishl, 1) := by decide +kernel
theorem dX2_grow_98 : decode cX2_grow 98 = .ok (.ior, 1) := by decide +kernel
theorem dX2_grow_99 : decode cX2_grow 99 = .ok (.aload_n 1, 1) := by decide +kernel
theorem dX2_grow_100 : decode cX2_grow 100 = .ok (.iload 4, 2) := by decide +kernel
theorem dX2_grow_102 : decode cX2_grow 102 = .ok (.iload 5, 2) := by decide +kernel
theorem dX2_grow_104 : decode cX2_grow 104 = .ok (.invokevirtual 64, 3) := by decide +kernel
theorem dX2_grow_107 : decode cX2_grow 107 = .ok (.ior, 1) := by decide +kernel
theorem dX2_grow_108 : decode cX2_grow 108 = .ok (.invokestatic 38, 3) := by decide +kernel
theorem dX2_grow_111 : decode cX2_grow 111 = .ok (.aload_n 0, 1) := by decide +kernel
theorem dX2_grow_112 : decode cX2_grow 112 = .ok (.getfield 18, 3) := by decide +kernel
theorem dX2_grow_115 : decode cX2_grow 115 = .ok (.iload_n 2, 1) := by decide +kernel
theorem dX2_grow_116 : decode cX2_grow 116 = .ok (.invokevirtual 68, 3) := by decide +kernel
theorem dX2_grow_119 : decode cX2_grow 119 = .ok (.pop, 1) := by decide +kernel
theorem dX2_grow_120 : decode cX2_grow 120 = .ok (.iinc 5 1, 3) := by decide +kernel
theorem dX2_grow_123 : decode cX2_grow 123 = .ok (.goto (-77), 3) := by decide +kernel
theorem dX2_grow_126 : decode cX2_grow 126 = .ok (.return_, 1) := by decide +kernel
theorem dX3_init_0 : decode cX3_init 0 = .ok (.aload_n 0, 1) := by decide +kernel
theorem dX3_init_1 : decode cX3_init 1 = .ok (.invokespecial 3, 3) := by decide +kernel
theorem dX3_init_4 : decode cX3_init 4 = .ok (.aload_n 0, 1) := by decide +kernel
theorem dX3_init_5 : decode cX3_init 5 = .ok (.sipush 4096, 3) := by decide +kernel
theorem dX3_init_8 : decode cX3_init 8 = .ok (.newarray .byte, 2) := by decide +kernel
theorem dX3_init_10 : decode cX3_init 10 = .ok (.putfield 9, 3) := by decide +kernel
theorem dX3_init_13 : decode cX3_init 13 = .ok (.aload_n 0, 1) := by decide +kernel
theorem dX3_init_14 : decode cX3_init 14 = .ok (.sipush 4096, 3) := by decide +kernel
theorem dX3_init_17 : decode cX3_init 17 = .ok (.newarray .byte, 2) := by decide +kernel
theorem dX3_init_19 : decode cX3_init 19 = .ok (.putfield 15, 3) := by decide +kernel
theorem dX3_init_22 : decode cX3_init 22 = .ok (.aload_n 0, 1) := by decide +kernel
theorem dX3_init_23 : decode cX3_init 23 = .ok (.sipush 4096, 3) := by decide +kernel
theorem dX3_init_26 : decode cX3_init 26 = .ok (.newarray .byte, 2) := by decide +kernel
theorem dX3_init_28 : decode cX3_init 28 = .ok (.putfield 18, 3) := by decide +kernel
theorem dX3_init_31 : decode cX3_init 31 = .ok (.aload_n 0, 1) := by decide +kernel
theorem dX3_init_32 : decode cX3_init 32 = .ok (.new 21, 3) := by decide +kernel
theorem dX3_init_35 : decode cX3_init 35 = .ok (.dup, 1) := by decide +kernel
theorem dX3_init_36 : decode cX3_init 36 = .ok (.invokespecial 23, 3) := by decide +kernel
theorem dX3_init_39 : decode cX3_init 39 = .ok (.putfield 24, 3) := by decide +kernel
theorem dX3_init_42 : decode cX3_init 42 = .ok (.aload_n 0, 1) := by decide +kernel
theorem dX3_init_43 : decode cX3_init 43 = .ok (.iconst 0, 1) := by decide +kernel
theorem dX3_init_44 : decode cX3_init 44 = .ok (.putfield 28, 3) := by decide +kernel
theorem dX3_init_47 : decode cX3_init 47 = .ok (.aload_n 0, 1) := by decide +kernel
theorem dX3_init_48 : decode cX3_init 48 = .ok (.iconst 0, 1) := by decide +kernel
theorem dX3_init_49 : decode cX3_init 49 = .ok (.putfield 32, 3) := by decide +kernel
theorem dX3_init_52 : decode cX3_init 52 = .ok (.return_, 1) := by decide +kernel
theorem dX3_fewestAtoms_0 : decode cX3_fewestAtoms 0 = .ok (.aload_n 0, 1) := by decide +kernel
theorem dX3_fewestAtoms_1 : decode cX3_fewestAtoms 1 = .ok (.getfield 18, 3) := by decide +kernel
theorem dX3_fewestAtoms_4 : decode cX3_fewestAtoms 4 = .ok (.iconst 0, 1) := by decide +kernel
theorem dX3_fewestAtoms_5 : decode cX3_fewestAtoms 5 = .ok (.baload, 1) := by decide +kernel
theorem dX3_fewestAtoms_6 : decode cX3_fewestAtoms 6 = .ok (.ireturn, 1) := by decide +kernel
theorem dX3_mostAtoms_0 : decode cX3_mostAtoms 0 = .ok (.aload_n 0, 1) := by decide +kernel
theorem dX3_mostAtoms_1 : decode cX3_mostAtoms 1 = .ok (.aload_n 0, 1) := by decide +kernel
theorem dX3_mostAtoms_2 : decode cX3_mostAtoms 2 = .ok (.getfield 32, 3) := by decide +kernel
theorem dX3_mostAtoms_5 : decode cX3_mostAtoms 5 = .ok (.invokevirtual 35, 3) := by decide +kernel
theorem dX3_mostAtoms_8 : decode cX3_mostAtoms 8 = .ok (.ireturn, 1) := by decide +kernel
theorem dX3_study_0 : decode cX3_study 0 = .ok (.aload_n 1, 1) := by decide +kernel
theorem dX3_study_1 : decode cX3_study 1 = .ok (.invokevirtual 39, 3) := by decide +kernel
theorem dX3_study_4 : decode cX3_study 4 = .ok (.aload_n 0, 1) := by decide +kernel
theorem dX3_study_5 : decode cX3_study 5 = .ok (.getfield 28, 3) := by decide +kernel
theorem dX3_study_8 : decode cX3_study 8 = .ok (.if_icmp .ne 15, 3) := by decide +kernel
theorem dX3_study_11 : decode cX3_study 11 = .ok (.aload_n 0, 1) := by decide +kernel
theorem dX3_study_12 : decode cX3_study 12 = .ok (.getfield 24, 3) := by decide +kernel
theorem dX3_study_15 : decode cX3_study 15 = .ok (.aload_n 2, 1) := by decide +kernel
theorem dX3_study_16 : decode cX3_study 16 = .ok (.invokevirtual 45, 3) := by decide +kernel
theorem dX3_study_19 : decode cX3_study 19 = .ok (.ifCond .eq 4, 3) := by decide +kernel
theorem dX3_study_22 : decode cX3_study 22 = .ok (.return_, 1) := by decide +kernel
theorem dX3_study_23 : decode cX3_study 23 = .ok (.aload_n 0, 1) := by decide +kernel
theorem dX3_study_24 : decode cX3_study 24 = .ok (.getfield 24, 3) := by decide +kernel
theorem dX3_study_27 : decode cX3_study 27 = .ok (.aload_n 2, 1) := by decide +kernel
theorem dX3_study_28 : decode cX3_study 28 = .ok (.invokevirtual 49, 3) := by decide +kernel
theorem dX3_study_31 : decode cX3_study 31 = .ok (.aload_n 0, 1) := by decide +kernel
theorem dX3_study_32 : decode cX3_study 32 = .ok (.aload_n 1, 1) := by decide +kernel
theorem dX3_study_33 : decode cX3_study 33 = .ok (.invokevirtual 39, 3) := by decide +kernel
theorem dX3_study_36 : decode cX3_study 36 = .ok (.putfield 28, 3) := by decide +kernel
theorem dX3_study_39 : decode cX3_study 39 = .ok (.aload_n 0, 1) := by decide +kernel
theorem dX3_study_40 : decode cX3_study 40 = .ok (.aload_n 2, 1) := by decide +kernel
theorem dX3_study_41 : decode cX3_study 41 = .ok (.invokevirtual 53, 3) := by decide +kernel
theorem dX3_study_44 : decode cX3_study 44 = .ok (.sipush 4095, 3) := by decide +kernel
theorem dX3_study_47 : decode cX3_study 47 = .ok (.invokestatic 56, 3) := by decide +kernel
theorem dX3_study_50 : decode cX3_study 50 = .ok (.putfield 32, 3) := by decide +kernel
theorem dX3_study_53 : decode cX3_study 53 = .ok (.iconst 0, 1) := by decide +kernel
theorem dX3_study_54 : decode cX3_study 54 = .ok (.istore_n 3, 1) := by decide +kernel
theorem dX3_study_55 : decode cX3_study 55 = .ok (.iload_n 3, 1) := by decide +kernel
theorem dX3_study_56 : decode cX3_study 56 = .ok (.aload_n 2, 1) := by decide +kernel
theorem dX3_study_57 : decode cX3_study 57 = .ok (.invokevirtual 62, 3) := by decide +kernel
theorem dX3_study_60 : decode cX3_study 60 = .ok (.if_icmp .ge 21, 3) := by decide +kernel
theorem dX3_study_63 : decode cX3_study 63 = .ok (.iload_n 3, 1) := by decide +kernel
theorem dX3_study_64 : decode cX3_study 64 = .ok (.bipush 12, 2) := by decide +kernel
theorem dX3_study_66 : decode cX3_study 66 = .ok (.if_icmp .ge 15, 3) := by decide +kernel
theorem dX3_study_69 : decode cX3_study 69 = .ok (.aload_n 0, 1) := by decide +kernel
theorem dX3_study_70 : decode cX3_study 70 = .ok (.aload_n 1, 1) := by decide +kernel
theorem dX3_study_71 : decode cX3_study 71 = .ok (.iload_n 3, 1) := by decide +kernel
theorem dX3_study_72 : decode cX3_study 72 = .ok (.invokevirtual 65, 3) := by decide +kernel
theorem dX3_study_75 : decode cX3_study 75 = .ok (.iinc 3 1, 3) := by decide +kernel
theorem dX3_study_78 : decode cX3_study 78 = .ok (.goto (-23), 3) := by decide +kernel
theorem dX3_study_81 : decode cX3_study 81 = .ok (.aload_n 0, 1) := by decide +kernel
theorem dX3_study_82 : decode cX3_study 82 = .ok (.invokevirtual 69, 3) := by decide +kernel
theorem dX3_study_85 : decode cX3_study 85 = .ok (.return_, 1) := by decide +kernel
theorem dX3_madeBy_0 : decode cX3_madeBy 0 = .ok (.iload_n 1, 1) := by decide +kernel
theorem dX3_madeBy_1 : decode cX3_madeBy 1 = .ok (.ifCond .lt 19, 3) := by decide +kernel
theorem dX3_madeBy_4 : decode cX3_madeBy 4 = .ok (.iload_n 1, 1) := by decide +kernel
theorem dX3_madeBy_5 : decode cX3_madeBy 5 = .ok (.sipush 4096, 3) := by decide +kernel
theorem dX3_madeBy_8 : decode cX3_madeBy 8 = .ok (.if_icmp .ge 12, 3) := by decide +kernel
theorem dX3_madeBy_11 : decode cX3_madeBy 11 = .ok (.aload_n 0, 1) := by decide +kernel
theorem dX3_madeBy_12 : decode cX3_madeBy 12 = .ok (.getfield 9, 3) := by decide +kernel
theorem dX3_madeBy_15 : decode cX3_madeBy 15 = .ok (.iload_n 1, 1) := by decide +kernel
theorem dX3_madeBy_16 : decode cX3_madeBy 16 = .ok (.baload, 1) := by decide +kernel
theorem dX3_madeBy_17 : decode cX3_madeBy 17 = .ok (.goto 4, 3) := by decide +kernel
theorem dX3_madeBy_20 : decode cX3_madeBy 20 = .ok (.iconst (-1), 1) := by decide +kernel
theorem dX3_madeBy_21 : decode cX3_madeBy 21 = .ok (.ireturn, 1) := by decide +kernel
theorem dX3_mostOf_0 : decode cX3_mostOf 0 = .ok (.iload_n 1, 1) := by decide +kernel
theorem dX3_mostOf_1 : decode cX3_mostOf 1 = .ok (.ifCond .lt 19, 3) := by decide +kernel
theorem dX3_mostOf_4 : decode cX3_mostOf 4 = .ok (.iload_n 1, 1) := by decide +kernel
theorem dX3_mostOf_5 : decode cX3_mostOf 5 = .ok (.sipush 4096, 3) := by decide +kernel
theorem dX3_mostOf_8 : decode cX3_mostOf 8 = .ok (.if_icmp .ge 12, 3) := by decide +kernel
theorem dX3_mostOf_11 : decode cX3_mostOf 11 = .ok (.aload_n 0, 1) := by decide +kernel
theorem dX3_mostOf_12 : decode cX3_mostOf 12 = .ok (.getfield 15, 3) := by decide +kernel
theorem dX3_mostOf_15 : decode cX3_mostOf 15 = .ok (.iload_n 1, 1) := by decide +kernel
theorem dX3_mostOf_16 : decode cX3_mostOf 16 = .ok (.baload, 1) := by decide +kernel
theorem dX3_mostOf_17 : decode cX3_mostOf 17 = .ok (.goto 4, 3) := by decide +kernel
theorem dX3_mostOf_20 : decode cX3_mostOf 20 = .ok (.iconst 0, 1) := by decide +kernel
theorem dX3_mostOf_21 : decode cX3_mostOf 21 = .ok (.ireturn, 1) := by decide +kernel
theorem dX3_isAtom_0 : decode cX3_isAtom 0 = .ok (.aload_n 0, 1) := by decide +kernel
theorem dX3_isAtom_1 : decode cX3_isAtom 1 = .ok (.iload_n 1, 1) := by decide +kernel
theorem dX3_isAtom_2 : decode cX3_isAtom 2 = .ok (.invokevirtual 72, 3) := by decide +kernel
theorem dX3_isAtom_5 : decode cX3_isAtom 5 = .ok (.ifCond .ne 16, 3) := by decide +kernel
theorem dX3_isAtom_8 : decode cX3_isAtom 8 = .ok (.aload_n 0, 1) := by decide +kernel
theorem dX3_isAtom_9 : decode cX3_isAtom 9 = .ok (.iload_n 1, 1) := by decide +kernel
theorem dX3_isAtom_10 : decode cX3_isAtom 10 = .ok (.invokevirtual 35, 3) := by decide +kernel
theorem dX3_isAtom_13 : decode cX3_isAtom 13 = .ok (.iconst 1, 1) := by decide +kernel
theorem dX3_isAtom_14 : decode cX3_isAtom 14 = .ok (.if_icmp .ne 7, 3) := by decide +kernel
theorem dX3_isAtom_17 : decode cX3_isAtom 17 = .ok (.iconst 1, 1) := by decide +kernel
theorem dX3_isAtom_18 : decode cX3_isAtom 18 = .ok (.goto 4, 3) := by decide +kernel
theorem dX3_isAtom_21 : decode cX3_isAtom 21 = .ok (.iconst 0, 1) := by decide +kernel
theorem dX3_isAtom_22 : decode cX3_isAtom 22 = .ok (.ireturn, 1) := by decide +kernel
theorem dX3_fillSetsUpTo_0 : decode cX3_fillSetsUpTo 0 = .ok (.iconst 1, 1) := by decide +kernel
theorem dX3_fillSetsUpTo_1 : decode cX3_fillSetsUpTo 1 = .ok (.iload_n 2, 1) := by decide +kernel
theorem dX3_fillSetsUpTo_2 : decode cX3_fillSetsUpTo 2 = .ok (.ishl, 1) := by decide +kernel
theorem dX3_fillSetsUpTo_3 : decode cX3_fillSetsUpTo 3 = .ok (.istore_n 3, 1) := by decide +kernel
theorem dX3_fillSetsUpTo_4 : decode cX3_fillSetsUpTo 4 = .ok (.aload_n 0, 1) := by decide +kernel
theorem dX3_fillSetsUpTo_5 : decode cX3_fillSetsUpTo 5 = .ok (.getfield 24, 3) := by decide +kernel
theorem dX3_fillSetsUpTo_8 : decode cX3_fillSetsUpTo 8 = .ok (.iload_n 2, 1) := by decide +kernel
theorem dX3_fillSetsUpTo_9 : decode cX3_fillSetsUpTo 9 = .ok (.invokevirtual 75, 3) := by decide +kernel
theorem dX3_fillSetsUpTo_12 : decode cX3_fillSetsUpTo 12 = .ok (.istore 4, 2) := by decide +kernel
theorem dX3_fillSetsUpTo_14 : decode cX3_fillSetsUpTo 14 = .ok (.iload_n 3, 1) := by decide +kernel
theorem dX3_fillSetsUpTo_15 : decode cX3_fillSetsUpTo 15 = .ok (.istore 5, 2) := by decide +kernel
theorem dX3_fillSetsUpTo_17 : decode cX3_fillSetsUpTo 17 = .ok (.iload 5, 2) := by decide +kernel
theorem dX3_fillSetsUpTo_19 : decode cX3_fillSetsUpTo 19 = .ok (.iconst 2, 1) := by decide +kernel
theorem dX3_fillSetsUpTo_20 : decode cX3_fillSetsUpTo 20 = .ok (.iload_n 3, 1) := by decide +kernel
theorem dX3_fillSetsUpTo_21 : decode cX3_fillSetsUpTo 21 = .ok (.imul, 1) := by decide +kernel
theorem dX3_fillSetsUpTo_22 : decode cX3_fillSetsUpTo 22 = .ok (.if_icmp .ge 76, 3) := by decide +kernel
theorem dX3_fillSetsUpTo_25 : decode cX3_fillSetsUpTo 25 = .ok (.iload 5, 2) := by decide +kernel
theorem dX3_fillSetsUpTo_27 : decode cX3_fillSetsUpTo 27 = .ok (.sipush 4096, 3) := by decide +kernel
theorem dX3_fillSetsUpTo_30 : decode cX3_fillSetsUpTo 30 = .ok (.if_icmp .ge 68, 3) := by decide +kernel
theorem dX3_fillSetsUpTo_33 : decode cX3_fillSetsUpTo 33 = .ok (.aload_n 0, 1) := by decide +kernel
theorem dX3_fillSetsUpTo_34 : decode cX3_fillSetsUpTo 34 = .ok (.getfield 9, 3) := by decide +kernel
theorem dX3_fillSetsUpTo_37 : decode cX3_fillSetsUpTo 37 = .ok (.iload 5, 2) := by decide +kernel
theorem dX3_fillSetsUpTo_39 : decode cX3_fillSetsUpTo 39 = .ok (.aload_n 1, 1) := by decide +kernel
theorem dX3_fillSetsUpTo_40 : decode cX3_fillSetsUpTo 40 = .ok (.aload_n 0, 1) := by decide +kernel
theorem dX3_fillSetsUpTo_41 : decode cX3_fillSetsUpTo 41 = .ok (.iload 5, 2) := by decide +kernel
theorem dX3_fillSetsUpTo_43 : decode cX3_fillSetsUpTo 43 = .ok (.iload_n 3, 1) := by decide +kernel
theorem dX3_fillSetsUpTo_44 : decode cX3_fillSetsUpTo 44 = .ok (.isub, 1) := by decide +kernel
theorem dX3_fillSetsUpTo_45 : decode cX3_fillSetsUpTo 45 = .ok (.invokevirtual 72, 3) := by decide +kernel
theorem dX3_fillSetsUpTo_48 : decode cX3_fillSetsUpTo 48 = .ok (.iload 4, 2) := by decide +kernel
theorem dX3_fillSetsUpTo_50 : decode cX3_fillSetsUpTo 50 = .ok (.invokevirtual 78, 3) := by decide +kernel
theorem dX3_fillSetsUpTo_53 : decode cX3_fillSetsUpTo 53 = .ok (.i2b, 1) := by decide +kernel
theorem dX3_fillSetsUpTo_54 : decode cX3_fillSetsUpTo 54 = .ok (.bastore, 1) := by decide +kernel
theorem dX3_fillSetsUpTo_55 : decode cX3_fillSetsUpTo 55 = .ok (.aload_n 0, 1) := by decide +kernel
theorem dX3_fillSetsUpTo_56 : decode cX3_fillSetsUpTo 56 = .ok (.getfield 15, 3) := by decide +kernel
theorem dX3_fillSetsUpTo_59 : decode cX3_fillSetsUpTo 59 = .ok (.iload 5, 2) := by decide +kernel
theorem dX3_fillSetsUpTo_61 : decode cX3_fillSetsUpTo 61 = .ok (.aload_n 0, 1) := by decide +kernel
theorem dX3_fillSetsUpTo_62 : decode cX3_fillSetsUpTo 62 = .ok (.getfield 9, 3) := by decide +kernel
theorem dX3_fillSetsUpTo_65 : decode cX3_fillSetsUpTo 65 = .ok (.iload 5, 2) := by decide +kernel
theorem dX3_fillSetsUpTo_67 : decode cX3_fillSetsUpTo 67 = .ok (.baload, 1) := by decide +kernel
theorem dX3_fillSetsUpTo_68 : decode cX3_fillSetsUpTo 68 = .ok (.ifCond .ne 16, 3) := by decide +kernel
theorem dX3_fillSetsUpTo_71 : decode cX3_fillSetsUpTo 71 = .ok (.aload_n 0, 1) := by decide +kernel
theorem dX3_fillSetsUpTo_72 : decode cX3_fillSetsUpTo 72 = .ok (.iload 5, 2) := by decide +kernel
theorem dX3_fillSetsUpTo_74 : decode cX3_fillSetsUpTo 74 = .ok (.iload_n 3, 1) := by decide +kernel
theorem dX3_fillSetsUpTo_75 : decode cX3_fillSetsUpTo 75 = .ok (.isub, 1) := by decide +kernel
theorem dX3_fillSetsUpTo_76 : decode cX3_fillSetsUpTo 76 = .ok (.invokevirtual 35, 3) := by decide +kernel
theorem dX3_fillSetsUpTo_79 : decode cX3_fillSetsUpTo 79 = .ok (.iconst 1, 1) := by decide +kernel
theorem dX3_fillSetsUpTo_80 : decode cX3_fillSetsUpTo 80 = .ok (.iadd, 1) := by decide +kernel
theorem dX3_fillSetsUpTo_81 : decode cX3_fillSetsUpTo 81 = .ok (.goto 9, 3) := by decide +kernel
theorem dX3_fillSetsUpTo_84 : decode cX3_fillSetsUpTo 84 = .ok (.aload_n 0, 1) := by decide +kernel
theorem dX3_fillSetsUpTo_85 : decode cX3_fillSetsUpTo 85 = .ok (.iload 5, 2) := by decide +kernel
theorem dX3_fillSetsUpTo_87 : decode cX3_fillSetsUpTo 87 = .ok (.invokevirtual 81, 3) := by decide +kernel
theorem dX3_fillSetsUpTo_90 : decode cX3_fillSetsUpTo 90 = .ok (.i2b, 1) := by decide +kernel
theorem dX3_fillSetsUpTo_91 : decode cX3_fillSetsUpTo 91 = .ok (.bastore, 1) := by decide +kernel
theorem dX3_fillSetsUpTo_92 : decode cX3_fillSetsUpTo 92 = .ok (.iinc 5 1, 3) := by decide +kernel
theorem dX3_fillSetsUpTo_95 : decode cX3_fillSetsUpTo 95 = .ok (.goto (-78), 3) := by decide +kernel
theorem dX3_fillSetsUpTo_98 : decode cX3_fillSetsUpTo 98 = .ok (.return_, 1) := by decide +kernel
theorem dX3_mostWithoutOne_0 : decode cX3_mostWithoutOne 0 = .ok (.iconst 0, 1) := by decide +kernel
theorem dX3_mostWithoutOne_1 : decode cX3_mostWithoutOne 1 = .ok (.istore_n 2, 1) := by decide +kernel
theorem dX3_mostWithoutOne_2 : decode cX3_mostWithoutOne 2 = .ok (.iconst 0, 1) := by decide +kernel
theorem dX3_mostWithoutOne_3 : decode cX3_mostWithoutOne 3 = .ok (.istore_n 3, 1) := by decide +kernel
theorem dX3_mostWithoutOne_4 : decode cX3_mostWithoutOne 4 = .ok (.iload_n 3, 1) := by decide +kernel
theorem dX3_mostWithoutOne_5 : decode cX3_mostWithoutOne 5 = .ok (.aload_n 0, 1) := by decide +kernel
theorem dX3_mostWithoutOne_6 : decode cX3_mostWithoutOne 6 = .ok (.getfield 24, 3) := by decide +kernel
theorem dX3_mostWithoutOne_9 : decode cX3_mostWithoutOne 9 = .ok (.invokevirtual 62, 3) := by decide +kernel
theorem dX3_mostWithoutOne_12 : decode cX3_mostWithoutOne 12 = .ok (.if_icmp .ge 31, 3) := by decide +kernel
theorem dX3_mostWithoutOne_15 : decode cX3_mostWithoutOne 15 = .ok (.iload_n 1, 1) := by decide +kernel
theorem dX3_mostWithoutOne_16 : decode cX3_mostWithoutOne 16 = .ok (.iload_n 3, 1) := by decide +kernel
theorem dX3_mostWithoutOne_17 : decode cX3_mostWithoutOne 17 = .ok (.iushr, 1) := by decide +kernel
theorem dX3_mostWithoutOne_18 : decode cX3_mostWithoutOne 18 = .ok (.iconst 1, 1) := by decide +kernel
theorem dX3_mostWithoutOne_19 : decode cX3_mostWithoutOne 19 = .ok (.iand, 1) := by decide +kernel
theorem dX3_mostWithoutOne_20 : decode cX3_mostWithoutOne 20 = .ok (.ifCond .eq 17, 3) := by decide +kernel
theorem dX3_mostWithoutOne_23 : decode cX3_mostWithoutOne 23 = .ok (.iload_n 2, 1) := by decide +kernel
theorem dX3_mostWithoutOne_24 : decode cX3_mostWithoutOne 24 = .ok (.aload_n 0, 1) := by decide +kernel
theorem dX3_mostWithoutOne_25 : decode cX3_mostWithoutOne 25 = .ok (.iload_n 1, 1) := by decide +kernel
theorem dX3_mostWithoutOne_26 : decode cX3_mostWithoutOne 26 = .ok (.iconst 1, 1) := by decide +kernel
theorem dX3_mostWithoutOne_27 : decode cX3_mostWithoutOne 27 = .ok (.iload_n 3, 1) := by decide +kernel
theorem dX3_mostWithoutOne_28 : decode cX3_mostWithoutOne 28 = .ok (.ishl, 1) := by decide +kernel
theorem dX3_mostWithoutOne_29 : decode cX3_mostWithoutOne 29 = .ok (.ixor, 1) := by decide +kernel
theorem dX3_mostWithoutOne_30 : decode cX3_mostWithoutOne 30 = .ok (.invokevirtual 35, 3) := by decide +kernel
theorem dX3_mostWithoutOne_33 : decode cX3_mostWithoutOne 33 = .ok (.invokestatic 84, 3) := by decide +kernel
theorem dX3_mostWithoutOne_36 : decode cX3_mostWithoutOne 36 = .ok (.istore_n 2, 1) := by decide +kernel
theorem dX3_mostWithoutOne_37 : decode cX3_mostWithoutOne 37 = .ok (.iinc 3 1, 3) := by decide +kernel
theorem dX3_mostWithoutOne_40 : decode cX3_mostWithoutOne 40 = .ok (.goto (-36), 3) := by decide +kernel
theorem dX3_mostWithoutOne_43 : decode cX3_mostWithoutOne 43 = .ok (.iload_n 2, 1) := by decide +kernel
theorem dX3_mostWithoutOne_44 : decode cX3_mostWithoutOne 44 = .ok (.ireturn, 1) := by decide +kernel
theorem dX3_fillTaken_0 : decode cX3_fillTaken 0 = .ok (.iconst 0, 1) := by decide +kernel
theorem dX3_fillTaken_1 : decode cX3_fillTaken 1 = .ok (.istore_n 1, 1) := by decide +kernel
theorem dX3_fillTaken_2 : decode cX3_fillTaken 2 = .ok (.iload_n 1, 1) := by decide +kernel
theorem dX3_fillTaken_3 : decode cX3_fillTaken 3 = .ok (.sipush 4096, 3) := by decide +kernel
theorem dX3_fillTaken_6 : decode cX3_fillTaken 6 = .ok (.if_icmp .ge 17, 3) := by decide +kernel
theorem dX3_fillTaken_9 : decode cX3_fillTaken 9 = .ok (.aload_n 0, 1) := by decide +kernel
theorem dX3_fillTaken_10 : decode cX3_fillTaken 10 = .ok (.getfield 18, 3) := by decide +kernel
theorem dX3_fillTaken_13 : decode cX3_fillTaken 13 = .ok (.iload_n 1, 1) := by decide +kernel
theorem dX3_fillTaken_14 : decode cX3_fillTaken 14 = .ok (.bipush 127, 2) := by decide +kernel
theorem dX3_fillTaken_16 : decode cX3_fillTaken 16 = .ok (.bastore, 1) := by decide +kernel
theorem dX3_fillTaken_17 : decode cX3_fillTaken 17 = .ok (.iinc 1 1, 3) := by decide +kernel
theorem dX3_fillTaken_20 : decode cX3_fillTaken 20 = .ok (.goto (-18), 3) := by decide +kernel
theorem dX3_fillTaken_23 : decode cX3_fillTaken 23 = .ok (.aload_n 0, 1) := by decide +kernel
theorem dX3_fillTaken_24 : decode cX3_fillTaken 24 = .ok (.getfield 32, 3) := by decide +kernel
theorem dX3_fillTaken_27 : decode cX3_fillTaken 27 = .ok (.ifCond .lt 13, 3) := by decide +kernel
theorem dX3_fillTaken_30 : decode cX3_fillTaken 30 = .ok (.aload_n 0, 1) := by decide +kernel
theorem dX3_fillTaken_31 : decode cX3_fillTaken 31 = .ok (.getfield 32, 3) := by decide +kernel
theorem dX3_fillTaken_34 : decode cX3_fillTaken 34 = .ok (.sipush 4096, 3) := by decide +kernel
theorem dX3_fillTaken_37 : decode cX3_fillTaken 37 = .ok (.if_icmp .lt 4, 3) := by decide +kernel
theorem dX3_fillTaken_40 : decode cX3_fillTaken 40 = .ok (.return_, 1) := by decide +kernel
theorem dX3_fillTaken_41 : decode cX3_fillTaken 41 = .ok (.aload_n 0, 1) := by decide +kernel
theorem dX3_fillTaken_42 : decode cX3_fillTaken 42 = .ok (.getfield 18, 3) := by decide +kernel
theorem dX3_fillTaken_45 : decode cX3_fillTaken 45 = .ok (.aload_n 0, 1) := by decide +kernel
theorem dX3_fillTaken_46 : decode cX3_fillTaken 46 = .ok (.getfield 32, 3) := by decide +kernel
theorem dX3_fillTaken_49 : decode cX3_fillTaken 49 = .ok (.iconst 0, 1) := by decide +kernel
theorem dX3_fillTaken_50 : decode cX3_fillTaken 50 = .ok (.bastore, 1) := by decide +kernel
theorem dX3_fillTaken_51 : decode cX3_fillTaken 51 = .ok (.aload_n 0, 1) := by decide +kernel
theorem dX3_fillTaken_52 : decode cX3_fillTaken 52 = .ok (.getfield 32, 3) := by decide +kernel
theorem dX3_fillTaken_55 : decode cX3_fillTaken 55 = .ok (.istore_n 1, 1) := by decide +kernel
theorem dX3_fillTaken_56 : decode cX3_fillTaken 56 = .ok (.iload_n 1, 1) := by decide +kernel
theorem dX3_fillTaken_57 : decode cX3_fillTaken 57 = .ok (.ifCond .le 40, 3) := by decide +kernel
theorem dX3_fillTaken_60 : decode cX3_fillTaken 60 = .ok (.iload_n 1, 1) := by decide +kernel
theorem dX3_fillTaken_61 : decode cX3_fillTaken 61 = .ok (.sipush 4096, 3) := by decide +kernel
theorem dX3_fillTaken_64 : decode cX3_fillTaken 64 = .ok (.if_icmp .ge 33, 3) := by decide +kernel
theorem dX3_fillTaken_67 : decode cX3_fillTaken 67 = .ok (.aload_n 0, 1) := by decide +kernel
theorem dX3_fillTaken_68 : decode cX3_fillTaken 68 = .ok (.getfield 18, 3) := by decide +kernel
theorem dX3_fillTaken_71 : decode cX3_fillTaken 71 = .ok (.iload_n 1, 1) := by decide +kernel
theorem dX3_fillTaken_72 : decode cX3_fillTaken 72 = .ok (.baload, 1) := by decide +kernel
theorem dX3_fillTaken_73 : decode cX3_fillTaken 73 = .ok (.bipush 127, 2) := by decide +kernel
theorem dX3_fillTaken_75 : decode cX3_fillTaken 75 = .ok (.if_icmp .eq 16, 3) := by decide +kernel
theorem dX3_fillTaken_78 : decode cX3_fillTaken 78 = .ok (.aload_n 0, 1) := by decide +kernel
theorem dX3_fillTaken_79 : decode cX3_fillTaken 79 = .ok (.iload_n 1, 1) := by decide +kernel
theorem dX3_fillTaken_80 : decode cX3_fillTaken 80 = .ok (.invokevirtual 87, 3) := by decide +kernel
theorem dX3_fillTaken_83 : decode cX3_fillTaken 83 = .ok (.ifCond .eq 8, 3) := by decide +kernel
theorem dX3_fillTaken_86 : decode cX3_fillTaken 86 = .ok (.aload_n 0, 1) := by decide +kernel
theorem dX3_fillTaken_87 : decode cX3_fillTaken 87 = .ok (.iload_n 1, 1) := by decide +kernel
theorem dX3_fillTaken_88 : decode cX3_fillTaken 88 = .ok (.invokevirtual 91, 3) := by decide +kernel
theorem dX3_fillTaken_91 : decode cX3_fillTaken 91 = .ok (.iinc 1 (-1), 3) := by decide +kernel
theorem dX3_fillTaken_94 : decode cX3_fillTaken 94 = .ok (.goto (-38), 3) := by decide +kernel
theorem dX3_fillTaken_97 : decode cX3_fillTaken 97 = .ok (.return_, 1) := by decide +kernel
theorem dX3_hasLastOfEach_0 : decode cX3_hasLastOfEach 0 = .ok (.iconst 0, 1) := by decide +kernel
theorem dX3_hasLastOfEach_1 : decode cX3_hasLastOfEach 1 = .ok (.istore_n 2, 1) := by decide +kernel
theorem dX3_hasLastOfEach_2 : decode cX3_hasLastOfEach 2 = .ok (.iload_n 2, 1) := by decide +kernel
theorem dX3_hasLastOfEach_3 : decode cX3_hasLastOfEach 3 = .ok (.aload_n 0, 1) := by decide +kernel
theorem dX3_hasLastOfEach_4 : decode cX3_hasLastOfEach 4 = .ok (.getfield 24, 3) := by decide +kernel
theorem dX3_hasLastOfEach_7 : decode cX3_hasLastOfEach 7 = .ok (.invokevirtual 62, 3) := by decide +kernel
theorem dX3_hasLastOfEach_10 : decode cX3_hasLastOfEach 10 = .ok (.if_icmp .ge 67, 3) := by decide +kernel
theorem dX3_hasLastOfEach_13 : decode cX3_hasLastOfEach 13 = .ok (.iload_n 1, 1) := by decide +kernel
theorem dX3_hasLastOfEach_14 : decode cX3_hasLastOfEach 14 = .ok (.iload_n 2, 1) := by decide +kernel
theorem dX3_hasLastOfEach_15 : decode cX3_hasLastOfEach 15 = .ok (.iushr, 1) := by decide +kernel
theorem dX3_hasLastOfEach_16 : decode cX3_hasLastOfEach 16 = .ok (.iconst 1, 1) := by decide +kernel
theorem dX3_hasLastOfEach_17 : decode cX3_hasLastOfEach 17 = .ok (.iand, 1) := by decide +kernel
theorem dX3_hasLastOfEach_18 : decode cX3_hasLastOfEach 18 = .ok (.ifCond .eq 53, 3) := by decide +kernel
theorem dX3_hasLastOfEach_21 : decode cX3_hasLastOfEach 21 = .ok (.iload_n 2, 1) := by decide +kernel
theorem dX3_hasLastOfEach_22 : decode cX3_hasLastOfEach 22 = .ok (.iconst 1, 1) := by decide +kernel
theorem dX3_hasLastOfEach_23 : decode cX3_hasLastOfEach 23 = .ok (.iadd, 1) := by decide +kernel
theorem dX3_hasLastOfEach_24 : decode cX3_hasLastOfEach 24 = .ok (.istore_n 3, 1) := by decide +kernel
theorem dX3_hasLastOfEach_25 : decode cX3_hasLastOfEach 25 = .ok (.iload_n 3, 1) := by decide +kernel
theorem dX3_hasLastOfEach_26 : decode cX3_hasLastOfEach 26 = .ok (.aload_n 0, 1) := by decide +kernel
theorem dX3_hasLastOfEach_27 : decode cX3_hasLastOfEach 27 = .ok (.getfield 24, 3) := by decide +kernel
theorem dX3_hasLastOfEach_30 : decode cX3_hasLastOfEach 30 = .ok (.invokevirtual 62, 3) := by decide +kernel
theorem dX3_hasLastOfEach_33 : decode cX3_hasLastOfEach 33 = .ok (.if_icmp .ge 38, 3) := by decide +kernel
theorem dX3_hasLastOfEach_36 : decode cX3_hasLastOfEach 36 = .ok (.iload_n 1, 1) := by decide +kernel
theorem dX3_hasLastOfEach_37 : decode cX3_hasLastOfEach 37 = .ok (.iload_n 3, 1) := by decide +kernel
theorem dX3_hasLastOfEach_38 : decode cX3_hasLastOfEach 38 = .ok (.iushr, 1) := by decide +kernel
theorem dX3_hasLastOfEach_39 : decode cX3_hasLastOfEach 39 = .ok (.iconst 1, 1) := by decide +kernel
theorem dX3_hasLastOfEach_40 : decode cX3_hasLastOfEach 40 = .ok (.iand, 1) := by decide +kernel
theorem dX3_hasLastOfEach_41 : decode cX3_hasLastOfEach 41 = .ok (.ifCond .ne 24, 3) := by decide +kernel
theorem dX3_hasLastOfEach_44 : decode cX3_hasLastOfEach 44 = .ok (.aload_n 0, 1) := by decide +kernel
theorem dX3_hasLastOfEach_45 : decode cX3_hasLastOfEach 45 = .ok (.getfield 24, 3) := by decide +kernel
theorem dX3_hasLastOfEach_48 : decode cX3_hasLastOfEach 48 = .ok (.iload_n 3, 1) := by decide +kernel
theorem dX3_hasLastOfEach_49 : decode cX3_hasLastOfEach 49 = .ok (.invokevirtual 75, 3) := by decide +kernel
theorem dX3_hasLastOfEach_52 : decode cX3_hasLastOfEach 52 = .ok (.aload_n 0, 1) := by decide +kernel
theorem dX3_hasLastOfEach_53 : decode cX3_hasLastOfEach 53 = .ok (.getfield 24, 3) := by decide +kernel
theorem dX3_hasLastOfEach_56 : decode cX3_hasLastOfEach 56 = .ok (.iload_n 2, 1) := by decide +kernel
theorem dX3_hasLastOfEach_57 : decode cX3_hasLastOfEach 57 = .ok (.invokevirtual 75, 3) := by decide +kernel
theorem dX3_hasLastOfEach_60 : decode cX3_hasLastOfEach 60 = .ok (.if_icmp .ne 5, 3) := by decide +kernel
theorem dX3_hasLastOfEach_63 : decode cX3_hasLastOfEach 63 = .ok (.iconst 0, 1) := by decide +kernel
theorem dX3_hasLastOfEach_64 : decode cX3_hasLastOfEach 64 = .ok (.ireturn, 1) := by decide +kernel
theorem dX3_hasLastOfEach_65 : decode cX3_hasLastOfEach 65 = .ok (.iinc 3 1, 3) := by decide +kernel
theorem dX3_hasLastOfEach_68 : decode cX3_hasLastOfEach 68 = .ok (.goto (-43), 3) := by decide +kernel
theorem dX3_hasLastOfEach_71 : decode cX3_hasLastOfEach 71 = .ok (.iinc 2 1, 3) := by decide +kernel
theorem dX3_hasLastOfEach_74 : decode cX3_hasLastOfEach 74 = .ok (.goto (-72), 3) := by decide +kernel
theorem dX3_hasLastOfEach_77 : decode cX3_hasLastOfEach 77 = .ok (.iconst 1, 1) := by decide +kernel
theorem dX3_hasLastOfEach_78 : decode cX3_hasLastOfEach 78 = .ok (.ireturn, 1) := by decide +kernel
theorem dX3_takeAtoms_0 : decode cX3_takeAtoms 0 = .ok (.iload_n 1, 1) := by decide +kernel
theorem dX3_takeAtoms_1 : decode cX3_takeAtoms 1 = .ok (.iload_n 1, 1) := by decide +kernel
theorem dX3_takeAtoms_2 : decode cX3_takeAtoms 2 = .ok (.ineg, 1) := by decide +kernel
theorem dX3_takeAtoms_3 : decode cX3_takeAtoms 3 = .ok (.iand, 1) := by decide +kernel
theorem dX3_takeAtoms_4 : decode cX3_takeAtoms 4 = .ok (.istore_n 2, 1) := by decide +kernel
theorem dX3_takeAtoms_5 : decode cX3_takeAtoms 5 = .ok (.iload_n 1, 1) := by decide +kernel
theorem dX3_takeAtoms_6 : decode cX3_takeAtoms 6 = .ok (.iload_n 2, 1) := by decide +kernel
theorem dX3_takeAtoms_7 : decode cX3_takeAtoms 7 = .ok (.ixor, 1) := by decide +kernel
theorem dX3_takeAtoms_8 : decode cX3_takeAtoms 8 = .ok (.istore_n 3, 1) := by decide +kernel
theorem dX3_takeAtoms_9 : decode cX3_takeAtoms 9 = .ok (.iconst 0, 1) := by decide +kernel
theorem dX3_takeAtoms_10 : decode cX3_takeAtoms 10 = .ok (.istore 4, 2) := by decide +kernel
theorem dX3_takeAtoms_12 : decode cX3_takeAtoms 12 = .ok (.iconst 0, 1) := by decide +kernel
theorem dX3_takeAtoms_13 : decode cX3_takeAtoms 13 = .ok (.istore 5, 2) := by decide +kernel
theorem dX3_takeAtoms_15 : decode cX3_takeAtoms 15 = .ok (.iload 5, 2) := by decide +kernel
theorem dX3_takeAtoms_17 : decode cX3_takeAtoms 17 = .ok (.sipush 4096, 3) := by decide +kernel
theorem dX3_takeAtoms_20 : decode cX3_takeAtoms 20 = .ok (.if_icmp .ge 87, 3) := by decide +kernel
theorem dX3_takeAtoms_23 : decode cX3_takeAtoms 23 = .ok (.iload_n 1, 1) := by decide +kernel
theorem dX3_takeAtoms_24 : decode cX3_takeAtoms 24 = .ok (.iload 4, 2) := by decide +kernel
theorem dX3_takeAtoms_26 : decode cX3_takeAtoms 26 = .ok (.iload_n 2, 1) := by decide +kernel
theorem dX3_takeAtoms_27 : decode cX3_takeAtoms 27 = .ok (.ior, 1) := by decide +kernel
theorem dX3_takeAtoms_28 : decode cX3_takeAtoms 28 = .ok (.ixor, 1) := by decide +kernel
theorem dX3_takeAtoms_29 : decode cX3_takeAtoms 29 = .ok (.istore 6, 2) := by decide +kernel
theorem dX3_takeAtoms_31 : decode cX3_takeAtoms 31 = .ok (.aload_n 0, 1) := by decide +kernel
theorem dX3_takeAtoms_32 : decode cX3_takeAtoms 32 = .ok (.iload 4, 2) := by decide +kernel
theorem dX3_takeAtoms_34 : decode cX3_takeAtoms 34 = .ok (.iload_n 2, 1) := by decide +kernel
theorem dX3_takeAtoms_35 : decode cX3_takeAtoms 35 = .ok (.ior, 1) := by decide +kernel
theorem dX3_takeAtoms_36 : decode cX3_takeAtoms 36 = .ok (.invokevirtual 95, 3) := by decide +kernel
theorem dX3_takeAtoms_39 : decode cX3_takeAtoms 39 = .ok (.ifCond .eq 47, 3) := by decide +kernel
theorem dX3_takeAtoms_42 : decode cX3_takeAtoms 42 = .ok (.iload 6, 2) := by decide +kernel
theorem dX3_takeAtoms_44 : decode cX3_takeAtoms 44 = .ok (.ifCond .lt 42, 3) := by decide +kernel
theorem dX3_takeAtoms_47 : decode cX3_takeAtoms 47 = .ok (.iload 6, 2) := by decide +kernel
theorem dX3_takeAtoms_49 : decode cX3_takeAtoms 49 = .ok (.iload_n 1, 1) := by decide +kernel
theorem dX3_takeAtoms_50 : decode cX3_takeAtoms 50 = .ok (.if_icmp .ge 36, 3) := by decide +kernel
theorem dX3_takeAtoms_53 : decode cX3_takeAtoms 53 = .ok (.iload_n 1, 1) := by decide +kernel
theorem dX3_takeAtoms_54 : decode cX3_takeAtoms 54 = .ok (.sipush 4096, 3) := by decide +kernel
theorem dX3_takeAtoms_57 : decode cX3_takeAtoms 57 = .ok (.if_icmp .ge 29, 3) := by decide +kernel
theorem dX3_takeAtoms_60 : decode cX3_takeAtoms 60 = .ok (.aload_n 0, 1) := by decide +kernel
theorem dX3_takeAtoms_61 : decode cX3_takeAtoms 61 = .ok (.getfield 18, 3) := by decide +kernel
theorem dX3_takeAtoms_64 : decode cX3_takeAtoms 64 = .ok (.iload 6, 2) := by decide +kernel
theorem dX3_takeAtoms_66 : decode cX3_takeAtoms 66 = .ok (.aload_n 0, 1) := by decide +kernel
theorem dX3_takeAtoms_67 : decode cX3_takeAtoms 67 = .ok (.getfield 18, 3) := by decide +kernel
theorem dX3_takeAtoms_70 : decode cX3_takeAtoms 70 = .ok (.iload 6, 2) := by decide +kernel
theorem dX3_takeAtoms_72 : decode cX3_takeAtoms 72 = .ok (.baload, 1) := by decide +kernel
theorem dX3_takeAtoms_73 : decode cX3_takeAtoms 73 = .ok (.aload_n 0, 1) := by decide +kernel
theorem dX3_takeAtoms_74 : decode cX3_takeAtoms 74 = .ok (.getfield 18, 3) := by decide +kernel
theorem dX3_takeAtoms_77 : decode cX3_takeAtoms 77 = .ok (.iload_n 1, 1) := by decide +kernel
theorem dX3_takeAtoms_78 : decode cX3_takeAtoms 78 = .ok (.baload, 1) := by decide +kernel
theorem dX3_takeAtoms_79 : decode cX3_takeAtoms 79 = .ok (.iconst 1, 1) := by decide +kernel
theorem dX3_takeAtoms_80 : decode cX3_takeAtoms 80 = .ok (.iadd, 1) := by decide +kernel
theorem dX3_takeAtoms_81 : decode cX3_takeAtoms 81 = .ok (.invokestatic 56, 3) := by decide +kernel
theorem dX3_takeAtoms_84 : decode cX3_takeAtoms 84 = .ok (.i2b, 1) := by decide +kernel
theorem dX3_takeAtoms_85 : decode cX3_takeAtoms 85 = .ok (.bastore, 1) := by decide +kernel
theorem dX3_takeAtoms_86 : decode cX3_takeAtoms 86 = .ok (.iload 4, 2) := by decide +kernel
theorem dX3_takeAtoms_88 : decode cX3_takeAtoms 88 = .ok (.iload_n 3, 1) := by decide +kernel
theorem dX3_takeAtoms_89 : decode cX3_takeAtoms 89 = .ok (.if_icmp .ne 4, 3) := by decide +kernel
theorem dX3_takeAtoms_92 : decode cX3_takeAtoms 92 = .ok (.return_, 1) := by decide +kernel
theorem dX3_takeAtoms_93 : decode cX3_takeAtoms 93 = .ok (.iload 4, 2) := by decide +kernel
theorem dX3_takeAtoms_95 : decode cX3_takeAtoms 95 = .ok (.iload_n 3, 1) := by decide +kernel
theorem dX3_takeAtoms_96 : decode cX3_takeAtoms 96 = .ok (.invokestatic 98, 3) := by decide +kernel
theorem dX3_takeAtoms_99 : decode cX3_takeAtoms 99 = .ok (.istore 4, 2) := by decide +kernel
theorem dX3_takeAtoms_101 : decode cX3_takeAtoms 101 = .ok (.iinc 5 1, 3) := by decide +kernel
theorem dX3_takeAtoms_104 : decode cX3_takeAtoms 104 = .ok (.goto (-89), 3) := by decide +kernel
theorem dX3_takeAtoms_107 : decode cX3_takeAtoms 107 = .ok (.return_, 1) := by decide +kernel
theorem dX3_nextSet_0 : decode cX3_nextSet 0 = .ok (.iload_n 0, 1) := by decide +kernel
theorem dX3_nextSet_1 : decode cX3_nextSet 1 = .ok (.iload_n 1, 1) := by decide +kernel
theorem dX3_nextSet_2 : decode cX3_nextSet 2 = .ok (.isub, 1) := by decide +kernel
theorem dX3_nextSet_3 : decode cX3_nextSet 3 = .ok (.iload_n 1, 1) := by decide +kernel
theorem dX3_nextSet_4 : decode cX3_nextSet 4 = .ok (.iand, 1) := by decide +kernel
theorem dX3_nextSet_5 : decode cX3_nextSet 5 = .ok (.ireturn, 1) := by decide +kernel
theorem dX3_atomOfMost_0 : decode cX3_atomOfMost 0 = .ok (.aload_n 0, 1) := by decide +kernel
theorem dX3_atomOfMost_1 : decode cX3_atomOfMost 1 = .ok (.getfield 32, 3) := by decide +kernel
theorem dX3_atomOfMost_4 : decode cX3_atomOfMost 4 = .ok (.istore_n 2, 1) := by decide +kernel
theorem dX3_atomOfMost_5 : decode cX3_atomOfMost 5 = .ok (.iconst (-1), 1) := by decide +kernel
theorem dX3_atomOfMost_6 : decode cX3_atomOfMost 6 = .ok (.istore_n 3, 1) := by decide +kernel
theorem dX3_atomOfMost_7 : decode cX3_atomOfMost 7 = .ok (.iconst 0, 1) := by decide +kernel
theorem dX3_atomOfMost_8 : decode cX3_atomOfMost 8 = .ok (.istore 4, 2) := by decide +kernel
theorem dX3_atomOfMost_10 : decode cX3_atomOfMost 10 = .ok (.iload 4, 2) := by decide +kernel
theorem dX3_atomOfMost_12 : decode cX3_atomOfMost 12 = .ok (.iload_n 1, 1) := by decide +kernel
theorem dX3_atomOfMost_13 : decode cX3_atomOfMost 13 = .ok (.if_icmp .gt 23, 3) := by decide +kernel
theorem dX3_atomOfMost_16 : decode cX3_atomOfMost 16 = .ok (.iload_n 2, 1) := by decide +kernel
theorem dX3_atomOfMost_17 : decode cX3_atomOfMost 17 = .ok (.ifCond .le 19, 3) := by decide +kernel
theorem dX3_atomOfMost_20 : decode cX3_atomOfMost 20 = .ok (.aload_n 0, 1) := by decide +kernel
theorem dX3_atomOfMost_21 : decode cX3_atomOfMost 21 = .ok (.iload_n 2, 1) := by decide +kernel
theorem dX3_atomOfMost_22 : decode cX3_atomOfMost 22 = .ok (.invokevirtual 101, 3) := by decide +kernel
theorem dX3_atomOfMost_25 : decode cX3_atomOfMost 25 = .ok (.istore_n 3, 1) := by decide +kernel
theorem dX3_atomOfMost_26 : decode cX3_atomOfMost 26 = .ok (.iload_n 2, 1) := by decide +kernel
theorem dX3_atomOfMost_27 : decode cX3_atomOfMost 27 = .ok (.iload_n 3, 1) := by decide +kernel
theorem dX3_atomOfMost_28 : decode cX3_atomOfMost 28 = .ok (.ixor, 1) := by decide +kernel
theorem dX3_atomOfMost_29 : decode cX3_atomOfMost 29 = .ok (.istore_n 2, 1) := by decide +kernel
theorem dX3_atomOfMost_30 : decode cX3_atomOfMost 30 = .ok (.iinc 4 1, 3) := by decide +kernel
theorem dX3_atomOfMost_33 : decode cX3_atomOfMost 33 = .ok (.goto (-23), 3) := by decide +kernel
theorem dX3_atomOfMost_36 : decode cX3_atomOfMost 36 = .ok (.iload_n 3, 1) := by decide +kernel
theorem dX3_atomOfMost_37 : decode cX3_atomOfMost 37 = .ok (.ireturn, 1) := by decide +kernel
theorem dX3_leastAtomOfMost_0 : decode cX3_leastAtomOfMost 0 = .ok (.iload_n 1, 1) := by decide +kernel
theorem dX3_leastAtomOfMost_1 : decode cX3_leastAtomOfMost 1 = .ok (.iload_n 1, 1) := by decide +kernel
theorem dX3_leastAtomOfMost_2 : decode cX3_leastAtomOfMost 2 = .ok (.ineg, 1) := by decide +kernel
theorem dX3_leastAtomOfMost_3 : decode cX3_leastAtomOfMost 3 = .ok (.iand, 1) := by decide +kernel
theorem dX3_leastAtomOfMost_4 : decode cX3_leastAtomOfMost 4 = .ok (.istore_n 2, 1) := by decide +kernel
theorem dX3_leastAtomOfMost_5 : decode cX3_leastAtomOfMost 5 = .ok (.iload_n 1, 1) := by decide +kernel
theorem dX3_leastAtomOfMost_6 : decode cX3_leastAtomOfMost 6 = .ok (.iload_n 2, 1) := by decide +kernel
theorem dX3_leastAtomOfMost_7 : decode cX3_leastAtomOfMost 7 = .ok (.ixor, 1) := by decide +kernel
theorem dX3_leastAtomOfMost_8 : decode cX3_leastAtomOfMost 8 = .ok (.istore_n 3, 1) := by decide +kernel
theorem dX3_leastAtomOfMost_9 : decode cX3_leastAtomOfMost 9 = .ok (.iconst 0, 1) := by decide +kernel
theorem dX3_leastAtomOfMost_10 : decode cX3_leastAtomOfMost 10 = .ok (.istore 4, 2) := by decide +kernel
theorem dX3_leastAtomOfMost_12 : decode cX3_leastAtomOfMost 12 = .ok (.iconst 0, 1) := by decide +kernel
theorem dX3_leastAtomOfMost_13 : decode cX3_leastAtomOfMost 13 = .ok (.istore 5, 2) := by decide +kernel
theorem dX3_leastAtomOfMost_15 : decode cX3_leastAtomOfMost 15 = .ok (.iload 5, 2) := by decide +kernel
theorem dX3_leastAtomOfMost_17 : decode cX3_leastAtomOfMost 17 = .ok (.sipush 4096, 3) := by decide +kernel
theorem dX3_leastAtomOfMost_20 : decode cX3_leastAtomOfMost 20 = .ok (.if_icmp .ge 61, 3) := by decide +kernel
theorem dX3_leastAtomOfMost_23 : decode cX3_leastAtomOfMost 23 = .ok (.iload 4, 2) := by decide +kernel
theorem dX3_leastAtomOfMost_25 : decode cX3_leastAtomOfMost 25 = .ok (.iload_n 2, 1) := by decide +kernel
theorem dX3_leastAtomOfMost_26 : decode cX3_leastAtomOfMost 26 = .ok (.ior, 1) := by decide +kernel
theorem dX3_leastAtomOfMost_27 : decode cX3_leastAtomOfMost 27 = .ok (.istore 6, 2) := by decide +kernel
theorem dX3_leastAtomOfMost_29 : decode cX3_leastAtomOfMost 29 = .ok (.aload_n 0, 1) := by decide +kernel
theorem dX3_leastAtomOfMost_30 : decode cX3_leastAtomOfMost 30 = .ok (.iload 6, 2) := by decide +kernel
theorem dX3_leastAtomOfMost_32 : decode cX3_leastAtomOfMost 32 = .ok (.invokevirtual 72, 3) := by decide +kernel
theorem dX3_leastAtomOfMost_35 : decode cX3_leastAtomOfMost 35 = .ok (.ifCond .ne 24, 3) := by decide +kernel
theorem dX3_leastAtomOfMost_38 : decode cX3_leastAtomOfMost 38 = .ok (.aload_n 0, 1) := by decide +kernel
theorem dX3_leastAtomOfMost_39 : decode cX3_leastAtomOfMost 39 = .ok (.iload_n 1, 1) := by decide +kernel
theorem dX3_leastAtomOfMost_40 : decode cX3_leastAtomOfMost 40 = .ok (.iload 6, 2) := by decide +kernel
theorem dX3_leastAtomOfMost_42 : decode cX3_leastAtomOfMost 42 = .ok (.ixor, 1) := by decide +kernel
theorem dX3_leastAtomOfMost_43 : decode cX3_leastAtomOfMost 43 = .ok (.invokevirtual 35, 3) := by decide +kernel
theorem dX3_leastAtomOfMost_46 : decode cX3_leastAtomOfMost 46 = .ok (.iconst 1, 1) := by decide +kernel
theorem dX3_leastAtomOfMost_47 : decode cX3_leastAtomOfMost 47 = .ok (.iadd, 1) := by decide +kernel
theorem dX3_leastAtomOfMost_48 : decode cX3_leastAtomOfMost 48 = .ok (.aload_n 0, 1) := by decide +kernel
theorem dX3_leastAtomOfMost_49 : decode cX3_leastAtomOfMost 49 = .ok (.iload_n 1, 1) := by decide +kernel
theorem dX3_leastAtomOfMost_50 : decode cX3_leastAtomOfMost 50 = .ok (.invokevirtual 35, 3) := by decide +kernel
theorem dX3_leastAtomOfMost_53 : decode cX3_leastAtomOfMost 53 = .ok (.if_icmp .ne 6, 3) := by decide +kernel
theorem dX3_leastAtomOfMost_56 : decode cX3_leastAtomOfMost 56 = .ok (.iload 6, 2) := by decide +kernel
theorem dX3_leastAtomOfMost_58 : decode cX3_leastAtomOfMost 58 = .ok (.ireturn, 1) := by decide +kernel
theorem dX3_leastAtomOfMost_59 : decode cX3_leastAtomOfMost 59 = .ok (.iload 4, 2) := by decide +kernel
theorem dX3_leastAtomOfMost_61 : decode cX3_leastAtomOfMost 61 = .ok (.iload_n 3, 1) := by decide +kernel
theorem dX3_leastAtomOfMost_62 : decode cX3_leastAtomOfMost 62 = .ok (.if_icmp .ne 5, 3) := by decide +kernel
theorem dX3_leastAtomOfMost_65 : decode cX3_leastAtomOfMost 65 = .ok (.iload_n 1, 1) := by decide +kernel
theorem dX3_leastAtomOfMost_66 : decode cX3_leastAtomOfMost 66 = .ok (.ireturn, 1) := by decide +kernel
theorem dX3_leastAtomOfMost_67 : decode cX3_leastAtomOfMost 67 = .ok (.iload 4, 2) := by decide +kernel
theorem dX3_leastAtomOfMost_69 : decode cX3_leastAtomOfMost 69 = .ok (.iload_n 3, 1) := by decide +kernel
theorem dX3_leastAtomOfMost_70 : decode cX3_leastAtomOfMost 70 = .ok (.invokestatic 98, 3) := by decide +kernel
theorem dX3_leastAtomOfMost_73 : decode cX3_leastAtomOfMost 73 = .ok (.istore 4, 2) := by decide +kernel
theorem dX3_leastAtomOfMost_75 : decode cX3_leastAtomOfMost 75 = .ok (.iinc 5 1, 3) := by decide +kernel
theorem dX3_leastAtomOfMost_78 : decode cX3_leastAtomOfMost 78 = .ok (.goto (-63), 3) := by decide +kernel
theorem dX3_leastAtomOfMost_81 : decode cX3_leastAtomOfMost 81 = .ok (.iload_n 1, 1) := by decide +kernel
theorem dX3_leastAtomOfMost_82 : decode cX3_leastAtomOfMost 82 = .ok (.ireturn, 1) := by decide +kernel
theorem dX4_init_0 : decode cX4_init 0 = .ok (.aload_n 0, 1) := by decide +kernel
theorem dX4_init_1 : decode cX4_init 1 = .ok (.invokespecial 3, 3) := by decide +kernel
theorem dX4_init_4 : decode cX4_init 4 = .ok (.aload_n 0, 1) := by decide +kernel
theorem dX4_init_5 : decode cX4_init 5 = .ok (.bipush 8, 2) := by decide +kernel
theorem dX4_init_7 : decode cX4_init 7 = .ok (.anewarray 9, 3) := by decide +kernel
theorem dX4_init_10 : decode cX4_init 10 = .ok (.putfield 11, 3) := by decide +kernel
theorem dX4_init_13 : decode cX4_init 13 = .ok (.aload_n 0, 1) := by decide +kernel
theorem dX4_init_14 : decode cX4_init 14 = .ok (.iconst 0, 1) := by decide +kernel
theorem dX4_init_15 : decode cX4_init 15 = .ok (.putfield 17, 3) := by decide +kernel
theorem dX4_init_18 : decode cX4_init 18 = .ok (.aload_n 0, 1) := by decide +kernel
theorem dX4_init_19 : decode cX4_init 19 = .ok (.iconst 0, 1) := by decide +kernel
theorem dX4_init_20 : decode cX4_init 20 = .ok (.putfield 21, 3) := by decide +kernel
theorem dX4_init_23 : decode cX4_init 23 = .ok (.iconst 0, 1) := by decide +kernel
theorem dX4_init_24 : decode cX4_init 24 = .ok (.istore_n 1, 1) := by decide +kernel
theorem dX4_init_25 : decode cX4_init 25 = .ok (.iload_n 1, 1) := by decide +kernel
theorem dX4_init_26 : decode cX4_init 26 = .ok (.aload_n 0, 1) := by decide +kernel
theorem dX4_init_27 : decode cX4_init 27 = .ok (.getfield 11, 3) := by decide +kernel
theorem dX4_init_30 : decode cX4_init 30 = .ok (.arraylength, 1) := by decide +kernel
theorem dX4_init_31 : decode cX4_init 31 = .ok (.if_icmp .ge 22, 3) := by decide +kernel
theorem dX4_init_34 : decode cX4_init 34 = .ok (.aload_n 0, 1) := by decide +kernel
theorem dX4_init_35 : decode cX4_init 35 = .ok (.getfield 11, 3) := by decide +kernel
theorem dX4_init_38 : decode cX4_init 38 = .ok (.iload_n 1, 1) := by decide +kernel
theorem dX4_init_39 : decode cX4_init 39 = .ok (.new 9, 3) := by decide +kernel
theorem dX4_init_42 : decode cX4_init 42 = .ok (.dup, 1) := by decide +kernel
theorem dX4_init_43 : decode cX4_init 43 = .ok (.invokespecial 24, 3) := by decide +kernel
theorem dX4_init_46 : decode cX4_init 46 = .ok (.aastore, 1) := by decide +kernel
theorem dX4_init_47 : decode cX4_init 47 = .ok (.iinc 1 1, 3) := by decide +kernel
theorem dX4_init_50 : decode cX4_init 50 = .ok (.goto (-25), 3) := by decide +kernel
theorem dX4_init_53 : decode cX4_init 53 = .ok (.return_, 1) := by decide +kernel
theorem dX4_length_0 : decode cX4_length 0 = .ok (.aload_n 0, 1) := by decide +kernel
theorem dX4_length_1 : decode cX4_length 1 = .ok (.getfield 21, 3) := by decide +kernel
theorem dX4_length_4 : decode cX4_length 4 = .ok (.ireturn, 1) := by decide +kernel
theorem dX4_forget_0 : decode cX4_forget 0 = .ok (.aload_n 0, 1) := by decide +kernel
theorem dX4_forget_1 : decode cX4_forget 1 = .ok (.iconst 0, 1) := by decide +kernel
theorem dX4_forget_2 : decode cX4_forget 2 = .ok (.putfield 21, 3) := by decide +kernel
theorem dX4_forget_5 : decode cX4_forget 5 = .ok (.return_, 1) := by decide +kernel
theorem dX4_keep_0 : decode cX4_keep 0 = .ok (.aload_n 0, 1) := by decide +kernel
theorem dX4_keep_1 : decode cX4_keep 1 = .ok (.aload_n 0, 1) := by decide +kernel
theorem dX4_keep_2 : decode cX4_keep 2 = .ok (.getfield 17, 3) := by decide +kernel
theorem dX4_keep_5 : decode cX4_keep 5 = .ok (.invokevirtual 25, 3) := by decide +kernel
theorem dX4_keep_8 : decode cX4_keep 8 = .ok (.astore_n 2, 1) := by decide +kernel
theorem dX4_keep_9 : decode cX4_keep 9 = .ok (.aload_n 2, 1) := by decide +kernel
theorem dX4_keep_10 : decode cX4_keep 10 = .ok (.ifnonnull 4, 3) := by decide +kernel
theorem dX4_keep_13 : decode cX4_keep 13 = .ok (.return_, 1) := by decide +kernel
theorem dX4_keep_14 : decode cX4_keep 14 = .ok (.aload_n 2, 1) := by decide +kernel
theorem dX4_keep_15 : decode cX4_keep 15 = .ok (.aload_n 1, 1) := by decide +kernel
theorem dX4_keep_16 : decode cX4_keep 16 = .ok (.invokevirtual 29, 3) := by decide +kernel
theorem dX4_keep_19 : decode cX4_keep 19 = .ok (.aload_n 0, 1) := by decide +kernel
theorem dX4_keep_20 : decode cX4_keep 20 = .ok (.aload_n 0, 1) := by decide +kernel
theorem dX4_keep_21 : decode cX4_keep 21 = .ok (.getfield 17, 3) := by decide +kernel
theorem dX4_keep_24 : decode cX4_keep 24 = .ok (.iconst 1, 1) := by decide +kernel
theorem dX4_keep_25 : decode cX4_keep 25 = .ok (.iadd, 1) := by decide +kernel
theorem dX4_keep_26 : decode cX4_keep 26 = .ok (.bipush 8, 2) := by decide +kernel
theorem dX4_keep_28 : decode cX4_keep 28 = .ok (.if_icmp .ge 12, 3) := by decide +kernel
theorem dX4_keep_31 : decode cX4_keep 31 = .ok (.aload_n 0, 1) := by decide +kernel
theorem dX4_keep_32 : decode cX4_keep 32 = .ok (.getfield 17, 3) := by decide +kernel
theorem dX4_keep_35 : decode cX4_keep 35 = .ok (.iconst 1, 1) := by decide +kernel
theorem dX4_keep_36 : decode cX4_keep 36 = .ok (.iadd, 1) := by decide +kernel
theorem dX4_keep_37 : decode cX4_keep 37 = .ok (.goto 4, 3) := by decide +kernel
theorem dX4_keep_40 : decode cX4_keep 40 = .ok (.iconst 0, 1) := by decide +kernel
theorem dX4_keep_41 : decode cX4_keep 41 = .ok (.putfield 17, 3) := by decide +kernel
theorem dX4_keep_44 : decode cX4_keep 44 = .ok (.aload_n 0, 1) := by decide +kernel
theorem dX4_keep_45 : decode cX4_keep 45 = .ok (.aload_n 0, 1) := by decide +kernel
theorem dX4_keep_46 : decode cX4_keep 46 = .ok (.getfield 21, 3) := by decide +kernel
theorem dX4_keep_49 : decode cX4_keep 49 = .ok (.iconst 1, 1) := by decide +kernel
theorem dX4_keep_50 : decode cX4_keep 50 = .ok (.iadd, 1) := by decide +kernel
theorem dX4_keep_51 : decode cX4_keep 51 = .ok (.bipush 8, 2) := by decide +kernel
theorem dX4_keep_53 : decode cX4_keep 53 = .ok (.invokestatic 33, 3) := by decide +kernel
theorem dX4_keep_56 : decode cX4_keep 56 = .ok (.putfield 21, 3) := by decide +kernel
theorem dX4_keep_59 : decode cX4_keep 59 = .ok (.return_, 1) := by decide +kernel
theorem dX4_takeBack_0 : decode cX4_takeBack 0 = .ok (.aload_n 0, 1) := by decide +kernel
theorem dX4_takeBack_1 : decode cX4_takeBack 1 = .ok (.getfield 17, 3) := by decide +kernel
theorem dX4_takeBack_4 : decode cX4_takeBack 4 = .ok (.ifCond .le 12, 3) := by decide +kernel
theorem dX4_takeBack_7 : decode cX4_takeBack 7 = .ok (.aload_n 0, 1) := by decide +kernel
theorem dX4_takeBack_8 : decode cX4_takeBack 8 = .ok (.getfield 17, 3) := by decide +kernel
theorem dX4_takeBack_11 : decode cX4_takeBack 11 = .ok (.iconst 1, 1) := by decide +kernel
theorem dX4_takeBack_12 : decode cX4_takeBack 12 = .ok (.isub, 1) := by decide +kernel
theorem dX4_takeBack_13 : decode cX4_takeBack 13 = .ok (.goto 5, 3) := by decide +kernel
theorem dX4_takeBack_16 : decode cX4_takeBack 16 = .ok (.bipush 7, 2) := by decide +kernel
theorem dX4_takeBack_18 : decode cX4_takeBack 18 = .ok (.istore_n 2, 1) := by decide +kernel
theorem dX4_takeBack_19 : decode cX4_takeBack 19 = .ok (.aload_n 0, 1) := by decide +kernel
theorem dX4_takeBack_20 : decode cX4_takeBack 20 = .ok (.iload_n 2, 1) := by decide +kernel
theorem dX4_takeBack_21 : decode cX4_takeBack 21 = .ok (.invokevirtual 25, 3) := by decide +kernel
theorem dX4_takeBack_24 : decode cX4_takeBack 24 = .ok (.astore_n 3, 1) := by decide +kernel
theorem dX4_takeBack_25 : decode cX4_takeBack 25 = .ok (.aload_n 0, 1) := by decide +kernel
theorem dX4_takeBack_26 : decode cX4_takeBack 26 = .ok (.getfield 21, 3) := by decide +kernel
theorem dX4_takeBack_29 : decode cX4_takeBack 29 = .ok (.iconst 1, 1) := by decide +kernel
theorem dX4_takeBack_30 : decode cX4_takeBack 30 = .ok (.if_icmp .lt 7, 3) := by decide +kernel
theorem dX4_takeBack_33 : decode cX4_takeBack 33 = .ok (.aload_n 3, 1) := by decide +kernel
theorem dX4_takeBack_34 : decode cX4_takeBack 34 = .ok (.ifnonnull 4, 3) := by decide +kernel
theorem dX4_takeBack_37 : decode cX4_takeBack 37 = .ok (.return_, 1) := by decide +kernel
theorem dX4_takeBack_38 : decode cX4_takeBack 38 = .ok (.aload_n 1, 1) := by decide +kernel
theorem dX4_takeBack_39 : decode cX4_takeBack 39 = .ok (.aload_n 3, 1) := by decide +kernel
theorem dX4_takeBack_40 : decode cX4_takeBack 40 = .ok (.invokevirtual 29, 3) := by decide +kernel
theorem dX4_takeBack_43 : decode cX4_takeBack 43 = .ok (.aload_n 0, 1) := by decide +kernel
theorem dX4_takeBack_44 : decode cX4_takeBack 44 = .ok (.iload_n 2, 1) := by decide +kernel
theorem dX4_takeBack_45 : decode cX4_takeBack 45 = .ok (.putfield 17, 3) := by decide +kernel
theorem dX4_takeBack_48 : decode cX4_takeBack 48 = .ok (.aload_n 0, 1) := by decide +kernel
theorem dX4_takeBack_49 : decode cX4_takeBack 49 = .ok (.dup, 1) := by decide +kernel
theorem dX4_takeBack_50 : decode cX4_takeBack 50 = .ok (.getfield 21, 3) := by decide +kernel
theorem dX4_takeBack_53 : decode cX4_takeBack 53 = .ok (.iconst 1, 1) := by decide +kernel
theorem dX4_takeBack_54 : decode cX4_takeBack 54 = .ok (.isub, 1) := by decide +kernel
theorem dX4_takeBack_55 : decode cX4_takeBack 55 = .ok (.putfield 21, 3) := by decide +kernel
theorem dX4_takeBack_58 : decode cX4_takeBack 58 = .ok (.return_, 1) := by decide +kernel
theorem dX4_rowAt_0 : decode cX4_rowAt 0 = .ok (.iload_n 1, 1) := by decide +kernel
theorem dX4_rowAt_1 : decode cX4_rowAt 1 = .ok (.ifCond .lt 21, 3) := by decide +kernel
theorem dX4_rowAt_4 : decode cX4_rowAt 4 = .ok (.iload_n 1, 1) := by decide +kernel
theorem dX4_rowAt_5 : decode cX4_rowAt 5 = .ok (.aload_n 0, 1) := by decide +kernel
theorem dX4_rowAt_6 : decode cX4_rowAt 6 = .ok (.getfield 11, 3) := by decide +kernel
theorem dX4_rowAt_9 : decode cX4_rowAt 9 = .ok (.arraylength, 1) := by decide +kernel
theorem dX4_rowAt_10 : decode cX4_rowAt 10 = .ok (.if_icmp .ge 12, 3) := by decide +kernel
theorem dX4_rowAt_13 : decode cX4_rowAt 13 = .ok (.aload_n 0, 1) := by decide +kernel
theorem dX4_rowAt_14 : decode cX4_rowAt 14 = .ok (.getfield 11, 3) := by decide +kernel
theorem dX4_rowAt_17 : decode cX4_rowAt 17 = .ok (.iload_n 1, 1) := by decide +kernel
theorem dX4_rowAt_18 : decode cX4_rowAt 18 = .ok (.aaload, 1) := by decide +kernel
theorem dX4_rowAt_19 : decode cX4_rowAt 19 = .ok (.goto 4, 3) := by decide +kernel
theorem dX4_rowAt_22 : decode cX4_rowAt 22 = .ok (.aconst_null, 1) := by decide +kernel
theorem dX4_rowAt_23 : decode cX4_rowAt 23 = .ok (.areturn, 1) := by decide +kernel
theorem dX5_init_0 : decode cX5_init 0 = .ok (.aload_n 0, 1) := by decide +kernel
theorem dX5_init_1 : decode cX5_init 1 = .ok (.invokespecial 3, 3) := by decide +kernel
theorem dX5_init_4 : decode cX5_init 4 = .ok (.aload_n 0, 1) := by decide +kernel
theorem dX5_init_5 : decode cX5_init 5 = .ok (.new 9, 3) := by decide +kernel
theorem dX5_init_8 : decode cX5_init 8 = .ok (.dup, 1) := by decide +kernel
theorem dX5_init_9 : decode cX5_init 9 = .ok (.invokespecial 11, 3) := by decide +kernel
theorem dX5_init_12 : decode cX5_init 12 = .ok (.putfield 12, 3) := by decide +kernel
theorem dX5_init_15 : decode cX5_init 15 = .ok (.aload_n 0, 1) := by decide +kernel
theorem dX5_init_16 : decode cX5_init 16 = .ok (.iconst 0, 1) := by decide +kernel
theorem dX5_init_17 : decode cX5_init 17 = .ok (.putfield 18, 3) := by decide +kernel
theorem dX5_init_20 : decode cX5_init 20 = .ok (.aload_n 0, 1) := by decide +kernel
theorem dX5_init_21 : decode cX5_init 21 = .ok (.iconst 0, 1) := by decide +kernel
theorem dX5_init_22 : decode cX5_init 22 = .ok (.putfield 22, 3) := by decide +kernel
theorem dX5_init_25 : decode cX5_init 25 = .ok (.aload_n 0, 1) := by decide +kernel
theorem dX5_init_26 : decode cX5_init 26 = .ok (.iconst 0, 1) := by decide +kernel
theorem dX5_init_27 : decode cX5_init 27 = .ok (.putfield 25, 3) := by decide +kernel
theorem dX5_init_30 : decode cX5_init 30 = .ok (.aload_n 0, 1) := by decide +kernel
theorem dX5_init_31 : decode cX5_init 31 = .ok (.iconst 0, 1) := by decide +kernel
theorem dX5_init_32 : decode cX5_init 32 = .ok (.putfield 28, 3) := by decide +kernel
theorem dX5_init_35 : decode cX5_init 35 = .ok (.aload_n 0, 1) := by decide +kernel
theorem dX5_init_36 : decode cX5_init 36 = .ok (.iconst 0, 1) := by decide +kernel
theorem dX5_init_37 : decode cX5_init 37 = .ok (.putfield 31, 3) := by decide +kernel
theorem dX5_init_40 : decode cX5_init 40 = .ok (.aload_n 0, 1) := by decide +kernel
theorem dX5_init_41 : decode cX5_init 41 = .ok (.iconst 0, 1) := by decide +kernel
theorem dX5_init_42 : decode cX5_init 42 = .ok (.putfield 34, 3) := by decide +kernel
theorem dX5_init_45 : decode cX5_init 45 = .ok (.aload_n 0, 1) := by decide +kernel
theorem dX5_init_46 : decode cX5_init 46 = .ok (.iconst 0, 1) := by decide +kernel
theorem dX5_init_47 : decode cX5_init 47 = .ok (.putfield 37, 3) := by decide +kernel
theorem dX5_init_50 : decode cX5_init 50 = .ok (.aload_n 0, 1) := by decide +kernel
theorem dX5_init_51 : decode cX5_init 51 = .ok (.iconst 0, 1) := by decide +kernel
theorem dX5_init_52 : decode cX5_init 52 = .ok (.putfield 40, 3) := by decide +kernel
theorem dX5_init_55 : decode cX5_init 55 = .ok (.aload_n 0, 1) := by decide +kernel
theorem dX5_init_56 : decode cX5_init 56 = .ok (.iconst (-1), 1) := by decide +kernel
theorem dX5_init_57 : decode cX5_init 57 = .ok (.putfield 43, 3) := by decide +kernel
theorem dX5_init_60 : decode cX5_init 60 = .ok (.aload_n 0, 1) := by decide +kernel
theorem dX5_init_61 : decode cX5_init 61 = .ok (.new 46, 3) := by decide +kernel
theorem dX5_init_64 : decode cX5_init 64 = .ok (.dup, 1) := by decide +kernel
theorem dX5_init_65 : decode cX5_init 65 = .ok (.invokespecial 48, 3) := by decide +kernel
theorem dX5_init_68 : decode cX5_init 68 = .ok (.putfield 49, 3) := by decide +kernel
theorem dX5_init_71 : decode cX5_init 71 = .ok (.return_, 1) := by decide +kernel
theorem dX5_tape_0 : decode cX5_tape 0 = .ok (.aload_n 0, 1) := by decide +kernel
theorem dX5_tape_1 : decode cX5_tape 1 = .ok (.getfield 12, 3) := by decide +kernel
theorem dX5_tape_4 : decode cX5_tape 4 = .ok (.areturn, 1) := by decide +kernel
theorem dX5_faultKind_0 : decode cX5_faultKind 0 = .ok (.aload_n 0, 1) := by decide +kernel
theorem dX5_faultKind_1 : decode cX5_faultKind 1 = .ok (.getfield 37, 3) := by decide +kernel
theorem dX5_faultKind_4 : decode cX5_faultKind 4 = .ok (.ireturn, 1) := by decide +kernel
theorem dX5_faultPlace_0 : decode cX5_faultPlace 0 = .ok (.aload_n 0, 1) := by decide +kernel
theorem dX5_faultPlace_1 : decode cX5_faultPlace 1 = .ok (.getfield 40, 3) := by decide +kernel
theorem dX5_faultPlace_4 : decode cX5_faultPlace 4 = .ok (.ireturn, 1) := by decide +kernel
theorem dX5_faultRow_0 : decode cX5_faultRow 0 = .ok (.aload_n 0, 1) := by decide +kernel
theorem dX5_faultRow_1 : decode cX5_faultRow 1 = .ok (.getfield 43, 3) := by decide +kernel
theorem dX5_faultRow_4 : decode cX5_faultRow 4 = .ok (.ireturn, 1) := by decide +kernel
theorem dX5_groupCode_0 : decode cX5_groupCode 0 = .ok (.aload_n 0, 1) := by decide +kernel
theorem dX5_groupCode_1 : decode cX5_groupCode 1 = .ok (.getfield 31, 3) := by decide +kernel
theorem dX5_groupCode_4 : decode cX5_groupCode 4 = .ok (.ireturn, 1) := by decide +kernel
theorem dX5_rowsRead_0 : decode cX5_rowsRead 0 = .ok (.aload_n 0, 1) := by decide +kernel
theorem dX5_rowsRead_1 : decode cX5_rowsRead 1 = .ok (.getfield 34, 3) := by decide +kernel
theorem dX5_rowsRead_4 : decode cX5_rowsRead 4 = .ok (.ireturn, 1) := by decide +kernel
theorem dX5_rowRead_0 : decode cX5_rowRead 0 = .ok (.aload_n 0, 1) := by decide +kernel
theorem dX5_rowRead_1 : decode cX5_rowRead 1 = .ok (.getfield 49, 3) := by decide +kernel
theorem dX5_rowRead_4 : decode cX5_rowRead 4 = .ok (.areturn, 1) := by decide +kernel
theorem dX5_readWhole_0 : decode cX5_readWhole 0 = .ok (.aload_n 0, 1) := by decide +kernel
theorem dX5_readWhole_1 : decode cX5_readWhole 1 = .ok (.iconst 0, 1) := by decide +kernel
theorem dX5_readWhole_2 : decode cX5_readWhole 2 = .ok (.putfield 18, 3) := by decide +kernel
theorem dX5_readWhole_5 : decode cX5_readWhole 5 = .ok (.aload_n 0, 1) := by decide +kernel
theorem dX5_readWhole_6 : decode cX5_readWhole 6 = .ok (.iconst 0, 1) := by decide +kernel
theorem dX5_readWhole_7 : decode cX5_readWhole 7 = .ok (.putfield 31, 3) := by decide +kernel
theorem dX5_readWhole_10 : decode cX5_readWhole 10 = .ok (.aload_n 0, 1) := by decide +kernel
theorem dX5_readWhole_11 : decode cX5_readWhole 11 = .ok (.iconst 0, 1) := by decide +kernel
theorem dX5_readWhole_12 : decode cX5_readWhole 12 = .ok (.putfield 34, 3) := by decide +kernel
theorem dX5_readWhole_15 : decode cX5_readWhole 15 = .ok (.aload_n 0, 1) := by decide +kernel
theorem dX5_readWhole_16 : decode cX5_readWhole 16 = .ok (.iconst 0, 1) := by decide +kernel
theorem dX5_readWhole_17 : decode cX5_readWhole 17 = .ok (.putfield 37, 3) := by decide +kernel
theorem dX5_readWhole_20 : decode cX5_readWhole 20 = .ok (.aload_n 0, 1) := by decide +kernel
theorem dX5_readWhole_21 : decode cX5_readWhole 21 = .ok (.iconst 0, 1) := by decide +kernel
theorem dX5_readWhole_22 : decode cX5_readWhole 22 = .ok (.putfield 40, 3) := by decide +kernel
theorem dX5_readWhole_25 : decode cX5_readWhole 25 = .ok (.aload_n 0, 1) := by decide +kernel
theorem dX5_readWhole_26 : decode cX5_readWhole 26 = .ok (.iconst (-1), 1) := by decide +kernel
theorem dX5_readWhole_27 : decode cX5_readWhole 27 = .ok (.putfield 43, 3) := by decide +kernel
theorem dX5_readWhole_30 : decode cX5_readWhole 30 = .ok (.aload_n 0, 1) := by decide +kernel
theorem dX5_readWhole_31 : decode cX5_readWhole 31 = .ok (.getfield 49, 3) := by decide +kernel
theorem dX5_readWhole_34 : decode cX5_readWhole 34 = .ok (.invokevirtual 53, 3) := by decide +kernel
theorem dX5_readWhole_37 : decode cX5_readWhole 37 = .ok (.aload_n 0, 1) := by decide +kernel
theorem dX5_readWhole_38 : decode cX5_readWhole 38 = .ok (.invokevirtual 56, 3) := by decide +kernel
theorem dX5_readWhole_41 : decode cX5_readWhole 41 = .ok (.iconst 0, 1) := by decide +kernel
theorem dX5_readWhole_42 : decode cX5_readWhole 42 = .ok (.istore_n 1, 1) := by decide +kernel
theorem dX5_readWhole_43 : decode cX5_readWhole 43 = .ok (.iload_n 1, 1) := by decide +kernel
theorem dX5_readWhole_44 : decode cX5_readWhole 44 = .ok (.sipush 301, 3) := by decide +kernel
theorem dX5_readWhole_47 : decode cX5_readWhole 47 = .ok (.if_icmp .ge 53, 3) := by decide +kernel
theorem dX5_readWhole_50 : decode cX5_readWhole 50 = .ok (.aload_n 0, 1) := by decide +kernel
theorem dX5_readWhole_51 : decode cX5_readWhole 51 = .ok (.getfield 37, 3) := by decide +kernel
theorem dX5_readWhole_54 : decode cX5_readWhole 54 = .ok (.ifCond .ne 46, 3) := by decide +kernel
theorem dX5_readWhole_57 : decode cX5_readWhole 57 = .ok (.aload_n 0, 1) := by decide +kernel
theorem dX5_readWhole_58 : decode cX5_readWhole 58 = .ok (.getfield 22, 3) := by decide +kernel
theorem dX5_readWhole_61 : decode cX5_readWhole 61 = .ok (.ifCond .eq 39, 3) := by decide +kernel
theorem dX5_readWhole_64 : decode cX5_readWhole 64 = .ok (.iload_n 1, 1) := by decide +kernel
theorem dX5_readWhole_65 : decode cX5_readWhole 65 = .ok (.ifCond .ne 10, 3) := by decide +kernel
theorem dX5_readWhole_68 : decode cX5_readWhole 68 = .ok (.aload_n 0, 1) := by decide +kernel
theorem dX5_readWhole_69 : decode cX5_readWhole 69 = .ok (.invokevirtual 59, 3) := by decide +kernel
theorem dX5_readWhole_72 : decode cX5_readWhole 72 = .ok (.goto 7, 3) := by decide +kernel
theorem dX5_readWhole_75 : decode cX5_readWhole 75 = .ok (.aload_n 0, 1) := by decide +kernel
theorem dX5_readWhole_76 : decode cX5_readWhole 76 = .ok (.invokevirtual 63, 3) := by decide +kernel
theorem dX5_readWhole_79 : decode cX5_readWhole 79 = .ok (.istore_n 2, 1) := by decide +kernel
theorem dX5_readWhole_80 : decode cX5_readWhole 80 = .ok (.iload_n 2, 1) := by decide +kernel
theorem dX5_readWhole_81 : decode cX5_readWhole 81 = .ok (.ifCond .eq 13, 3) := by decide +kernel
theorem dX5_readWhole_84 : decode cX5_readWhole 84 = .ok (.aload_n 0, 1) := by decide +kernel
theorem dX5_readWhole_85 : decode cX5_readWhole 85 = .ok (.dup, 1) := by decide +kernel
theorem dX5_readWhole_86 : decode cX5_readWhole 86 = .ok (.getfield 34, 3) := by decide +kernel
theorem dX5_readWhole_89 : decode cX5_readWhole 89 = .ok (.iconst 1, 1) := by decide +kernel
theorem dX5_readWhole_90 : decode cX5_readWhole 90 = .ok (.iadd, 1) := by decide +kernel
theorem dX5_readWhole_91 : decode cX5_readWhole 91 = .ok (.putfield 34, 3) := by decide +kernel
theorem dX5_readWhole_94 : decode cX5_readWhole 94 = .ok (.iinc 1 1, 3) := by decide +kernel
theorem dX5_readWhole_97 : decode cX5_readWhole 97 = .ok (.goto (-54), 3) := by decide +kernel
theorem dX5_readWhole_100 : decode cX5_readWhole 100 = .ok (.return_, 1) := by decide +kernel
theorem dX5_readGroupRow_0 : decode cX5_readGroupRow 0 = .ok (.aload_n 0, 1) := by decide +kernel
theorem dX5_readGroupRow_1 : decode cX5_readGroupRow 1 = .ok (.getfield 22, 3) := by decide +kernel
theorem dX5_readGroupRow_4 : decode cX5_readGroupRow 4 = .ok (.iconst 4, 1) := by decide +kernel
theorem dX5_readGroupRow_5 : decode cX5_readGroupRow 5 = .ok (.if_icmp .eq 9, 3) := by decide +kernel
theorem dX5_readGroupRow_8 : decode cX5_readGroupRow 8 = .ok (.aload_n 0, 1) := by decide +kernel
theorem dX5_readGroupRow_9 : decode cX5_readGroupRow 9 = .ok (.iconst 1, 1) := by decide +kernel
theorem dX5_readGroupRow_10 : decode cX5_readGroupRow 10 = .ok (.invokevirtual 66, 3) := by decide +kernel
theorem dX5_readGroupRow_13 : decode cX5_readGroupRow 13 = .ok (.ireturn, 1) := by decide +kernel
theorem dX5_readGroupRow_14 : decode cX5_readGroupRow 14 = .ok (.aload_n 0, 1) := by decide +kernel
theorem dX5_readGroupRow_15 : decode cX5_readGroupRow 15 = .ok (.invokevirtual 56, 3) := by decide +kernel
theorem dX5_readGroupRow_18 : decode cX5_readGroupRow 18 = .ok (.iconst 1, 1) := by decide +kernel
theorem dX5_readGroupRow_19 : decode cX5_readGroupRow 19 = .ok (.istore_n 1, 1) := by decide +kernel
theorem dX5_readGroupRow_20 : decode cX5_readGroupRow 20 = .ok (.iconst 0, 1) := by decide +kernel
theorem dX5_readGroupRow_21 : decode cX5_readGroupRow 21 = .ok (.istore_n 2, 1) := by decide +kernel
theorem dX5_readGroupRow_22 : decode cX5_readGroupRow 22 = .ok (.iload_n 2, 1) := by decide +kernel
theorem dX5_readGroupRow_23 : decode cX5_readGroupRow 23 = .ok (.iconst 3, 1) := by decide +kernel
theorem dX5_readGroupRow_24 : decode cX5_readGroupRow 24 = .ok (.if_icmp .ge 96, 3) := by decide +kernel
theorem dX5_readGroupRow_27 : decode cX5_readGroupRow 27 = .ok (.iload_n 2, 1) := by decide +kernel
theorem dX5_readGroupRow_28 : decode cX5_readGroupRow 28 = .ok (.ifCond .eq 11, 3) := by decide +kernel
theorem dX5_readGroupRow_31 : decode cX5_readGroupRow 31 = .ok (.aload_n 0, 1) := by decide +kernel
theorem dX5_readGroupRow_32 : decode cX5_readGroupRow 32 = .ok (.getfield 22, 3) := by decide +kernel
theorem dX5_readGroupRow_35 : decode cX5_readGroupRow 35 = .ok (.iconst 2, 1) := by decide +kernel
theorem dX5_readGroupRow_36 : decode cX5_readGroupRow 36 = .ok (.if_icmp .ne 84, 3) := by decide +kernel
theorem dX5_readGroupRow_39 : decode cX5_readGroupRow 39 = .ok (.aload_n 0, 1) := by decide +kernel
theorem dX5_readGroupRow_40 : decode cX5_readGroupRow 40 = .ok (.getfield 22, 3) := by decide +kernel
theorem dX5_readGroupRow_43 : decode cX5_readGroupRow 43 = .ok (.iconst 2, 1) := by decide +kernel
theorem dX5_readGroupRow_44 : decode cX5_readGroupRow 44 = .ok (.if_icmp .eq 9, 3) := by decide +kernel
theorem dX5_readGroupRow_47 : decode cX5_readGroupRow 47 = .ok (.aload_n 0, 1) := by decide +kernel
theorem dX5_readGroupRow_48 : decode cX5_readGroupRow 48 = .ok (.iconst 1, 1) := by decide +kernel
theorem dX5_readGroupRow_49 : decode cX5_readGroupRow 49 = .ok (.invokevirtual 66, 3) := by decide +kernel
theorem dX5_readGroupRow_52 : decode cX5_readGroupRow 52 = .ok (.ireturn, 1) := by decide +kernel
theorem dX5_readGroupRow_53 : decode cX5_readGroupRow 53 = .ok (.aload_n 0, 1) := by decide +kernel
theorem dX5_readGroupRow_54 : decode cX5_readGroupRow 54 = .ok (.getfield 28, 3) := by decide +kernel
theorem dX5_readGroupRow_57 : decode cX5_readGroupRow 57 = .ok (.iconst 2, 1) := by decide +kernel
theorem dX5_readGroupRow_58 : decode cX5_readGroupRow 58 = .ok (.if_icmp .lt 23, 3) := by decide +kernel
theorem dX5_readGroupRow_61 : decode cX5_readGroupRow 61 = .ok (.aload_n 0, 1) := by decide +kernel
theorem dX5_readGroupRow_62 : decode cX5_readGroupRow 62 = .ok (.getfield 28, 3) := by decide +kernel
theorem dX5_readGroupRow_65 : decode cX5_readGroupRow 65 = .ok (.bipush 24, 2) := by decide +kernel
theorem dX5_readGroupRow_67 : decode cX5_readGroupRow 67 = .ok (.if_icmp .gt 14, 3) := by decide +kernel
theorem dX5_readGroupRow_70 : decode cX5_readGroupRow 70 = .ok (.iload_n 1, 1) := by decide +kernel
theorem dX5_readGroupRow_71 : decode cX5_readGroupRow 71 = .ok (.aload_n 0, 1) := by decide +kernel
theorem dX5_readGroupRow_72 : decode cX5_readGroupRow 72 = .ok (.getfield 28, 3) := by decide +kernel
theorem dX5_readGroupRow_75 : decode cX5_readGroupRow 75 = .ok (.imul, 1) := by decide +kernel
theorem dX5_readGroupRow_76 : decode cX5_readGroupRow 76 = .ok (.bipush 24, 2) := by decide +kernel
theorem dX5_readGroupRow_78 : decode cX5_readGroupRow 78 = .ok (.if_icmp .le 9, 3) := by decide +kernel
theorem dX5_readGroupRow_81 : decode cX5_readGroupRow 81 = .ok (.aload_n 0, 1) := by decide +kernel
theorem dX5_readGroupRow_82 : decode cX5_readGroupRow 82 = .ok (.iconst 2, 1) := by decide +kernel
theorem dX5_readGroupRow_83 : decode cX5_readGroupRow 83 = .ok (.invokevirtual 66, 3) := by decide +kernel
theorem dX5_readGroupRow_86 : decode cX5_readGroupRow 86 = .ok (.ireturn, 1) := by decide +kernel
theorem dX5_readGroupRow_87 : decode cX5_readGroupRow 87 = .ok (.iload_n 1, 1) := by decide +kernel
theorem dX5_readGroupRow_88 : decode cX5_readGroupRow 88 = .ok (.aload_n 0, 1) := by decide +kernel
theorem dX5_readGroupRow_89 : decode cX5_readGroupRow 89 = .ok (.getfield 28, 3) := by decide +kernel
theorem dX5_readGroupRow_92 : decode cX5_readGroupRow 92 = .ok (.imul, 1) := by decide +kernel
theorem dX5_readGroupRow_93 : decode cX5_readGroupRow 93 = .ok (.istore_n 1, 1) := by decide +kernel
theorem dX5_readGroupRow_94 : decode cX5_readGroupRow 94 = .ok (.aload_n 0, 1) := by decide +kernel
theorem dX5_readGroupRow_95 : decode cX5_readGroupRow 95 = .ok (.aload_n 0, 1) := by decide +kernel
theorem dX5_readGroupRow_96 : decode cX5_readGroupRow 96 = .ok (.getfield 31, 3) := by decide +kernel
theorem dX5_readGroupRow_99 : decode cX5_readGroupRow 99 = .ok (.iload_n 2, 1) := by decide +kernel
theorem dX5_readGroupRow_100 : decode cX5_readGroupRow 100 = .ok (.aload_n 0, 1) := by decide +kernel
theorem dX5_readGroupRow_101 : decode cX5_readGroupRow 101 = .ok (.getfield 28, 3) := by decide +kernel
theorem dX5_readGroupRow_104 : decode cX5_readGroupRow 104 = .ok (.invokestatic 70, 3) := by decide +kernel
theorem dX5_readGroupRow_107 : decode cX5_readGroupRow 107 = .ok (.putfield 31, 3) := by decide +kernel
theorem dX5_readGroupRow_110 : decode cX5_readGroupRow 110 = .ok (.aload_n 0, 1) := by decide +kernel
theorem dX5_readGroupRow_111 : decode cX5_readGroupRow 111 = .ok (.invokevirtual 56, 3) := by decide +kernel
theorem dX5_readGroupRow_114 : decode cX5_readGroupRow 114 = .ok (.iinc 2 1, 3) := by decide +kernel
theorem dX5_readGroupRow_117 : decode cX5_readGroupRow 117 = .ok (.goto (-95), 3) := by decide +kernel
theorem dX5_readGroupRow_120 : decode cX5_readGroupRow 120 = .ok (.aload_n 0, 1) := by decide +kernel
theorem dX5_readGroupRow_121 : decode cX5_readGroupRow 121 = .ok (.invokevirtual 76, 3) := by decide +kernel
theorem dX5_readGroupRow_124 : decode cX5_readGroupRow 124 = .ok (.ireturn, 1) := by decide +kernel
theorem dX5_readPutRow_0 : decode cX5_readPutRow 0 = .ok (.aload_n 0, 1) := by decide +kernel
theorem dX5_readPutRow_1 : decode cX5_readPutRow 1 = .ok (.getfield 22, 3) := by decide +kernel
theorem dX5_readPutRow_4 : decode cX5_readPutRow 4 = .ok (.iconst 5, 1) := by decide +kernel
theorem dX5_readPutRow_5 : decode cX5_readPutRow 5 = .ok (.if_icmp .eq 9, 3) := by decide +kernel
theorem dX5_readPutRow_8 : decode cX5_readPutRow 8 = .ok (.aload_n 0, 1) := by decide +kernel
theorem dX5_readPutRow_9 : decode cX5_readPutRow 9 = .ok (.iconst 1, 1) := by decide +kernel
theorem dX5_readPutRow_10 : decode cX5_readPutRow 10 = .ok (.invokevirtual 66, 3) := by decide +kernel
theorem dX5_readPutRow_13 : decode cX5_readPutRow 13 = .ok (.ireturn, 1) := by decide +kernel
theorem dX5_readPutRow_14 : decode cX5_readPutRow 14 = .ok (.aload_n 0, 1) := by decide +kernel
theorem dX5_readPutRow_15 : decode cX5_readPutRow 15 = .ok (.getfield 25, 3) := by decide +kernel
theorem dX5_readPutRow_18 : decode cX5_readPutRow 18 = .ok (.istore_n 1, 1) := by decide +kernel
theorem dX5_readPutRow_19 : decode cX5_readPutRow 19 = .ok (.aload_n 0, 1) := by decide +kernel
theorem dX5_readPutRow_20 : decode cX5_readPutRow 20 = .ok (.invokevirtual 56, 3) := by decide +kernel
theorem dX5_readPutRow_23 : decode cX5_readPutRow 23 = .ok (.aload_n 0, 1) := by decide +kernel
theorem dX5_readPutRow_24 : decode cX5_readPutRow 24 = .ok (.invokevirtual 79, 3) := by decide +kernel
theorem dX5_readPutRow_27 : decode cX5_readPutRow 27 = .ok (.istore_n 2, 1) := by decide +kernel
theorem dX5_readPutRow_28 : decode cX5_readPutRow 28 = .ok (.iload_n 2, 1) := by decide +kernel
theorem dX5_readPutRow_29 : decode cX5_readPutRow 29 = .ok (.iconst (-1), 1) := by decide +kernel
theorem dX5_readPutRow_30 : decode cX5_readPutRow 30 = .ok (.if_icmp .ne 5, 3) := by decide +kernel
theorem dX5_readPutRow_33 : decode cX5_readPutRow 33 = .ok (.iconst 0, 1) := by decide +kernel
theorem dX5_readPutRow_34 : decode cX5_readPutRow 34 = .ok (.ireturn, 1) := by decide +kernel
theorem dX5_readPutRow_35 : decode cX5_readPutRow 35 = .ok (.iconst 1, 1) := by decide +kernel
theorem dX5_readPutRow_36 : decode cX5_readPutRow 36 = .ok (.istore_n 3, 1) := by decide +kernel
theorem dX5_readPutRow_37 : decode cX5_readPutRow 37 = .ok (.aload_n 0, 1) := by decide +kernel
theorem dX5_readPutRow_38 : decode cX5_readPutRow 38 = .ok (.getfield 22, 3) := by decide +kernel
theorem dX5_readPutRow_41 : decode cX5_readPutRow 41 = .ok (.bipush 6, 2) := by decide +kernel
theorem dX5_readPutRow_43 : decode cX5_readPutRow 43 = .ok (.if_icmp .ne 7, 3) := by decide +kernel
theorem dX5_readPutRow_46 : decode cX5_readPutRow 46 = .ok (.iconst 1, 1) := by decide +kernel
theorem dX5_readPutRow_47 : decode cX5_readPutRow 47 = .ok (.goto 4, 3) := by decide +kernel
theorem dX5_readPutRow_50 : decode cX5_readPutRow 50 = .ok (.iconst 0, 1) := by decide +kernel
theorem dX5_readPutRow_51 : decode cX5_readPutRow 51 = .ok (.istore 4, 2) := by decide +kernel
theorem dX5_readPutRow_53 : decode cX5_readPutRow 53 = .ok (.iload 4, 2) := by decide +kernel
theorem dX5_readPutRow_55 : decode cX5_readPutRow 55 = .ok (.ifCond .eq 19, 3) := by decide +kernel
theorem dX5_readPutRow_58 : decode cX5_readPutRow 58 = .ok (.aload_n 0, 1) := by decide +kernel
theorem dX5_readPutRow_59 : decode cX5_readPutRow 59 = .ok (.invokevirtual 56, 3) := by decide +kernel
theorem dX5_readPutRow_62 : decode cX5_readPutRow 62 = .ok (.aload_n 0, 1) := by decide +kernel
theorem dX5_readPutRow_63 : decode cX5_readPutRow 63 = .ok (.invokevirtual 83, 3) := by decide +kernel
theorem dX5_readPutRow_66 : decode cX5_readPutRow 66 = .ok (.istore_n 3, 1) := by decide +kernel
theorem dX5_readPutRow_67 : decode cX5_readPutRow 67 = .ok (.iload_n 3, 1) := by decide +kernel
theorem dX5_readPutRow_68 : decode cX5_readPutRow 68 = .ok (.iconst (-1), 1) := by decide +kernel
theorem dX5_readPutRow_69 : decode cX5_readPutRow 69 = .ok (.if_icmp .ne 5, 3) := by decide +kernel
theorem dX5_readPutRow_72 : decode cX5_readPutRow 72 = .ok (.iconst 0, 1) := by decide +kernel
theorem dX5_readPutRow_73 : decode cX5_readPutRow 73 = .ok (.ireturn, 1) := by decide +kernel
theorem dX5_readPutRow_74 : decode cX5_readPutRow 74 = .ok (.aload_n 0, 1) := by decide +kernel
theorem dX5_readPutRow_75 : decode cX5_readPutRow 75 = .ok (.invokevirtual 76, 3) := by decide +kernel
theorem dX5_readPutRow_78 : decode cX5_readPutRow 78 = .ok (.ifCond .ne 5, 3) := by decide +kernel
theorem dX5_readPutRow_81 : decode cX5_readPutRow 81 = .ok (.iconst 0, 1) := by decide +kernel
theorem dX5_readPutRow_82 : decode cX5_readPutRow 82 = .ok (.ireturn, 1) := by decide +kernel
theorem dX5_readPutRow_83 : decode cX5_readPutRow 83 = .ok (.iload 4, 2) := by decide +kernel
theorem dX5_readPutRow_85 : decode cX5_readPutRow 85 = .ok (.ifCond .ne 20, 3) := by decide +kernel
theorem dX5_readPutRow_88 : decode cX5_readPutRow 88 = .ok (.aload_n 0, 1) := by decide +kernel
theorem dX5_readPutRow_89 : decode cX5_readPutRow 89 = .ok (.getfield 49, 3) := by decide +kernel
theorem dX5_readPutRow_92 : decode cX5_readPutRow 92 = .ok (.invokevirtual 86, 3) := by decide +kernel
theorem dX5_readPutRow_95 : decode cX5_readPutRow 95 = .ok (.ifCond .eq 10, 3) := by decide +kernel
theorem dX5_readPutRow_98 : decode cX5_readPutRow 98 = .ok (.aload_n 0, 1) := by decide +kernel
theorem dX5_readPutRow_99 : decode cX5_readPutRow 99 = .ok (.iconst 3, 1) := by decide +kernel
theorem dX5_readPutRow_100 : decode cX5_readPutRow 100 = .ok (.iload_n 1, 1) := by decide +kernel
theorem dX5_readPutRow_101 : decode cX5_readPutRow 101 = .ok (.invokevirtual 89, 3) := by decide +kernel
theorem dX5_readPutRow_104 : decode cX5_readPutRow 104 = .ok (.ireturn, 1) := by decide +kernel
theorem dX5_readPutRow_105 : decode cX5_readPutRow 105 = .ok (.iconst 0, 1) := by decide +kernel
theorem dX5_readPutRow_106 : decode cX5_readPutRow 106 = .ok (.istore 5, 2) := by decide +kernel
theorem dX5_readPutRow_108 : decode cX5_readPutRow 108 = .ok (.iload 5, 2) := by decide +kernel
theorem dX5_readPutRow_110 : decode cX5_readPutRow 110 = .ok (.iload_n 3, 1) := by decide +kernel
theorem dX5_readPutRow_111 : decode cX5_readPutRow 111 = .ok (.if_icmp .ge 25, 3) := by decide +kernel
theorem dX5_readPutRow_114 : decode cX5_readPutRow 114 = .ok (.iload 5, 2) := by decide +kernel
theorem dX5_readPutRow_116 : decode cX5_readPutRow 116 = .ok (.bipush 12, 2) := by decide +kernel
theorem dX5_readPutRow_118 : decode cX5_readPutRow 118 = .ok (.if_icmp .ge 18, 3) := by decide +kernel
theorem dX5_readPutRow_121 : decode cX5_readPutRow 121 = .ok (.aload_n 0, 1) := by decide +kernel
theorem dX5_readPutRow_122 : decode cX5_readPutRow 122 = .ok (.getfield 49, 3) := by decide +kernel
theorem dX5_readPutRow_125 : decode cX5_readPutRow 125 = .ok (.iload_n 2, 1) := by decide +kernel
theorem dX5_readPutRow_126 : decode cX5_readPutRow 126 = .ok (.invokevirtual 93, 3) := by decide +kernel
theorem dX5_readPutRow_129 : decode cX5_readPutRow 129 = .ok (.pop, 1) := by decide +kernel
theorem dX5_readPutRow_130 : decode cX5_readPutRow 130 = .ok (.iinc 5 1, 3) := by decide +kernel
theorem dX5_readPutRow_133 : decode cX5_readPutRow 133 = .ok (.goto (-25), 3) := by decide +kernel
theorem dX5_readPutRow_136 : decode cX5_readPutRow 136 = .ok (.iconst 1, 1) := by decide +kernel
theorem dX5_readPutRow_137 : decode cX5_readPutRow 137 = .ok (.ireturn, 1) := by decide +kernel
theorem dX5_readElement_0 : decode cX5_readElement 0 = .ok (.iconst 0, 1) := by decide +kernel
theorem dX5_readElement_1 : decode cX5_readElement 1 = .ok (.istore_n 1, 1) := by decide +kernel
theorem dX5_readElement_2 : decode cX5_readElement 2 = .ok (.iconst 0, 1) := by decide +kernel
theorem dX5_readElement_3 : decode cX5_readElement 3 = .ok (.istore_n 2, 1) := by decide +kernel
theorem dX5_readElement_4 : decode cX5_readElement 4 = .ok (.iload_n 2, 1) := by decide +kernel
theorem dX5_readElement_5 : decode cX5_readElement 5 = .ok (.iconst 3, 1) := by decide +kernel
theorem dX5_readElement_6 : decode cX5_readElement 6 = .ok (.if_icmp .ge 79, 3) := by decide +kernel
theorem dX5_readElement_9 : decode cX5_readElement 9 = .ok (.aload_n 0, 1) := by decide +kernel
theorem dX5_readElement_10 : decode cX5_readElement 10 = .ok (.getfield 31, 3) := by decide +kernel
theorem dX5_readElement_13 : decode cX5_readElement 13 = .ok (.iload_n 2, 1) := by decide +kernel
theorem dX5_readElement_14 : decode cX5_readElement 14 = .ok (.invokestatic 96, 3) := by decide +kernel
theorem dX5_readElement_17 : decode cX5_readElement 17 = .ok (.ifCond .le 68, 3) := by decide +kernel
theorem dX5_readElement_20 : decode cX5_readElement 20 = .ok (.aload_n 0, 1) := by decide +kernel
theorem dX5_readElement_21 : decode cX5_readElement 21 = .ok (.getfield 22, 3) := by decide +kernel
theorem dX5_readElement_24 : decode cX5_readElement 24 = .ok (.iconst 2, 1) := by decide +kernel
theorem dX5_readElement_25 : decode cX5_readElement 25 = .ok (.if_icmp .eq 11, 3) := by decide +kernel
theorem dX5_readElement_28 : decode cX5_readElement 28 = .ok (.aload_n 0, 1) := by decide +kernel
theorem dX5_readElement_29 : decode cX5_readElement 29 = .ok (.iconst 1, 1) := by decide +kernel
theorem dX5_readElement_30 : decode cX5_readElement 30 = .ok (.invokevirtual 66, 3) := by decide +kernel
theorem dX5_readElement_33 : decode cX5_readElement 33 = .ok (.pop, 1) := by decide +kernel
theorem dX5_readElement_34 : decode cX5_readElement 34 = .ok (.iconst (-1), 1) := by decide +kernel
theorem dX5_readElement_35 : decode cX5_readElement 35 = .ok (.ireturn, 1) := by decide +kernel
theorem dX5_readElement_36 : decode cX5_readElement 36 = .ok (.aload_n 0, 1) := by decide +kernel
theorem dX5_readElement_37 : decode cX5_readElement 37 = .ok (.getfield 28, 3) := by decide +kernel
theorem dX5_readElement_40 : decode cX5_readElement 40 = .ok (.aload_n 0, 1) := by decide +kernel
theorem dX5_readElement_41 : decode cX5_readElement 41 = .ok (.getfield 31, 3) := by decide +kernel
theorem dX5_readElement_44 : decode cX5_readElement 44 = .ok (.iload_n 2, 1) := by decide +kernel
theorem dX5_readElement_45 : decode cX5_readElement 45 = .ok (.invokestatic 96, 3) := by decide +kernel
theorem dX5_readElement_48 : decode cX5_readElement 48 = .ok (.if_icmp .lt 11, 3) := by decide +kernel
theorem dX5_readElement_51 : decode cX5_readElement 51 = .ok (.aload_n 0, 1) := by decide +kernel
theorem dX5_readElement_52 : decode cX5_readElement 52 = .ok (.iconst 2, 1) := by decide +kernel
theorem dX5_readElement_53 : decode cX5_readElement 53 = .ok (.invokevirtual 66, 3) := by decide +kernel
theorem dX5_readElement_56 : decode cX5_readElement 56 = .ok (.pop, 1) := by decide +kernel
theorem dX5_readElement_57 : decode cX5_readElement 57 = .ok (.iconst (-1), 1) := by decide +kernel
theorem dX5_readElement_58 : decode cX5_readElement 58 = .ok (.ireturn, 1) := by decide +kernel
theorem dX5_readElement_59 : decode cX5_readElement 59 = .ok (.iload_n 1, 1) := by decide +kernel
theorem dX5_readElement_60 : decode cX5_readElement 60 = .ok (.aload_n 0, 1) := by decide +kernel
theorem dX5_readElement_61 : decode cX5_readElement 61 = .ok (.getfield 31, 3) := by decide +kernel
theorem dX5_readElement_64 : decode cX5_readElement 64 = .ok (.iload_n 2, 1) := by decide +kernel
theorem dX5_readElement_65 : decode cX5_readElement 65 = .ok (.invokestatic 96, 3) := by decide +kernel
theorem dX5_readElement_68 : decode cX5_readElement 68 = .ok (.imul, 1) := by decide +kernel
theorem dX5_readElement_69 : decode cX5_readElement 69 = .ok (.aload_n 0, 1) := by decide +kernel
theorem dX5_readElement_70 : decode cX5_readElement 70 = .ok (.getfield 28, 3) := by decide +kernel
theorem dX5_readElement_73 : decode cX5_readElement 73 = .ok (.iadd, 1) := by decide +kernel
theorem dX5_readElement_74 : decode cX5_readElement 74 = .ok (.istore_n 1, 1) := by decide +kernel
theorem dX5_readElement_75 : decode cX5_readElement 75 = .ok (.aload_n 0, 1) := by decide +kernel
theorem dX5_readElement_76 : decode cX5_readElement 76 = .ok (.invokevirtual 56, 3) := by decide +kernel
theorem dX5_readElement_79 : decode cX5_readElement 79 = .ok (.iinc 2 1, 3) := by decide +kernel
theorem dX5_readElement_82 : decode cX5_readElement 82 = .ok (.goto (-78), 3) := by decide +kernel
theorem dX5_readElement_85 : decode cX5_readElement 85 = .ok (.iload_n 1, 1) := by decide +kernel
theorem dX5_readElement_86 : decode cX5_readElement 86 = .ok (.ireturn, 1) := by decide +kernel
theorem dX5_readHowOften_0 : decode cX5_readHowOften 0 = .ok (.aload_n 0, 1) := by decide +kernel
theorem dX5_readHowOften_1 : decode cX5_readHowOften 1 = .ok (.getfield 22, 3) := by decide +kernel
theorem dX5_readHowOften_4 : decode cX5_readHowOften 4 = .ok (.iconst 2, 1) := by decide +kernel
theorem dX5_readHowOften_5 : decode cX5_readHowOften 5 = .ok (.if_icmp .eq 11, 3) := by decide +kernel
theorem dX5_readHowOften_8 : decode cX5_readHowOften 8 = .ok (.aload_n 0, 1) := by decide +kernel
theorem dX5_readHowOften_9 : decode cX5_readHowOften 9 = .ok (.iconst 1, 1) := by decide +kernel
theorem dX5_readHowOften_10 : decode cX5_readHowOften 10 = .ok (.invokevirtual 66, 3) := by decide +kernel
theorem dX5_readHowOften_13 : decode cX5_readHowOften 13 = .ok (.pop, 1) := by decide +kernel
theorem dX5_readHowOften_14 : decode cX5_readHowOften 14 = .ok (.iconst (-1), 1) := by decide +kernel
theorem dX5_readHowOften_15 : decode cX5_readHowOften 15 = .ok (.ireturn, 1) := by decide +kernel
theorem dX5_readHowOften_16 : decode cX5_readHowOften 16 = .ok (.aload_n 0, 1) := by decide +kernel
theorem dX5_readHowOften_17 : decode cX5_readHowOften 17 = .ok (.getfield 28, 3) := by decide +kernel
theorem dX5_readHowOften_20 : decode cX5_readHowOften 20 = .ok (.istore_n 1, 1) := by decide +kernel
theorem dX5_readHowOften_21 : decode cX5_readHowOften 21 = .ok (.iload_n 1, 1) := by decide +kernel
theorem dX5_readHowOften_22 : decode cX5_readHowOften 22 = .ok (.iconst 1, 1) := by decide +kernel
theorem dX5_readHowOften_23 : decode cX5_readHowOften 23 = .ok (.if_icmp .lt 17, 3) := by decide +kernel
theorem dX5_readHowOften_26 : decode cX5_readHowOften 26 = .ok (.aload_n 0, 1) := by decide +kernel
theorem dX5_readHowOften_27 : decode cX5_readHowOften 27 = .ok (.getfield 49, 3) := by decide +kernel
theorem dX5_readHowOften_30 : decode cX5_readHowOften 30 = .ok (.invokevirtual 100, 3) := by decide +kernel
theorem dX5_readHowOften_33 : decode cX5_readHowOften 33 = .ok (.iload_n 1, 1) := by decide +kernel
theorem dX5_readHowOften_34 : decode cX5_readHowOften 34 = .ok (.iadd, 1) := by decide +kernel
theorem dX5_readHowOften_35 : decode cX5_readHowOften 35 = .ok (.bipush 12, 2) := by decide +kernel
theorem dX5_readHowOften_37 : decode cX5_readHowOften 37 = .ok (.if_icmp .le 11, 3) := by decide +kernel
theorem dX5_readHowOften_40 : decode cX5_readHowOften 40 = .ok (.aload_n 0, 1) := by decide +kernel
theorem dX5_readHowOften_41 : decode cX5_readHowOften 41 = .ok (.iconst 2, 1) := by decide +kernel
theorem dX5_readHowOften_42 : decode cX5_readHowOften 42 = .ok (.invokevirtual 66, 3) := by decide +kernel
theorem dX5_readHowOften_45 : decode cX5_readHowOften 45 = .ok (.pop, 1) := by decide +kernel
theorem dX5_readHowOften_46 : decode cX5_readHowOften 46 = .ok (.iconst (-1), 1) := by decide +kernel
theorem dX5_readHowOften_47 : decode cX5_readHowOften 47 = .ok (.ireturn, 1) := by decide +kernel
theorem dX5_readHowOften_48 : decode cX5_readHowOften 48 = .ok (.aload_n 0, 1) := by decide +kernel
theorem dX5_readHowOften_49 : decode cX5_readHowOften 49 = .ok (.invokevirtual 56, 3) := by decide +kernel
theorem dX5_readHowOften_52 : decode cX5_readHowOften 52 = .ok (.iload_n 1, 1) := by decide +kernel
theorem dX5_readHowOften_53 : decode cX5_readHowOften 53 = .ok (.ireturn, 1) := by decide +kernel
theorem dX5_passSemicolon_0 : decode cX5_passSemicolon 0 = .ok (.aload_n 0, 1) := by decide +kernel
theorem dX5_passSemicolon_1 : decode cX5_passSemicolon 1 = .ok (.getfield 22, 3) := by decide +kernel
theorem dX5_passSemicolon_4 : decode cX5_passSemicolon 4 = .ok (.iconst 3, 1) := by decide +kernel
theorem dX5_passSemicolon_5 : decode cX5_passSemicolon 5 = .ok (.if_icmp .eq 9, 3) := by decide +kernel
theorem dX5_passSemicolon_8 : decode cX5_passSemicolon 8 = .ok (.aload_n 0, 1) := by decide +kernel
theorem dX5_passSemicolon_9 : decode cX5_passSemicolon 9 = .ok (.iconst 1, 1) := by decide +kernel
theorem dX5_passSemicolon_10 : decode cX5_passSemicolon 10 = .ok (.invokevirtual 66, 3) := by decide +kernel
theorem dX5_passSemicolon_13 : decode cX5_passSemicolon 13 = .ok (.ireturn, 1) := by decide +kernel
theorem dX5_passSemicolon_14 : decode cX5_passSemicolon 14 = .ok (.aload_n 0, 1) := by decide +kernel
theorem dX5_passSemicolon_15 : decode cX5_passSemicolon 15 = .ok (.invokevirtual 56, 3) := by decide +kernel
theorem dX5_passSemicolon_18 : decode cX5_passSemicolon 18 = .ok (.iconst 1, 1) := by decide +kernel
theorem dX5_passSemicolon_19 : decode cX5_passSemicolon 19 = .ok (.ireturn, 1) := by decide +kernel
theorem dX5_fail_0 : decode cX5_fail 0 = .ok (.aload_n 0, 1) := by decide +kernel
theorem dX5_fail_1 : decode cX5_fail 1 = .ok (.iload_n 1, 1) := by decide +kernel
theorem dX5_fail_2 : decode cX5_fail 2 = .ok (.aload_n 0, 1) := by decide +kernel
theorem dX5_fail_3 : decode cX5_fail 3 = .ok (.getfield 25, 3) := by decide +kernel
theorem dX5_fail_6 : decode cX5_fail 6 = .ok (.invokevirtual 89, 3) := by decide +kernel
theorem dX5_fail_9 : decode cX5_fail 9 = .ok (.ireturn, 1) := by decide +kernel
theorem dX5_failAt_0 : decode cX5_failAt 0 = .ok (.aload_n 0, 1) := by decide +kernel
theorem dX5_failAt_1 : decode cX5_failAt 1 = .ok (.iload_n 1, 1) := by decide +kernel
theorem dX5_failAt_2 : decode cX5_failAt 2 = .ok (.putfield 37, 3) := by decide +kernel
theorem dX5_failAt_5 : decode cX5_failAt 5 = .ok (.aload_n 0, 1) := by decide +kernel
theorem dX5_failAt_6 : decode cX5_failAt 6 = .ok (.iload_n 2, 1) := by decide +kernel
theorem dX5_failAt_7 : decode cX5_failAt 7 = .ok (.putfield 40, 3) := by decide +kernel
theorem dX5_failAt_10 : decode cX5_failAt 10 = .ok (.aload_n 0, 1) := by decide +kernel
theorem dX5_failAt_11 : decode cX5_failAt 11 = .ok (.aload_n 0, 1) := by decide +kernel
theorem dX5_failAt_12 : decode cX5_failAt 12 = .ok (.getfield 34, 3) := by decide +kernel
theorem dX5_failAt_15 : decode cX5_failAt 15 = .ok (.putfield 43, 3) := by decide +kernel
theorem dX5_failAt_18 : decode cX5_failAt 18 = .ok (.iconst 0, 1) := by decide +kernel
theorem dX5_failAt_19 : decode cX5_failAt 19 = .ok (.ireturn, 1) := by decide +kernel
theorem dX5_readToken_0 : decode cX5_readToken 0 = .ok (.aload_n 0, 1) := by decide +kernel
theorem dX5_readToken_1 : decode cX5_readToken 1 = .ok (.getfield 12, 3) := by decide +kernel
theorem dX5_readToken_4 : decode cX5_readToken 4 = .ok (.invokevirtual 103, 3) := by decide +kernel
theorem dX5_readToken_7 : decode cX5_readToken 7 = .ok (.sipush 300, 3) := by decide +kernel
theorem dX5_readToken_10 : decode cX5_readToken 10 = .ok (.invokestatic 104, 3) := by decide +kernel
theorem dX5_readToken_13 : decode cX5_readToken 13 = .ok (.istore_n 1, 1) := by decide +kernel
theorem dX5_readToken_14 : decode cX5_readToken 14 = .ok (.aload_n 0, 1) := by decide +kernel
theorem dX5_readToken_15 : decode cX5_readToken 15 = .ok (.getfield 18, 3) := by decide +kernel
theorem dX5_readToken_18 : decode cX5_readToken 18 = .ok (.iload_n 1, 1) := by decide +kernel
theorem dX5_readToken_19 : decode cX5_readToken 19 = .ok (.if_icmp .ge 33, 3) := by decide +kernel
theorem dX5_readToken_22 : decode cX5_readToken 22 = .ok (.aload_n 0, 1) := by decide +kernel
theorem dX5_readToken_23 : decode cX5_readToken 23 = .ok (.getfield 12, 3) := by decide +kernel
theorem dX5_readToken_26 : decode cX5_readToken 26 = .ok (.aload_n 0, 1) := by decide +kernel
theorem dX5_readToken_27 : decode cX5_readToken 27 = .ok (.getfield 18, 3) := by decide +kernel
theorem dX5_readToken_30 : decode cX5_readToken 30 = .ok (.invokevirtual 109, 3) := by decide +kernel
theorem dX5_readToken_33 : decode cX5_readToken 33 = .ok (.invokestatic 113, 3) := by decide +kernel
theorem dX5_readToken_36 : decode cX5_readToken 36 = .ok (.ifCond .eq 16, 3) := by decide +kernel
theorem dX5_readToken_39 : decode cX5_readToken 39 = .ok (.aload_n 0, 1) := by decide +kernel
theorem dX5_readToken_40 : decode cX5_readToken 40 = .ok (.dup, 1) := by decide +kernel
theorem dX5_readToken_41 : decode cX5_readToken 41 = .ok (.getfield 18, 3) := by decide +kernel
theorem dX5_readToken_44 : decode cX5_readToken 44 = .ok (.iconst 1, 1) := by decide +kernel
theorem dX5_readToken_45 : decode cX5_readToken 45 = .ok (.iadd, 1) := by decide +kernel
theorem dX5_readToken_46 : decode cX5_readToken 46 = .ok (.putfield 18, 3) := by decide +kernel
theorem dX5_readToken_49 : decode cX5_readToken 49 = .ok (.goto (-35), 3) := by decide +kernel
theorem dX5_readToken_52 : decode cX5_readToken 52 = .ok (.aload_n 0, 1) := by decide +kernel
theorem dX5_readToken_53 : decode cX5_readToken 53 = .ok (.aload_n 0, 1) := by decide +kernel
theorem dX5_readToken_54 : decode cX5_readToken 54 = .ok (.getfield 18, 3) := by decide +kernel
theorem dX5_readToken_57 : decode cX5_readToken 57 = .ok (.iload_n 1, 1) := by decide +kernel
theorem dX5_readToken_58 : decode cX5_readToken 58 = .ok (.invokestatic 104, 3) := by decide +kernel
theorem dX5_readToken_61 : decode cX5_readToken 61 = .ok (.putfield 25, 3) := by decide +kernel
theorem dX5_readToken_64 : decode cX5_readToken 64 = .ok (.aload_n 0, 1) := by decide +kernel
theorem dX5_readToken_65 : decode cX5_readToken 65 = .ok (.getfield 18, 3) := by decide +kernel
theorem dX5_readToken_68 : decode cX5_readToken 68 = .ok (.iload_n 1, 1) := by decide +kernel
theorem dX5_readToken_69 : decode cX5_readToken 69 = .ok (.if_icmp .lt 26, 3) := by decide +kernel
theorem dX5_readToken_72 : decode cX5_readToken 72 = .ok (.aload_n 0, 1) := by decide +kernel
theorem dX5_readToken_73 : decode cX5_readToken 73 = .ok (.aload_n 0, 1) := by decide +kernel
theorem dX5_readToken_74 : decode cX5_readToken 74 = .ok (.getfield 12, 3) := by decide +kernel
theorem dX5_readToken_77 : decode cX5_readToken 77 = .ok (.invokevirtual 103, 3) := by decide +kernel
theorem dX5_readToken_80 : decode cX5_readToken 80 = .ok (.sipush 300, 3) := by decide +kernel
theorem dX5_readToken_83 : decode cX5_readToken 83 = .ok (.if_icmp .le 7, 3) := by decide +kernel
theorem dX5_readToken_86 : decode cX5_readToken 86 = .ok (.iconst 1, 1) := by decide +kernel
theorem dX5_readToken_87 : decode cX5_readToken 87 = .ok (.goto 4, 3) := by decide +kernel
theorem dX5_readToken_90 : decode cX5_readToken 90 = .ok (.iconst 0, 1) := by decide +kernel
theorem dX5_readToken_91 : decode cX5_readToken 91 = .ok (.putfield 22, 3) := by decide +kernel
theorem dX5_readToken_94 : decode cX5_readToken 94 = .ok (.return_, 1) := by decide +kernel
theorem dX5_readToken_95 : decode cX5_readToken 95 = .ok (.aload_n 0, 1) := by decide +kernel
theorem dX5_readToken_96 : decode cX5_readToken 96 = .ok (.getfield 12, 3) := by decide +kernel
theorem dX5_readToken_99 : decode cX5_readToken 99 = .ok (.aload_n 0, 1) := by decide +kernel
theorem dX5_readToken_100 : decode cX5_readToken 100 = .ok (.getfield 18, 3) := by decide +kernel
theorem dX5_readToken_103 : decode cX5_readToken 103 = .ok (.invokevirtual 109, 3) := by decide +kernel
theorem dX5_readToken_106 : decode cX5_readToken 106 = .ok (.bipush 59, 2) := by decide +kernel
theorem dX5_readToken_108 : decode cX5_readToken 108 = .ok (.if_icmp .ne 19, 3) := by decide +kernel
theorem dX5_readToken_111 : decode cX5_readToken 111 = .ok (.aload_n 0, 1) := by decide +kernel
theorem dX5_readToken_112 : decode cX5_readToken 112 = .ok (.iconst 3, 1) := by decide +kernel
theorem dX5_readToken_113 : decode cX5_readToken 113 = .ok (.putfield 22, 3) := by decide +kernel
theorem dX5_readToken_116 : decode cX5_readToken 116 = .ok (.aload_n 0, 1) := by decide +kernel
theorem dX5_readToken_117 : decode cX5_readToken 117 = .ok (.dup, 1) := by decide +kernel
theorem dX5_readToken_118 : decode cX5_readToken 118 = .ok (.getfield 18, 3) := by decide +kernel
theorem dX5_readToken_121 : decode cX5_readToken 121 = .ok (.iconst 1, 1) := by decide +kernel
theorem dX5_readToken_122 : decode cX5_readToken 122 = .ok (.iadd, 1) := by decide +kernel
theorem dX5_readToken_123 : decode cX5_readToken 123 = .ok (.putfield 18, 3) := by decide +kernel
theorem dX5_readToken_126 : decode cX5_readToken 126 = .ok (.return_, 1) := by decide +kernel
theorem dX5_readToken_127 : decode cX5_readToken 127 = .ok (.aload_n 0, 1) := by decide +kernel
theorem dX5_readToken_128 : decode cX5_readToken 128 = .ok (.getfield 18, 3) := by decide +kernel
theorem dX5_readToken_131 : decode cX5_readToken 131 = .ok (.aload_n 0, 1) := by decide +kernel
theorem dX5_readToken_132 : decode cX5_readToken 132 = .ok (.getfield 12, 3) := by decide +kernel
theorem dX5_readToken_135 : decode cX5_readToken 135 = .ok (.invokevirtual 103, 3) := by decide +kernel
theorem dX5_readToken_138 : decode cX5_readToken 138 = .ok (.if_icmp .ge 33, 3) := by decide +kernel
theorem dX5_readToken_141 : decode cX5_readToken 141 = .ok (.aload_n 0, 1) := by decide +kernel
theorem dX5_readToken_142 : decode cX5_readToken 142 = .ok (.getfield 12, 3) := by decide +kernel
theorem dX5_readToken_145 : decode cX5_readToken 145 = .ok (.aload_n 0, 1) := by decide +kernel
theorem dX5_readToken_146 : decode cX5_readToken 146 = .ok (.getfield 18, 3) := by decide +kernel
theorem dX5_readToken_149 : decode cX5_readToken 149 = .ok (.invokevirtual 109, 3) := by decide +kernel
theorem dX5_readToken_152 : decode cX5_readToken 152 = .ok (.invokestatic 116, 3) := by decide +kernel
theorem dX5_readToken_155 : decode cX5_readToken 155 = .ok (.ifCond .eq 16, 3) := by decide +kernel
theorem dX5_readToken_158 : decode cX5_readToken 158 = .ok (.aload_n 0, 1) := by decide +kernel
theorem dX5_readToken_159 : decode cX5_readToken 159 = .ok (.dup, 1) := by decide +kernel
theorem dX5_readToken_160 : decode cX5_readToken 160 = .ok (.getfield 18, 3) := by decide +kernel
theorem dX5_readToken_163 : decode cX5_readToken 163 = .ok (.iconst 1, 1) := by decide +kernel
theorem dX5_readToken_164 : decode cX5_readToken 164 = .ok (.iadd, 1) := by decide +kernel
theorem dX5_readToken_165 : decode cX5_readToken 165 = .ok (.putfield 18, 3) := by decide +kernel
theorem dX5_readToken_168 : decode cX5_readToken 168 = .ok (.goto (-41), 3) := by decide +kernel
theorem dX5_readToken_171 : decode cX5_readToken 171 = .ok (.aload_n 0, 1) := by decide +kernel
theorem dX5_readToken_172 : decode cX5_readToken 172 = .ok (.invokevirtual 119, 3) := by decide +kernel
theorem dX5_readToken_175 : decode cX5_readToken 175 = .ok (.ifCond .eq 11, 3) := by decide +kernel
theorem dX5_readToken_178 : decode cX5_readToken 178 = .ok (.aload_n 0, 1) := by decide +kernel
theorem dX5_readToken_179 : decode cX5_readToken 179 = .ok (.iconst 2, 1) := by decide +kernel
theorem dX5_readToken_180 : decode cX5_readToken 180 = .ok (.putfield 22, 3) := by decide +kernel
theorem dX5_readToken_183 : decode cX5_readToken 183 = .ok (.goto 56, 3) := by decide +kernel
theorem dX5_readToken_186 : decode cX5_readToken 186 = .ok (.aload_n 0, 1) := by decide +kernel
theorem dX5_readToken_187 : decode cX5_readToken 187 = .ok (.ldc 122, 2) := by decide +kernel
theorem dX5_readToken_189 : decode cX5_readToken 189 = .ok (.invokevirtual 124, 3) := by decide +kernel
theorem dX5_readToken_192 : decode cX5_readToken 192 = .ok (.ifCond .eq 11, 3) := by decide +kernel
theorem dX5_readToken_195 : decode cX5_readToken 195 = .ok (.aload_n 0, 1) := by decide +kernel
theorem dX5_readToken_196 : decode cX5_readToken 196 = .ok (.iconst 4, 1) := by decide +kernel
theorem dX5_readToken_197 : decode cX5_readToken 197 = .ok (.putfield 22, 3) := by decide +kernel
theorem dX5_readToken_200 : decode cX5_readToken 200 = .ok (.goto 39, 3) := by decide +kernel
theorem dX5_readToken_203 : decode cX5_readToken 203 = .ok (.aload_n 0, 1) := by decide +kernel
theorem dX5_readToken_204 : decode cX5_readToken 204 = .ok (.ldc 128, 2) := by decide +kernel
theorem dX5_readToken_206 : decode cX5_readToken 206 = .ok (.invokevirtual 124, 3) := by decide +kernel
theorem dX5_readToken_209 : decode cX5_readToken 209 = .ok (.ifCond .eq 11, 3) := by decide +kernel
theorem dX5_readToken_212 : decode cX5_readToken 212 = .ok (.aload_n 0, 1) := by decide +kernel
theorem dX5_readToken_213 : decode cX5_readToken 213 = .ok (.iconst 5, 1) := by decide +kernel
theorem dX5_readToken_214 : decode cX5_readToken 214 = .ok (.putfield 22, 3) := by decide +kernel
theorem dX5_readToken_217 : decode cX5_readToken 217 = .ok (.goto 22, 3) := by decide +kernel
theorem dX5_readToken_220 : decode cX5_readToken 220 = .ok (.aload_n 0, 1) := by decide +kernel
theorem dX5_readToken_221 : decode cX5_readToken 221 = .ok (.aload_n 0, 1) := by decide +kernel
theorem dX5_readToken_222 : decode cX5_readToken 222 = .ok (.ldc 130, 2) := by decide +kernel
theorem dX5_readToken_224 : decode cX5_readToken 224 = .ok (.invokevirtual 124, 3) := by decide +kernel
theorem dX5_readToken_227 : decode cX5_readToken 227 = .ok (.ifCond .eq 8, 3) := by decide +kernel
theorem dX5_readToken_230 : decode cX5_readToken 230 = .ok (.bipush 6, 2) := by decide +kernel
theorem dX5_readToken_232 : decode cX5_readToken 232 = .ok (.goto 4, 3) := by decide +kernel
theorem dX5_readToken_235 : decode cX5_readToken 235 = .ok (.iconst 1, 1) := by decide +kernel
theorem dX5_readToken_236 : decode cX5_readToken 236 = .ok (.putfield 22, 3) := by decide +kernel
theorem dX5_readToken_239 : decode cX5_readToken 239 = .ok (.return_, 1) := by decide +kernel
theorem dX5_isNumber_0 : decode cX5_isNumber 0 = .ok (.aload_n 0, 1) := by decide +kernel
theorem dX5_isNumber_1 : decode cX5_isNumber 1 = .ok (.getfield 18, 3) := by decide +kernel
theorem dX5_isNumber_4 : decode cX5_isNumber 4 = .ok (.aload_n 0, 1) := by decide +kernel
theorem dX5_isNumber_5 : decode cX5_isNumber 5 = .ok (.getfield 25, 3) := by decide +kernel
theorem dX5_isNumber_8 : decode cX5_isNumber 8 = .ok (.isub, 1) := by decide +kernel
theorem dX5_isNumber_9 : decode cX5_isNumber 9 = .ok (.istore_n 1, 1) := by decide +kernel
theorem dX5_isNumber_10 : decode cX5_isNumber 10 = .ok (.iload_n 1, 1) := by decide +kernel
theorem dX5_isNumber_11 : decode cX5_isNumber 11 = .ok (.iconst 1, 1) := by decide +kernel
theorem dX5_isNumber_12 : decode cX5_isNumber 12 = .ok (.if_icmp .lt 8, 3) := by decide +kernel
theorem dX5_isNumber_15 : decode cX5_isNumber 15 = .ok (.iload_n 1, 1) := by decide +kernel
theorem dX5_isNumber_16 : decode cX5_isNumber 16 = .ok (.iconst 2, 1) := by decide +kernel
theorem dX5_isNumber_17 : decode cX5_isNumber 17 = .ok (.if_icmp .le 5, 3) := by decide +kernel
theorem dX5_isNumber_20 : decode cX5_isNumber 20 = .ok (.iconst 0, 1) := by decide +kernel
theorem dX5_isNumber_21 : decode cX5_isNumber 21 = .ok (.ireturn, 1) := by decide +kernel
theorem dX5_isNumber_22 : decode cX5_isNumber 22 = .ok (.aload_n 0, 1) := by decide +kernel
theorem dX5_isNumber_23 : decode cX5_isNumber 23 = .ok (.iconst 0, 1) := by decide +kernel
theorem dX5_isNumber_24 : decode cX5_isNumber 24 = .ok (.putfield 28, 3) := by decide +kernel
theorem dX5_isNumber_27 : decode cX5_isNumber 27 = .ok (.aload_n 0, 1) := by decide +kernel
theorem dX5_isNumber_28 : decode cX5_isNumber 28 = .ok (.getfield 25, 3) := by decide +kernel
theorem dX5_isNumber_31 : decode cX5_isNumber 31 = .ok (.istore_n 2, 1) := by decide +kernel
theorem dX5_isNumber_32 : decode cX5_isNumber 32 = .ok (.iload_n 2, 1) := by decide +kernel
theorem dX5_isNumber_33 : decode cX5_isNumber 33 = .ok (.aload_n 0, 1) := by decide +kernel
theorem dX5_isNumber_34 : decode cX5_isNumber 34 = .ok (.getfield 18, 3) := by decide +kernel
theorem dX5_isNumber_37 : decode cX5_isNumber 37 = .ok (.if_icmp .ge 48, 3) := by decide +kernel
theorem dX5_isNumber_40 : decode cX5_isNumber 40 = .ok (.aload_n 0, 1) := by decide +kernel
theorem dX5_isNumber_41 : decode cX5_isNumber 41 = .ok (.getfield 12, 3) := by decide +kernel
theorem dX5_isNumber_44 : decode cX5_isNumber 44 = .ok (.iload_n 2, 1) := by decide +kernel
theorem dX5_isNumber_45 : decode cX5_isNumber 45 = .ok (.invokevirtual 109, 3) := by decide +kernel
theorem dX5_isNumber_48 : decode cX5_isNumber 48 = .ok (.invokestatic 132, 3) := by decide +kernel
theorem dX5_isNumber_51 : decode cX5_isNumber 51 = .ok (.ifCond .ne 5, 3) := by decide +kernel
theorem dX5_isNumber_54 : decode cX5_isNumber 54 = .ok (.iconst 0, 1) := by decide +kernel
theorem dX5_isNumber_55 : decode cX5_isNumber 55 = .ok (.ireturn, 1) := by decide +kernel
theorem dX5_isNumber_56 : decode cX5_isNumber 56 = .ok (.aload_n 0, 1) := by decide +kernel
theorem dX5_isNumber_57 : decode cX5_isNumber 57 = .ok (.aload_n 0, 1) := by decide +kernel
theorem dX5_isNumber_58 : decode cX5_isNumber 58 = .ok (.getfield 28, 3) := by decide +kernel
theorem dX5_isNumber_61 : decode cX5_isNumber 61 = .ok (.bipush 10, 2) := by decide +kernel
theorem dX5_isNumber_63 : decode cX5_isNumber 63 = .ok (.imul, 1) := by decide +kernel
theorem dX5_isNumber_64 : decode cX5_isNumber 64 = .ok (.aload_n 0, 1) := by decide +kernel
theorem dX5_isNumber_65 : decode cX5_isNumber 65 = .ok (.getfield 12, 3) := by decide +kernel
theorem dX5_isNumber_68 : decode cX5_isNumber 68 = .ok (.iload_n 2, 1) := by decide +kernel
theorem dX5_isNumber_69 : decode cX5_isNumber 69 = .ok (.invokevirtual 109, 3) := by decide +kernel
theorem dX5_isNumber_72 : decode cX5_isNumber 72 = .ok (.bipush 48, 2) := by decide +kernel
theorem dX5_isNumber_74 : decode cX5_isNumber 74 = .ok (.isub, 1) := by decide +kernel
theorem dX5_isNumber_75 : decode cX5_isNumber 75 = .ok (.iadd, 1) := by decide +kernel
theorem dX5_isNumber_76 : decode cX5_isNumber 76 = .ok (.putfield 28, 3) := by decide +kernel
theorem dX5_isNumber_79 : decode cX5_isNumber 79 = .ok (.iinc 2 1, 3) := by decide +kernel
theorem dX5_isNumber_82 : decode cX5_isNumber 82 = .ok (.goto (-50), 3) := by decide +kernel
theorem dX5_isNumber_85 : decode cX5_isNumber 85 = .ok (.iconst 1, 1) := by decide +kernel
theorem dX5_isNumber_86 : decode cX5_isNumber 86 = .ok (.ireturn, 1) := by decide +kernel
theorem dX5_spells_0 : decode cX5_spells 0 = .ok (.aload_n 0, 1) := by decide +kernel
theorem dX5_spells_1 : decode cX5_spells 1 = .ok (.getfield 18, 3) := by decide +kernel
theorem dX5_spells_4 : decode cX5_spells 4 = .ok (.aload_n 0, 1) := by decide +kernel
theorem dX5_spells_5 : decode cX5_spells 5 = .ok (.getfield 25, 3) := by decide +kernel
theorem dX5_spells_8 : decode cX5_spells 8 = .ok (.isub, 1) := by decide +kernel
theorem dX5_spells_9 : decode cX5_spells 9 = .ok (.aload_n 1, 1) := by decide +kernel
theorem dX5_spells_10 : decode cX5_spells 10 = .ok (.invokevirtual 135, 3) := by decide +kernel
theorem dX5_spells_13 : decode cX5_spells 13 = .ok (.if_icmp .eq 5, 3) := by decide +kernel
theorem dX5_spells_16 : decode cX5_spells 16 = .ok (.iconst 0, 1) := by decide +kernel
theorem dX5_spells_17 : decode cX5_spells 17 = .ok (.ireturn, 1) := by decide +kernel
theorem dX5_spells_18 : decode cX5_spells 18 = .ok (.iconst 0, 1) := by decide +kernel
theorem dX5_spells_19 : decode cX5_spells 19 = .ok (.istore_n 2, 1) := by decide +kernel
theorem dX5_spells_20 : decode cX5_spells 20 = .ok (.iload_n 2, 1) := by decide +kernel
theorem dX5_spells_21 : decode cX5_spells 21 = .ok (.aload_n 1, 1) := by decide +kernel
theorem dX5_spells_22 : decode cX5_spells 22 = .ok (.invokevirtual 135, 3) := by decide +kernel
theorem dX5_spells_25 : decode cX5_spells 25 = .ok (.if_icmp .ge 32, 3) := by decide +kernel
theorem dX5_spells_28 : decode cX5_spells 28 = .ok (.aload_n 0, 1) := by decide +kernel
theorem dX5_spells_29 : decode cX5_spells 29 = .ok (.getfield 12, 3) := by decide +kernel
theorem dX5_spells_32 : decode cX5_spells 32 = .ok (.aload_n 0, 1) := by decide +kernel
theorem dX5_spells_33 : decode cX5_spells 33 = .ok (.getfield 25, 3) := by decide +kernel
theorem dX5_spells_36 : decode cX5_spells 36 = .ok (.iload_n 2, 1) := by decide +kernel
theorem dX5_spells_37 : decode cX5_spells 37 = .ok (.iadd, 1) := by decide +kernel
theorem dX5_spells_38 : decode cX5_spells 38 = .ok (.invokevirtual 109, 3) := by decide +kernel
theorem dX5_spells_41 : decode cX5_spells 41 = .ok (.aload_n 1, 1) := by decide +kernel
theorem dX5_spells_42 : decode cX5_spells 42 = .ok (.iload_n 2, 1) := by decide +kernel
theorem dX5_spells_43 : decode cX5_spells 43 = .ok (.invokevirtual 138, 3) := by decide +kernel
theorem dX5_spells_46 : decode cX5_spells 46 = .ok (.if_icmp .eq 5, 3) := by decide +kernel
theorem dX5_spells_49 : decode cX5_spells 49 = .ok (.iconst 0, 1) := by decide +kernel
theorem dX5_spells_50 : decode cX5_spells 50 = .ok (.ireturn, 1) := by decide +kernel
theorem dX5_spells_51 : decode cX5_spells 51 = .ok (.iinc 2 1, 3) := by decide +kernel
theorem dX5_spells_54 : decode cX5_spells 54 = .ok (.goto (-34), 3) := by decide +kernel
theorem dX5_spells_57 : decode cX5_spells 57 = .ok (.iconst 1, 1) := by decide +kernel
theorem dX5_spells_58 : decode cX5_spells 58 = .ok (.ireturn, 1) := by decide +kernel
theorem dX5_isBlank_0 : decode cX5_isBlank 0 = .ok (.iload_n 0, 1) := by decide +kernel
theorem dX5_isBlank_1 : decode cX5_isBlank 1 = .ok (.bipush 32, 2) := by decide +kernel
theorem dX5_isBlank_3 : decode cX5_isBlank 3 = .ok (.if_icmp .eq 9, 3) := by decide +kernel
theorem dX5_isBlank_6 : decode cX5_isBlank 6 = .ok (.iload_n 0, 1) := by decide +kernel
theorem dX5_isBlank_7 : decode cX5_isBlank 7 = .ok (.bipush 10, 2) := by decide +kernel
theorem dX5_isBlank_9 : decode cX5_isBlank 9 = .ok (.if_icmp .ne 7, 3) := by decide +kernel
theorem dX5_isBlank_12 : decode cX5_isBlank 12 = .ok (.iconst 1, 1) := by decide +kernel
theorem dX5_isBlank_13 : decode cX5_isBlank 13 = .ok (.goto 4, 3) := by decide +kernel
theorem dX5_isBlank_16 : decode cX5_isBlank 16 = .ok (.iconst 0, 1) := by decide +kernel
theorem dX5_isBlank_17 : decode cX5_isBlank 17 = .ok (.ireturn, 1) := by decide +kernel
theorem dX5_isLetterOrDigit_0 : decode cX5_isLetterOrDigit 0 = .ok (.iload_n 0, 1) := by decide +kernel
theorem dX5_isLetterOrDigit_1 : decode cX5_isLetterOrDigit 1 = .ok (.bipush 97, 2) := by decide +kernel
theorem dX5_isLetterOrDigit_3 : decode cX5_isLetterOrDigit 3 = .ok (.if_icmp .lt 9, 3) := by decide +kernel
theorem dX5_isLetterOrDigit_6 : decode cX5_isLetterOrDigit 6 = .ok (.iload_n 0, 1) := by decide +kernel
theorem dX5_isLetterOrDigit_7 : decode cX5_isLetterOrDigit 7 = .ok (.bipush 122, 2) := by decide +kernel
theorem dX5_isLetterOrDigit_9 : decode cX5_isLetterOrDigit 9 = .ok (.if_icmp .le 15, 3) := by decide +kernel
theorem dX5_isLetterOrDigit_12 : decode cX5_isLetterOrDigit 12 = .ok (.iload_n 0, 1) := by decide +kernel
theorem dX5_isLetterOrDigit_13 : decode cX5_isLetterOrDigit 13 = .ok (.bipush 48, 2) := by decide +kernel
theorem dX5_isLetterOrDigit_15 : decode cX5_isLetterOrDigit 15 = .ok (.if_icmp .lt 13, 3) := by decide +kernel
theorem dX5_isLetterOrDigit_18 : decode cX5_isLetterOrDigit 18 = .ok (.iload_n 0, 1) := by decide +kernel
theorem dX5_isLetterOrDigit_19 : decode cX5_isLetterOrDigit 19 = .ok (.bipush 57, 2) := by decide +kernel
theorem dX5_isLetterOrDigit_21 : decode cX5_isLetterOrDigit 21 = .ok (.if_icmp .gt 7, 3) := by decide +kernel
theorem dX5_isLetterOrDigit_24 : decode cX5_isLetterOrDigit 24 = .ok (.iconst 1, 1) := by decide +kernel
theorem dX5_isLetterOrDigit_25 : decode cX5_isLetterOrDigit 25 = .ok (.goto 4, 3) := by decide +kernel
theorem dX5_isLetterOrDigit_28 : decode cX5_isLetterOrDigit 28 = .ok (.iconst 0, 1) := by decide +kernel
theorem dX5_isLetterOrDigit_29 : decode cX5_isLetterOrDigit 29 = .ok (.ireturn, 1) := by decide +kernel
theorem dX5_isDigit_0 : decode cX5_isDigit 0 = .ok (.iload_n 0, 1) := by decide +kernel
theorem dX5_isDigit_1 : decode cX5_isDigit 1 = .ok (.bipush 48, 2) := by decide +kernel
theorem dX5_isDigit_3 : decode cX5_isDigit 3 = .ok (.if_icmp .lt 13, 3) := by decide +kernel
theorem dX5_isDigit_6 : decode cX5_isDigit 6 = .ok (.iload_n 0, 1) := by decide +kernel
theorem dX5_isDigit_7 : decode cX5_isDigit 7 = .ok (.bipush 57, 2) := by decide +kernel
theorem dX5_isDigit_9 : decode cX5_isDigit 9 = .ok (.if_icmp .gt 7, 3) := by decide +kernel
theorem dX5_isDigit_12 : decode cX5_isDigit 12 = .ok (.iconst 1, 1) := by decide +kernel
theorem dX5_isDigit_13 : decode cX5_isDigit 13 = .ok (.goto 4, 3) := by decide +kernel
theorem dX5_isDigit_16 : decode cX5_isDigit 16 = .ok (.iconst 0, 1) := by decide +kernel
theorem dX5_isDigit_17 : decode cX5_isDigit 17 = .ok (.ireturn, 1) := by decide +kernel
theorem dX6_init_0 : decode cX6_init 0 = .ok (.aload_n 0, 1) := by decide +kernel
theorem dX6_init_1 : decode cX6_init 1 = .ok (.invokespecial 3, 3) := by decide +kernel
theorem dX6_init_4 : decode cX6_init 4 = .ok (.aload_n 0, 1) := by decide +kernel
theorem dX6_init_5 : decode cX6_init 5 = .ok (.bipush 12, 2) := by decide +kernel
theorem dX6_init_7 : decode cX6_init 7 = .ok (.newarray .int, 2) := by decide +kernel
theorem dX6_init_9 : decode cX6_init 9 = .ok (.putfield 9, 3) := by decide +kernel
theorem dX6_init_12 : decode cX6_init 12 = .ok (.aload_n 0, 1) := by decide +kernel
theorem dX6_init_13 : decode cX6_init 13 = .ok (.iconst 0, 1) := by decide +kernel
theorem dX6_init_14 : decode cX6_init 14 = .ok (.putfield 15, 3) := by decide +kernel
theorem dX6_init_17 : decode cX6_init 17 = .ok (.return_, 1) := by decide +kernel
theorem dX6_length_0 : decode cX6_length 0 = .ok (.aload_n 0, 1) := by decide +kernel
theorem dX6_length_1 : decode cX6_length 1 = .ok (.getfield 15, 3) := by decide +kernel
theorem dX6_length_4 : decode cX6_length 4 = .ok (.ireturn, 1) := by decide +kernel
theorem dX6_has_0 : decode cX6_has 0 = .ok (.iload_n 1, 1) := by decide +kernel
theorem dX6_has_1 : decode cX6_has 1 = .ok (.ifCond .lt 21, 3) := by decide +kernel
theorem dX6_has_4 : decode cX6_has 4 = .ok (.iload_n 1, 1) := by decide +kernel
theorem dX6_has_5 : decode cX6_has 5 = .ok (.aload_n 0, 1) := by decide +kernel
theorem dX6_has_6 : decode cX6_has 6 = .ok (.getfield 15, 3) := by decide +kernel
theorem dX6_has_9 : decode cX6_has 9 = .ok (.if_icmp .ge 13, 3) := by decide +kernel
theorem dX6_has_12 : decode cX6_has 12 = .ok (.iload_n 1, 1) := by decide +kernel
theorem dX6_has_13 : decode cX6_has 13 = .ok (.bipush 12, 2) := by decide +kernel
theorem dX6_has_15 : decode cX6_has 15 = .ok (.if_icmp .ge 7, 3) := by decide +kernel
theorem dX6_has_18 : decode cX6_has 18 = .ok (.iconst 1, 1) := by decide +kernel
theorem dX6_has_19 : decode cX6_has 19 = .ok (.goto 4, 3) := by decide +kernel
theorem dX6_has_22 : decode cX6_has 22 = .ok (.iconst 0, 1) := by decide +kernel
theorem dX6_has_23 : decode cX6_has 23 = .ok (.ireturn, 1) := by decide +kernel
theorem dX6_isFull_0 : decode cX6_isFull 0 = .ok (.aload_n 0, 1) := by decide +kernel
theorem dX6_isFull_1 : decode cX6_isFull 1 = .ok (.getfield 15, 3) := by decide +kernel
theorem dX6_isFull_4 : decode cX6_isFull 4 = .ok (.bipush 12, 2) := by decide +kernel
theorem dX6_isFull_6 : decode cX6_isFull 6 = .ok (.if_icmp .lt 7, 3) := by decide +kernel
theorem dX6_isFull_9 : decode cX6_isFull 9 = .ok (.iconst 1, 1) := by decide +kernel
theorem dX6_isFull_10 : decode cX6_isFull 10 = .ok (.goto 4, 3) := by decide +kernel
theorem dX6_isFull_13 : decode cX6_isFull 13 = .ok (.iconst 0, 1) := by decide +kernel
theorem dX6_isFull_14 : decode cX6_isFull 14 = .ok (.ireturn, 1) := by decide +kernel
theorem dX6_elementAt_0 : decode cX6_elementAt 0 = .ok (.aload_n 0, 1) := by decide +kernel
theorem dX6_elementAt_1 : decode cX6_elementAt 1 = .ok (.iload_n 1, 1) := by decide +kernel
theorem dX6_elementAt_2 : decode cX6_elementAt 2 = .ok (.invokevirtual 19, 3) := by decide +kernel
theorem dX6_elementAt_5 : decode cX6_elementAt 5 = .ok (.ifCond .eq 12, 3) := by decide +kernel
theorem dX6_elementAt_8 : decode cX6_elementAt 8 = .ok (.aload_n 0, 1) := by decide +kernel
theorem dX6_elementAt_9 : decode cX6_elementAt 9 = .ok (.getfield 9, 3) := by decide +kernel
theorem dX6_elementAt_12 : decode cX6_elementAt 12 = .ok (.iload_n 1, 1) := by decide +kernel
theorem dX6_elementAt_13 : decode cX6_elementAt 13 = .ok (.iaload, 1) := by decide +kernel
theorem dX6_elementAt_14 : decode cX6_elementAt 14 = .ok (.goto 4, 3) := by decide +kernel
theorem dX6_elementAt_17 : decode cX6_elementAt 17 = .ok (.iconst (-1), 1) := by decide +kernel
theorem dX6_elementAt_18 : decode cX6_elementAt 18 = .ok (.ireturn, 1) := by decide +kernel
theorem dX6_wholeSet_0 : decode cX6_wholeSet 0 = .ok (.iconst 1, 1) := by decide +kernel
theorem dX6_wholeSet_1 : decode cX6_wholeSet 1 = .ok (.aload_n 0, 1) := by decide +kernel
theorem dX6_wholeSet_2 : decode cX6_wholeSet 2 = .ok (.getfield 15, 3) := by decide +kernel
theorem dX6_wholeSet_5 : decode cX6_wholeSet 5 = .ok (.ishl, 1) := by decide +kernel
theorem dX6_wholeSet_6 : decode cX6_wholeSet 6 = .ok (.iconst 1, 1) := by decide +kernel
theorem dX6_wholeSet_7 : decode cX6_wholeSet 7 = .ok (.isub, 1) := by decide +kernel
theorem dX6_wholeSet_8 : decode cX6_wholeSet 8 = .ok (.ireturn, 1) := by decide +kernel
theorem dX6_clear_0 : decode cX6_clear 0 = .ok (.aload_n 0, 1) := by decide +kernel
theorem dX6_clear_1 : decode cX6_clear 1 = .ok (.iconst 0, 1) := by decide +kernel
theorem dX6_clear_2 : decode cX6_clear 2 = .ok (.putfield 15, 3) := by decide +kernel
theorem dX6_clear_5 : decode cX6_clear 5 = .ok (.return_, 1) := by decide +kernel
theorem dX6_copyFrom_0 : decode cX6_copyFrom 0 = .ok (.aload_n 0, 1) := by decide +kernel
theorem dX6_copyFrom_1 : decode cX6_copyFrom 1 = .ok (.aload_n 1, 1) := by decide +kernel
theorem dX6_copyFrom_2 : decode cX6_copyFrom 2 = .ok (.getfield 15, 3) := by decide +kernel
theorem dX6_copyFrom_5 : decode cX6_copyFrom 5 = .ok (.putfield 15, 3) := by decide +kernel
theorem dX6_copyFrom_8 : decode cX6_copyFrom 8 = .ok (.iconst 0, 1) := by decide +kernel
theorem dX6_copyFrom_9 : decode cX6_copyFrom 9 = .ok (.istore_n 2, 1) := by decide +kernel
theorem dX6_copyFrom_10 : decode cX6_copyFrom 10 = .ok (.iload_n 2, 1) := by decide +kernel
theorem dX6_copyFrom_11 : decode cX6_copyFrom 11 = .ok (.aload_n 0, 1) := by decide +kernel
theorem dX6_copyFrom_12 : decode cX6_copyFrom 12 = .ok (.getfield 15, 3) := by decide +kernel
theorem dX6_copyFrom_15 : decode cX6_copyFrom 15 = .ok (.if_icmp .ge 27, 3) := by decide +kernel
theorem dX6_copyFrom_18 : decode cX6_copyFrom 18 = .ok (.iload_n 2, 1) := by decide +kernel
theorem dX6_copyFrom_19 : decode cX6_copyFrom 19 = .ok (.bipush 12, 2) := by decide +kernel
theorem dX6_copyFrom_21 : decode cX6_copyFrom 21 = .ok (.if_icmp .ge 21, 3) := by decide +kernel
theorem dX6_copyFrom_24 : decode cX6_copyFrom 24 = .ok (.aload_n 0, 1) := by decide +kernel
theorem dX6_copyFrom_25 : decode cX6_copyFrom 25 = .ok (.getfield 9, 3) := by decide +kernel
theorem dX6_copyFrom_28 : decode cX6_copyFrom 28 = .ok (.iload_n 2, 1) := by decide +kernel
theorem dX6_copyFrom_29 : decode cX6_copyFrom 29 = .ok (.aload_n 1, 1) := by decide +kernel
theorem dX6_copyFrom_30 : decode cX6_copyFrom 30 = .ok (.getfield 9, 3) := by decide +kernel
theorem dX6_copyFrom_33 : decode cX6_copyFrom 33 = .ok (.iload_n 2, 1) := by decide +kernel
theorem dX6_copyFrom_34 : decode cX6_copyFrom 34 = .ok (.iaload, 1) := by decide +kernel
theorem dX6_copyFrom_35 : decode cX6_copyFrom 35 = .ok (.iastore, 1) := by decide +kernel
theorem dX6_copyFrom_36 : decode cX6_copyFrom 36 = .ok (.iinc 2 1, 3) := by decide +kernel
theorem dX6_copyFrom_39 : decode cX6_copyFrom 39 = .ok (.goto (-29), 3) := by decide +kernel
theorem dX6_copyFrom_42 : decode cX6_copyFrom 42 = .ok (.return_, 1) := by decide +kernel
theorem dX6_append_0 : decode cX6_append 0 = .ok (.aload_n 0, 1) := by decide +kernel
theorem dX6_append_1 : decode cX6_append 1 = .ok (.getfield 15, 3) := by decide +kernel
theorem dX6_append_4 : decode cX6_append 4 = .ok (.ifCond .lt 12, 3) := by decide +kernel
theorem dX6_append_7 : decode cX6_append 7 = .ok (.aload_n 0, 1) := by decide +kernel
theorem dX6_append_8 : decode cX6_append 8 = .ok (.getfield 15, 3) := by decide +kernel
theorem dX6_append_11 : decode cX6_append 11 = .ok (.bipush 12, 2) := by decide +kernel
theorem dX6_append_13 : decode cX6_append 13 = .ok (.if_icmp .lt 5, 3) := by decide +kernel
theorem dX6_append_16 : decode cX6_append 16 = .ok (.iconst 0, 1) := by decide +kernel
theorem dX6_append_17 : decode cX6_append 17 = .ok (.ireturn, 1) := by decide +kernel
theorem dX6_append_18 : decode cX6_append 18 = .ok (.aload_n 0, 1) := by decide +kernel
theorem dX6_append_19 : decode cX6_append 19 = .ok (.getfield 9, 3) := by decide +kernel
theorem dX6_append_22 : decode cX6_append 22 = .ok (.aload_n 0, 1) := by decide +kernel
theorem dX6_append_23 : decode cX6_append 23 = .ok (.getfield 15, 3) := by decide +kernel
theorem dX6_append_26 : decode cX6_append 26 = .ok (.iload_n 1, 1) := by decide +kernel
theorem dX6_append_27 : decode cX6_append 27 = .ok (.iastore, 1) := by decide +kernel
theorem dX6_append_28 : decode cX6_append 28 = .ok (.aload_n 0, 1) := by decide +kernel
theorem dX6_append_29 : decode cX6_append 29 = .ok (.dup, 1) := by decide +kernel
theorem dX6_append_30 : decode cX6_append 30 = .ok (.getfield 15, 3) := by decide +kernel
theorem dX6_append_33 : decode cX6_append 33 = .ok (.iconst 1, 1) := by decide +kernel
theorem dX6_append_34 : decode cX6_append 34 = .ok (.iadd, 1) := by decide +kernel
theorem dX6_append_35 : decode cX6_append 35 = .ok (.putfield 15, 3) := by decide +kernel
theorem dX6_append_38 : decode cX6_append 38 = .ok (.iconst 1, 1) := by decide +kernel
theorem dX6_append_39 : decode cX6_append 39 = .ok (.ireturn, 1) := by decide +kernel
theorem dX6_remove_0 : decode cX6_remove 0 = .ok (.aload_n 0, 1) := by decide +kernel
theorem dX6_remove_1 : decode cX6_remove 1 = .ok (.iload_n 1, 1) := by decide +kernel
theorem dX6_remove_2 : decode cX6_remove 2 = .ok (.invokevirtual 19, 3) := by decide +kernel
theorem dX6_remove_5 : decode cX6_remove 5 = .ok (.ifCond .ne 5, 3) := by decide +kernel
theorem dX6_remove_8 : decode cX6_remove 8 = .ok (.iconst 0, 1) := by decide +kernel
theorem dX6_remove_9 : decode cX6_remove 9 = .ok (.ireturn, 1) := by decide +kernel
theorem dX6_remove_10 : decode cX6_remove 10 = .ok (.iload_n 1, 1) := by decide +kernel
theorem dX6_remove_11 : decode cX6_remove 11 = .ok (.istore_n 2, 1) := by decide +kernel
theorem dX6_remove_12 : decode cX6_remove 12 = .ok (.iload_n 2, 1) := by decide +kernel
theorem dX6_remove_13 : decode cX6_remove 13 = .ok (.iconst 1, 1) := by decide +kernel
theorem dX6_remove_14 : decode cX6_remove 14 = .ok (.iadd, 1) := by decide +kernel
theorem dX6_remove_15 : decode cX6_remove 15 = .ok (.aload_n 0, 1) := by decide +kernel
theorem dX6_remove_16 : decode cX6_remove 16 = .ok (.getfield 15, 3) := by decide +kernel
theorem dX6_remove_19 : decode cX6_remove 19 = .ok (.if_icmp .ge 31, 3) := by decide +kernel
theorem dX6_remove_22 : decode cX6_remove 22 = .ok (.iload_n 2, 1) := by decide +kernel
theorem dX6_remove_23 : decode cX6_remove 23 = .ok (.iconst 1, 1) := by decide +kernel
theorem dX6_remove_24 : decode cX6_remove 24 = .ok (.iadd, 1) := by decide +kernel
theorem dX6_remove_25 : decode cX6_remove 25 = .ok (.bipush 12, 2) := by decide +kernel
theorem dX6_remove_27 : decode cX6_remove 27 = .ok (.if_icmp .ge 23, 3) := by decide +kernel
theorem dX6_remove_30 : decode cX6_remove 30 = .ok (.aload_n 0, 1) := by decide +kernel
theorem dX6_remove_31 : decode cX6_remove 31 = .ok (.getfield 9, 3) := by decide +kernel
theorem dX6_remove_34 : decode cX6_remove 34 = .ok (.iload_n 2, 1) := by decide +kernel
theorem dX6_remove_35 : decode cX6_remove 35 = .ok (.aload_n 0, 1) := by decide +kernel
theorem dX6_remove_36 : decode cX6_remove 36 = .ok (.getfield 9, 3) := by decide +kernel
theorem dX6_remove_39 : decode cX6_remove 39 = .ok (.iload_n 2, 1) := by decide +kernel
theorem dX6_remove_40 : decode cX6_remove 40 = .ok (.iconst 1, 1) := by decide +kernel
theorem dX6_remove_41 : decode cX6_remove 41 = .ok (.iadd, 1) := by decide +kernel
theorem dX6_remove_42 : decode cX6_remove 42 = .ok (.iaload, 1) := by decide +kernel
theorem dX6_remove_43 : decode cX6_remove 43 = .ok (.iastore, 1) := by decide +kernel
theorem dX6_remove_44 : decode cX6_remove 44 = .ok (.iinc 2 1, 3) := by decide +kernel
theorem dX6_remove_47 : decode cX6_remove 47 = .ok (.goto (-35), 3) := by decide +kernel
theorem dX6_remove_50 : decode cX6_remove 50 = .ok (.aload_n 0, 1) := by decide +kernel
theorem dX6_remove_51 : decode cX6_remove 51 = .ok (.dup, 1) := by decide +kernel
theorem dX6_remove_52 : decode cX6_remove 52 = .ok (.getfield 15, 3) := by decide +kernel
theorem dX6_remove_55 : decode cX6_remove 55 = .ok (.iconst 1, 1) := by decide +kernel
theorem dX6_remove_56 : decode cX6_remove 56 = .ok (.isub, 1) := by decide +kernel
theorem dX6_remove_57 : decode cX6_remove 57 = .ok (.putfield 15, 3) := by decide +kernel
theorem dX6_remove_60 : decode cX6_remove 60 = .ok (.iconst 1, 1) := by decide +kernel
theorem dX6_remove_61 : decode cX6_remove 61 = .ok (.ireturn, 1) := by decide +kernel
theorem dX6_multiply_0 : decode cX6_multiply 0 = .ok (.iconst 0, 1) := by decide +kernel
theorem dX6_multiply_1 : decode cX6_multiply 1 = .ok (.istore_n 3, 1) := by decide +kernel
theorem dX6_multiply_2 : decode cX6_multiply 2 = .ok (.iload_n 3, 1) := by decide +kernel
theorem dX6_multiply_3 : decode cX6_multiply 3 = .ok (.aload_n 0, 1) := by decide +kernel
theorem dX6_multiply_4 : decode cX6_multiply 4 = .ok (.getfield 15, 3) := by decide +kernel
theorem dX6_multiply_7 : decode cX6_multiply 7 = .ok (.if_icmp .ge 32, 3) := by decide +kernel
theorem dX6_multiply_10 : decode cX6_multiply 10 = .ok (.iload_n 3, 1) := by decide +kernel
theorem dX6_multiply_11 : decode cX6_multiply 11 = .ok (.bipush 12, 2) := by decide +kernel
theorem dX6_multiply_13 : decode cX6_multiply 13 = .ok (.if_icmp .ge 26, 3) := by decide +kernel
theorem dX6_multiply_16 : decode cX6_multiply 16 = .ok (.aload_n 0, 1) := by decide +kernel
theorem dX6_multiply_17 : decode cX6_multiply 17 = .ok (.getfield 9, 3) := by decide +kernel
theorem dX6_multiply_20 : decode cX6_multiply 20 = .ok (.iload_n 3, 1) := by decide +kernel
theorem dX6_multiply_21 : decode cX6_multiply 21 = .ok (.aload_n 1, 1) := by decide +kernel
theorem dX6_multiply_22 : decode cX6_multiply 22 = .ok (.aload_n 0, 1) := by decide +kernel
theorem dX6_multiply_23 : decode cX6_multiply 23 = .ok (.getfield 9, 3) := by decide +kernel
theorem dX6_multiply_26 : decode cX6_multiply 26 = .ok (.iload_n 3, 1) := by decide +kernel
theorem dX6_multiply_27 : decode cX6_multiply 27 = .ok (.iaload, 1) := by decide +kernel
theorem dX6_multiply_28 : decode cX6_multiply 28 = .ok (.iload_n 2, 1) := by decide +kernel
theorem dX6_multiply_29 : decode cX6_multiply 29 = .ok (.invokevirtual 23, 3) := by decide +kernel
theorem dX6_multiply_32 : decode cX6_multiply 32 = .ok (.iastore, 1) := by decide +kernel
theorem dX6_multiply_33 : decode cX6_multiply 33 = .ok (.iinc 3 1, 3) := by decide +kernel
theorem dX6_multiply_36 : decode cX6_multiply 36 = .ok (.goto (-34), 3) := by decide +kernel
theorem dX6_multiply_39 : decode cX6_multiply 39 = .ok (.return_, 1) := by decide +kernel
theorem dX6_putInOrder_0 : decode cX6_putInOrder 0 = .ok (.iconst 1, 1) := by decide +kernel
theorem dX6_putInOrder_1 : decode cX6_putInOrder 1 = .ok (.istore_n 1, 1) := by decide +kernel
theorem dX6_putInOrder_2 : decode cX6_putInOrder 2 = .ok (.iload_n 1, 1) := by decide +kernel
theorem dX6_putInOrder_3 : decode cX6_putInOrder 3 = .ok (.aload_n 0, 1) := by decide +kernel
theorem dX6_putInOrder_4 : decode cX6_putInOrder 4 = .ok (.getfield 15, 3) := by decide +kernel
theorem dX6_putInOrder_7 : decode cX6_putInOrder 7 = .ok (.if_icmp .ge 67, 3) := by decide +kernel
theorem dX6_putInOrder_10 : decode cX6_putInOrder 10 = .ok (.iload_n 1, 1) := by decide +kernel
theorem dX6_putInOrder_11 : decode cX6_putInOrder 11 = .ok (.bipush 12, 2) := by decide +kernel
theorem dX6_putInOrder_13 : decode cX6_putInOrder 13 = .ok (.if_icmp .ge 61, 3) := by decide +kernel
theorem dX6_putInOrder_16 : decode cX6_putInOrder 16 = .ok (.aload_n 0, 1) := by decide +kernel
theorem dX6_putInOrder_17 : decode cX6_putInOrder 17 = .ok (.getfield 9, 3) := by decide +kernel
theorem dX6_putInOrder_20 : decode cX6_putInOrder 20 = .ok (.iload_n 1, 1) := by decide +kernel
theorem dX6_putInOrder_21 : decode cX6_putInOrder 21 = .ok (.iaload, 1) := by decide +kernel
theorem dX6_putInOrder_22 : decode cX6_putInOrder 22 = .ok (.istore_n 2, 1) := by decide +kernel
theorem dX6_putInOrder_23 : decode cX6_putInOrder 23 = .ok (.iload_n 1, 1) := by decide +kernel
theorem dX6_putInOrder_24 : decode cX6_putInOrder 24 = .ok (.istore_n 3, 1) := by decide +kernel
theorem dX6_putInOrder_25 : decode cX6_putInOrder 25 = .ok (.iload_n 3, 1) := by decide +kernel
theorem dX6_putInOrder_26 : decode cX6_putInOrder 26 = .ok (.ifCond .le 35, 3) := by decide +kernel
theorem dX6_putInOrder_29 : decode cX6_putInOrder 29 = .ok (.aload_n 0, 1) := by decide +kernel
theorem dX6_putInOrder_30 : decode cX6_putInOrder 30 = .ok (.getfield 9, 3) := by decide +kernel
theorem dX6_putInOrder_33 : decode cX6_putInOrder 33 = .ok (.iload_n 3, 1) := by decide +kernel
theorem dX6_putInOrder_34 : decode cX6_putInOrder 34 = .ok (.iconst 1, 1) := by decide +kernel
theorem dX6_putInOrder_35 : decode cX6_putInOrder 35 = .ok (.isub, 1) := by decide +kernel
theorem dX6_putInOrder_36 : decode cX6_putInOrder 36 = .ok (.iaload, 1) := by decide +kernel
theorem dX6_putInOrder_37 : decode cX6_putInOrder 37 = .ok (.iload_n 2, 1) := by decide +kernel
theorem dX6_putInOrder_38 : decode cX6_putInOrder 38 = .ok (.if_icmp .le 23, 3) := by decide +kernel
theorem dX6_putInOrder_41 : decode cX6_putInOrder 41 = .ok (.aload_n 0, 1) := by decide +kernel
theorem dX6_putInOrder_42 : decode cX6_putInOrder 42 = .ok (.getfield 9, 3) := by decide +kernel
theorem dX6_putInOrder_45 : decode cX6_putInOrder 45 = .ok (.iload_n 3, 1) := by decide +kernel
theorem dX6_putInOrder_46 : decode cX6_putInOrder 46 = .ok (.aload_n 0, 1) := by decide +kernel
theorem dX6_putInOrder_47 : decode cX6_putInOrder 47 = .ok (.getfield 9, 3) := by decide +kernel
theorem dX6_putInOrder_50 : decode cX6_putInOrder 50 = .ok (.iload_n 3, 1) := by decide +kernel
theorem dX6_putInOrder_51 : decode cX6_putInOrder 51 = .ok (.iconst 1, 1) := by decide +kernel
theorem dX6_putInOrder_52 : decode cX6_putInOrder 52 = .ok (.isub, 1) := by decide +kernel
theorem dX6_putInOrder_53 : decode cX6_putInOrder 53 = .ok (.iaload, 1) := by decide +kernel
theorem dX6_putInOrder_54 : decode cX6_putInOrder 54 = .ok (.iastore, 1) := by decide +kernel
theorem dX6_putInOrder_55 : decode cX6_putInOrder 55 = .ok (.iinc 3 (-1), 3) := by decide +kernel
theorem dX6_putInOrder_58 : decode cX6_putInOrder 58 = .ok (.goto (-33), 3) := by decide +kernel
theorem dX6_putInOrder_61 : decode cX6_putInOrder 61 = .ok (.aload_n 0, 1) := by decide +kernel
theorem dX6_putInOrder_62 : decode cX6_putInOrder 62 = .ok (.getfield 9, 3) := by decide +kernel
theorem dX6_putInOrder_65 : decode cX6_putInOrder 65 = .ok (.iload_n 3, 1) := by decide +kernel
theorem dX6_putInOrder_66 : decode cX6_putInOrder 66 = .ok (.iload_n 2, 1) := by decide +kernel
theorem dX6_putInOrder_67 : decode cX6_putInOrder 67 = .ok (.iastore, 1) := by decide +kernel
theorem dX6_putInOrder_68 : decode cX6_putInOrder 68 = .ok (.iinc 1 1, 3) := by decide +kernel
theorem dX6_putInOrder_71 : decode cX6_putInOrder 71 = .ok (.goto (-69), 3) := by decide +kernel
theorem dX6_putInOrder_74 : decode cX6_putInOrder 74 = .ok (.return_, 1) := by decide +kernel
theorem dX6_isSameAs_0 : decode cX6_isSameAs 0 = .ok (.aload_n 0, 1) := by decide +kernel
theorem dX6_isSameAs_1 : decode cX6_isSameAs 1 = .ok (.getfield 15, 3) := by decide +kernel
theorem dX6_isSameAs_4 : decode cX6_isSameAs 4 = .ok (.aload_n 1, 1) := by decide +kernel
theorem dX6_isSameAs_5 : decode cX6_isSameAs 5 = .ok (.getfield 15, 3) := by decide +kernel
theorem dX6_isSameAs_8 : decode cX6_isSameAs 8 = .ok (.if_icmp .ne 23, 3) := by decide +kernel
theorem dX6_isSameAs_11 : decode cX6_isSameAs 11 = .ok (.aload_n 0, 1) := by decide +kernel
theorem dX6_isSameAs_12 : decode cX6_isSameAs 12 = .ok (.aload_n 1, 1) := by decide +kernel
theorem dX6_isSameAs_13 : decode cX6_isSameAs 13 = .ok (.invokevirtual 29, 3) := by decide +kernel
theorem dX6_isSameAs_16 : decode cX6_isSameAs 16 = .ok (.ifCond .ne 15, 3) := by decide +kernel
theorem dX6_isSameAs_19 : decode cX6_isSameAs 19 = .ok (.aload_n 1, 1) := by decide +kernel
theorem dX6_isSameAs_20 : decode cX6_isSameAs 20 = .ok (.aload_n 0, 1) := by decide +kernel
theorem dX6_isSameAs_21 : decode cX6_isSameAs 21 = .ok (.invokevirtual 29, 3) := by decide +kernel
theorem dX6_isSameAs_24 : decode cX6_isSameAs 24 = .ok (.ifCond .ne 7, 3) := by decide +kernel
theorem dX6_isSameAs_27 : decode cX6_isSameAs 27 = .ok (.iconst 1, 1) := by decide +kernel
theorem dX6_isSameAs_28 : decode cX6_isSameAs 28 = .ok (.goto 4, 3) := by decide +kernel
theorem dX6_isSameAs_31 : decode cX6_isSameAs 31 = .ok (.iconst 0, 1) := by decide +kernel
theorem dX6_isSameAs_32 : decode cX6_isSameAs 32 = .ok (.ireturn, 1) := by decide +kernel
theorem dX6_isLessThan_0 : decode cX6_isLessThan 0 = .ok (.iconst 0, 1) := by decide +kernel
theorem dX6_isLessThan_1 : decode cX6_isLessThan 1 = .ok (.istore_n 2, 1) := by decide +kernel
theorem dX6_isLessThan_2 : decode cX6_isLessThan 2 = .ok (.iload_n 2, 1) := by decide +kernel
theorem dX6_isLessThan_3 : decode cX6_isLessThan 3 = .ok (.aload_n 0, 1) := by decide +kernel
theorem dX6_isLessThan_4 : decode cX6_isLessThan 4 = .ok (.getfield 15, 3) := by decide +kernel
theorem dX6_isLessThan_7 : decode cX6_isLessThan 7 = .ok (.if_icmp .ge 51, 3) := by decide +kernel
theorem dX6_isLessThan_10 : decode cX6_isLessThan 10 = .ok (.iload_n 2, 1) := by decide +kernel
theorem dX6_isLessThan_11 : decode cX6_isLessThan 11 = .ok (.bipush 12, 2) := by decide +kernel
theorem dX6_isLessThan_13 : decode cX6_isLessThan 13 = .ok (.if_icmp .ge 45, 3) := by decide +kernel
theorem dX6_isLessThan_16 : decode cX6_isLessThan 16 = .ok (.aload_n 0, 1) := by decide +kernel
theorem dX6_isLessThan_17 : decode cX6_isLessThan 17 = .ok (.getfield 9, 3) := by decide +kernel
theorem dX6_isLessThan_20 : decode cX6_isLessThan 20 = .ok (.iload_n 2, 1) := by decide +kernel
theorem dX6_isLessThan_21 : decode cX6_isLessThan 21 = .ok (.iaload, 1) := by decide +kernel
theorem dX6_isLessThan_22 : decode cX6_isLessThan 22 = .ok (.aload_n 1, 1) := by decide +kernel
theorem dX6_isLessThan_23 : decode cX6_isLessThan 23 = .ok (.getfield 9, 3) := by decide +kernel
theorem dX6_isLessThan_26 : decode cX6_isLessThan 26 = .ok (.iload_n 2, 1) := by decide +kernel
theorem dX6_isLessThan_27 : decode cX6_isLessThan 27 = .ok (.iaload, 1) := by decide +kernel
theorem dX6_isLessThan_28 : decode cX6_isLessThan 28 = .ok (.if_icmp .eq 24, 3) := by decide +kernel
theorem dX6_isLessThan_31 : decode cX6_isLessThan 31 = .ok (.aload_n 0, 1) := by decide +kernel
theorem dX6_isLessThan_32 : decode cX6_isLessThan 32 = .ok (.getfield 9, 3) := by decide +kernel
theorem dX6_isLessThan_35 : decode cX6_isLessThan 35 = .ok (.iload_n 2, 1) := by decide +kernel
theorem dX6_isLessThan_36 : decode cX6_isLessThan 36 = .ok (.iaload, 1) := by decide +kernel
theorem dX6_isLessThan_37 : decode cX6_isLessThan 37 = .ok (.aload_n 1, 1) := by decide +kernel
theorem dX6_isLessThan_38 : decode cX6_isLessThan 38 = .ok (.getfield 9, 3) := by decide +kernel
theorem dX6_isLessThan_41 : decode cX6_isLessThan 41 = .ok (.iload_n 2, 1) := by decide +kernel
theorem dX6_isLessThan_42 : decode cX6_isLessThan 42 = .ok (.iaload, 1) := by decide +kernel
theorem dX6_isLessThan_43 : decode cX6_isLessThan 43 = .ok (.if_icmp .ge 7, 3) := by decide +kernel
theorem dX6_isLessThan_46 : decode cX6_isLessThan 46 = .ok (.iconst 1, 1) := by decide +kernel
theorem dX6_isLessThan_47 : decode cX6_isLessThan 47 = .ok (.goto 4, 3) := by decide +kernel
theorem dX6_isLessThan_50 : decode cX6_isLessThan 50 = .ok (.iconst 0, 1) := by decide +kernel
theorem dX6_isLessThan_51 : decode cX6_isLessThan 51 = .ok (.ireturn, 1) := by decide +kernel
theorem dX6_isLessThan_52 : decode cX6_isLessThan 52 = .ok (.iinc 2 1, 3) := by decide +kernel
theorem dX6_isLessThan_55 : decode cX6_isLessThan 55 = .ok (.goto (-53), 3) := by decide +kernel
theorem dX6_isLessThan_58 : decode cX6_isLessThan 58 = .ok (.iconst 0, 1) := by decide +kernel
theorem dX6_isLessThan_59 : decode cX6_isLessThan 59 = .ok (.ireturn, 1) := by decide +kernel
theorem dX6_sumOfSet_0 : decode cX6_sumOfSet 0 = .ok (.iconst 0, 1) := by decide +kernel
theorem dX6_sumOfSet_1 : decode cX6_sumOfSet 1 = .ok (.istore_n 3, 1) := by decide +kernel
theorem dX6_sumOfSet_2 : decode cX6_sumOfSet 2 = .ok (.iconst 0, 1) := by decide +kernel
theorem dX6_sumOfSet_3 : decode cX6_sumOfSet 3 = .ok (.istore 4, 2) := by decide +kernel
theorem dX6_sumOfSet_5 : decode cX6_sumOfSet 5 = .ok (.iload 4, 2) := by decide +kernel
theorem dX6_sumOfSet_7 : decode cX6_sumOfSet 7 = .ok (.aload_n 0, 1) := by decide +kernel
theorem dX6_sumOfSet_8 : decode cX6_sumOfSet 8 = .ok (.getfield 15, 3) := by decide +kernel
theorem dX6_sumOfSet_11 : decode cX6_sumOfSet 11 = .ok (.if_icmp .ge 38, 3) := by decide +kernel
theorem dX6_sumOfSet_14 : decode cX6_sumOfSet 14 = .ok (.iload 4, 2) := by decide +kernel
theorem dX6_sumOfSet_16 : decode cX6_sumOfSet 16 = .ok (.bipush 12, 2) := by decide +kernel
theorem dX6_sumOfSet_18 : decode cX6_sumOfSet 18 = .ok (.if_icmp .ge 31, 3) := by decide +kernel
theorem dX6_sumOfSet_21 : decode cX6_sumOfSet 21 = .ok (.iload_n 2, 1) := by decide +kernel
theorem dX6_sumOfSet_22 : decode cX6_sumOfSet 22 = .ok (.iload 4, 2) := by decide +kernel
theorem dX6_sumOfSet_24 : decode cX6_sumOfSet 24 = .ok (.iushr, 1) := by decide +kernel
theorem dX6_sumOfSet_25 : decode cX6_sumOfSet 25 = .ok (.iconst 1, 1) := by decide +kernel
theorem dX6_sumOfSet_26 : decode cX6_sumOfSet 26 = .ok (.iand, 1) := by decide +kernel
theorem dX6_sumOfSet_27 : decode cX6_sumOfSet 27 = .ok (.ifCond .eq 16, 3) := by decide +kernel
theorem dX6_sumOfSet_30 : decode cX6_sumOfSet 30 = .ok (.aload_n 1, 1) := by decide +kernel
theorem dX6_sumOfSet_31 : decode cX6_sumOfSet 31 = .ok (.iload_n 3, 1) := by decide +kernel
theorem dX6_sumOfSet_32 : decode cX6_sumOfSet 32 = .ok (.aload_n 0, 1) := by decide +kernel
theorem dX6_sumOfSet_33 : decode cX6_sumOfSet 33 = .ok (.getfield 9, 3) := by decide +kernel
theorem dX6_sumOfSet_36 : decode cX6_sumOfSet 36 = .ok (.iload 4, 2) := by decide +kernel
theorem dX6_sumOfSet_38 : decode cX6_sumOfSet 38 = .ok (.iaload, 1) := by decide +kernel
theorem dX6_sumOfSet_39 : decode cX6_sumOfSet 39 = .ok (.invokevirtual 33, 3) := by decide +kernel
theorem dX6_sumOfSet_42 : decode cX6_sumOfSet 42 = .ok (.istore_n 3, 1) := by decide +kernel
theorem dX6_sumOfSet_43 : decode cX6_sumOfSet 43 = .ok (.iinc 4 1, 3) := by decide +kernel
theorem dX6_sumOfSet_46 : decode cX6_sumOfSet 46 = .ok (.goto (-41), 3) := by decide +kernel
theorem dX6_sumOfSet_49 : decode cX6_sumOfSet 49 = .ok (.iload_n 3, 1) := by decide +kernel
theorem dX6_sumOfSet_50 : decode cX6_sumOfSet 50 = .ok (.ireturn, 1) := by decide +kernel
theorem dX6_shortestRun_0 : decode cX6_shortestRun 0 = .ok (.iconst 0, 1) := by decide +kernel
theorem dX6_shortestRun_1 : decode cX6_shortestRun 1 = .ok (.istore 4, 2) := by decide +kernel
theorem dX6_shortestRun_3 : decode cX6_shortestRun 3 = .ok (.iload_n 2, 1) := by decide +kernel
theorem dX6_shortestRun_4 : decode cX6_shortestRun 4 = .ok (.iconst 0, 1) := by decide +kernel
theorem dX6_shortestRun_5 : decode cX6_shortestRun 5 = .ok (.invokestatic 36, 3) := by decide +kernel
theorem dX6_shortestRun_8 : decode cX6_shortestRun 8 = .ok (.istore 5, 2) := by decide +kernel
theorem dX6_shortestRun_10 : decode cX6_shortestRun 10 = .ok (.iload 5, 2) := by decide +kernel
theorem dX6_shortestRun_12 : decode cX6_shortestRun 12 = .ok (.aload_n 0, 1) := by decide +kernel
theorem dX6_shortestRun_13 : decode cX6_shortestRun 13 = .ok (.getfield 15, 3) := by decide +kernel
theorem dX6_shortestRun_16 : decode cX6_shortestRun 16 = .ok (.if_icmp .ge 44, 3) := by decide +kernel
theorem dX6_shortestRun_19 : decode cX6_shortestRun 19 = .ok (.iload 5, 2) := by decide +kernel
theorem dX6_shortestRun_21 : decode cX6_shortestRun 21 = .ok (.bipush 12, 2) := by decide +kernel
theorem dX6_shortestRun_23 : decode cX6_shortestRun 23 = .ok (.if_icmp .ge 37, 3) := by decide +kernel
theorem dX6_shortestRun_26 : decode cX6_shortestRun 26 = .ok (.aload_n 1, 1) := by decide +kernel
theorem dX6_shortestRun_27 : decode cX6_shortestRun 27 = .ok (.iload 4, 2) := by decide +kernel
theorem dX6_shortestRun_29 : decode cX6_shortestRun 29 = .ok (.aload_n 0, 1) := by decide +kernel
theorem dX6_shortestRun_30 : decode cX6_shortestRun 30 = .ok (.getfield 9, 3) := by decide +kernel
theorem dX6_shortestRun_33 : decode cX6_shortestRun 33 = .ok (.iload 5, 2) := by decide +kernel
theorem dX6_shortestRun_35 : decode cX6_shortestRun 35 = .ok (.iaload, 1) := by decide +kernel
theorem dX6_shortestRun_36 : decode cX6_shortestRun 36 = .ok (.invokevirtual 33, 3) := by decide +kernel
theorem dX6_shortestRun_39 : decode cX6_shortestRun 39 = .ok (.istore 4, 2) := by decide +kernel
theorem dX6_shortestRun_41 : decode cX6_shortestRun 41 = .ok (.iload 4, 2) := by decide +kernel
theorem dX6_shortestRun_43 : decode cX6_shortestRun 43 = .ok (.iload_n 3, 1) := by decide +kernel
theorem dX6_shortestRun_44 : decode cX6_shortestRun 44 = .ok (.if_icmp .ne 10, 3) := by decide +kernel
theorem dX6_shortestRun_47 : decode cX6_shortestRun 47 = .ok (.iload 5, 2) := by decide +kernel
theorem dX6_shortestRun_49 : decode cX6_shortestRun 49 = .ok (.iload_n 2, 1) := by decide +kernel
theorem dX6_shortestRun_50 : decode cX6_shortestRun 50 = .ok (.isub, 1) := by decide +kernel
theorem dX6_shortestRun_51 : decode cX6_shortestRun 51 = .ok (.iconst 1, 1) := by decide +kernel
theorem dX6_shortestRun_52 : decode cX6_shortestRun 52 = .ok (.iadd, 1) := by decide +kernel
theorem dX6_shortestRun_53 : decode cX6_shortestRun 53 = .ok (.ireturn, 1) := by decide +kernel
theorem dX6_shortestRun_54 : decode cX6_shortestRun 54 = .ok (.iinc 5 1, 3) := by decide +kernel
theorem dX6_shortestRun_57 : decode cX6_shortestRun 57 = .ok (.goto (-47), 3) := by decide +kernel
theorem dX6_shortestRun_60 : decode cX6_shortestRun 60 = .ok (.iconst (-1), 1) := by decide +kernel
theorem dX6_shortestRun_61 : decode cX6_shortestRun 61 = .ok (.ireturn, 1) := by decide +kernel
theorem dX7_init_0 : decode cX7_init 0 = .ok (.aload_n 0, 1) := by decide +kernel
theorem dX7_init_1 : decode cX7_init 1 = .ok (.invokespecial 3, 3) := by decide +kernel
theorem dX7_init_4 : decode cX7_init 4 = .ok (.aload_n 0, 1) := by decide +kernel
theorem dX7_init_5 : decode cX7_init 5 = .ok (.bipush 24, 2) := by decide +kernel
theorem dX7_init_7 : decode cX7_init 7 = .ok (.newarray .int, 2) := by decide +kernel
theorem dX7_init_9 : decode cX7_init 9 = .ok (.putfield 9, 3) := by decide +kernel
theorem dX7_init_12 : decode cX7_init 12 = .ok (.aload_n 0, 1) := by decide +kernel
theorem dX7_init_13 : decode cX7_init 13 = .ok (.bipush 24, 2) := by decide +kernel
theorem dX7_init_15 : decode cX7_init 15 = .ok (.newarray .int, 2) := by decide +kernel
theorem dX7_init_17 : decode cX7_init 17 = .ok (.putfield 15, 3) := by decide +kernel
theorem dX7_init_20 : decode cX7_init 20 = .ok (.aload_n 0, 1) := by decide +kernel
theorem dX7_init_21 : decode cX7_init 21 = .ok (.bipush 13, 2) := by decide +kernel
theorem dX7_init_23 : decode cX7_init 23 = .ok (.newarray .int, 2) := by decide +kernel
theorem dX7_init_25 : decode cX7_init 25 = .ok (.putfield 18, 3) := by decide +kernel
theorem dX7_init_28 : decode cX7_init 28 = .ok (.aload_n 0, 1) := by decide +kernel
theorem dX7_init_29 : decode cX7_init 29 = .ok (.bipush 13, 2) := by decide +kernel
theorem dX7_init_31 : decode cX7_init 31 = .ok (.newarray .int, 2) := by decide +kernel
theorem dX7_init_33 : decode cX7_init 33 = .ok (.putfield 21, 3) := by decide +kernel
theorem dX7_init_36 : decode cX7_init 36 = .ok (.return_, 1) := by decide +kernel
theorem dX7_countRows_0 : decode cX7_countRows 0 = .ok (.iconst 0, 1) := by decide +kernel
theorem dX7_countRows_1 : decode cX7_countRows 1 = .ok (.istore 4, 2) := by decide +kernel
theorem dX7_countRows_3 : decode cX7_countRows 3 = .ok (.iload 4, 2) := by decide +kernel
theorem dX7_countRows_5 : decode cX7_countRows 5 = .ok (.bipush 24, 2) := by decide +kernel
theorem dX7_countRows_7 : decode cX7_countRows 7 = .ok (.if_icmp .ge 17, 3) := by decide +kernel
theorem dX7_countRows_10 : decode cX7_countRows 10 = .ok (.aload_n 0, 1) := by decide +kernel
theorem dX7_countRows_11 : decode cX7_countRows 11 = .ok (.getfield 9, 3) := by decide +kernel
theorem dX7_countRows_14 : decode cX7_countRows 14 = .ok (.iload 4, 2) := by decide +kernel
theorem dX7_countRows_16 : decode cX7_countRows 16 = .ok (.iconst 0, 1) := by decide +kernel
theorem dX7_countRows_17 : decode cX7_countRows 17 = .ok (.iastore, 1) := by decide +kernel
theorem dX7_countRows_18 : decode cX7_countRows 18 = .ok (.iinc 4 1, 3) := by decide +kernel
theorem dX7_countRows_21 : decode cX7_countRows 21 = .ok (.goto (-18), 3) := by decide +kernel
theorem dX7_countRows_24 : decode cX7_countRows 24 = .ok (.aload_n 0, 1) := by decide +kernel
theorem dX7_countRows_25 : decode cX7_countRows 25 = .ok (.getfield 9, 3) := by decide +kernel
theorem dX7_countRows_28 : decode cX7_countRows 28 = .ok (.iconst 0, 1) := by decide +kernel
theorem dX7_countRows_29 : decode cX7_countRows 29 = .ok (.iconst 1, 1) := by decide +kernel
theorem dX7_countRows_30 : decode cX7_countRows 30 = .ok (.iastore, 1) := by decide +kernel
theorem dX7_countRows_31 : decode cX7_countRows 31 = .ok (.iconst 0, 1) := by decide +kernel
theorem dX7_countRows_32 : decode cX7_countRows 32 = .ok (.istore 4, 2) := by decide +kernel
theorem dX7_countRows_34 : decode cX7_countRows 34 = .ok (.iload 4, 2) := by decide +kernel
theorem dX7_countRows_36 : decode cX7_countRows 36 = .ok (.aload_n 2, 1) := by decide +kernel
theorem dX7_countRows_37 : decode cX7_countRows 37 = .ok (.invokevirtual 24, 3) := by decide +kernel
theorem dX7_countRows_40 : decode cX7_countRows 40 = .ok (.if_icmp .ge 27, 3) := by decide +kernel
theorem dX7_countRows_43 : decode cX7_countRows 43 = .ok (.iload 4, 2) := by decide +kernel
theorem dX7_countRows_45 : decode cX7_countRows 45 = .ok (.bipush 12, 2) := by decide +kernel
theorem dX7_countRows_47 : decode cX7_countRows 47 = .ok (.if_icmp .ge 20, 3) := by decide +kernel
theorem dX7_countRows_50 : decode cX7_countRows 50 = .ok (.aload_n 0, 1) := by decide +kernel
theorem dX7_countRows_51 : decode cX7_countRows 51 = .ok (.aload_n 1, 1) := by decide +kernel
theorem dX7_countRows_52 : decode cX7_countRows 52 = .ok (.aload_n 2, 1) := by decide +kernel
theorem dX7_countRows_53 : decode cX7_countRows 53 = .ok (.iload 4, 2) := by decide +kernel
theorem dX7_countRows_55 : decode cX7_countRows 55 = .ok (.invokevirtual 30, 3) := by decide +kernel
theorem dX7_countRows_58 : decode cX7_countRows 58 = .ok (.invokevirtual 34, 3) := by decide +kernel
theorem dX7_countRows_61 : decode cX7_countRows 61 = .ok (.iinc 4 1, 3) := by decide +kernel
theorem dX7_countRows_64 : decode cX7_countRows 64 = .ok (.goto (-30), 3) := by decide +kernel
theorem dX7_countRows_67 : decode cX7_countRows 67 = .ok (.iload_n 3, 1) := by decide +kernel
theorem dX7_countRows_68 : decode cX7_countRows 68 = .ok (.ifCond .lt 18, 3) := by decide +kernel
theorem dX7_countRows_71 : decode cX7_countRows 71 = .ok (.iload_n 3, 1) := by decide +kernel
theorem dX7_countRows_72 : decode cX7_countRows 72 = .ok (.bipush 24, 2) := by decide +kernel
theorem dX7_countRows_74 : decode cX7_countRows 74 = .ok (.if_icmp .ge 12, 3) := by decide +kernel
theorem dX7_countRows_77 : decode cX7_countRows 77 = .ok (.aload_n 0, 1) := by decide +kernel
theorem dX7_countRows_78 : decode cX7_countRows 78 = .ok (.getfield 9, 3) := by decide +kernel
theorem dX7_countRows_81 : decode cX7_countRows 81 = .ok (.iload_n 3, 1) := by decide +kernel
theorem dX7_countRows_82 : decode cX7_countRows 82 = .ok (.iaload, 1) := by decide +kernel
theorem dX7_countRows_83 : decode cX7_countRows 83 = .ok (.goto 4, 3) := by decide +kernel
theorem dX7_countRows_86 : decode cX7_countRows 86 = .ok (.iconst 0, 1) := by decide +kernel
theorem dX7_countRows_87 : decode cX7_countRows 87 = .ok (.istore 4, 2) := by decide +kernel
theorem dX7_countRows_89 : decode cX7_countRows 89 = .ok (.iload_n 3, 1) := by decide +kernel
theorem dX7_countRows_90 : decode cX7_countRows 90 = .ok (.ifCond .ne 10, 3) := by decide +kernel
theorem dX7_countRows_93 : decode cX7_countRows 93 = .ok (.iload 4, 2) := by decide +kernel
theorem dX7_countRows_95 : decode cX7_countRows 95 = .ok (.iconst 1, 1) := by decide +kernel
theorem dX7_countRows_96 : decode cX7_countRows 96 = .ok (.isub, 1) := by decide +kernel
theorem dX7_countRows_97 : decode cX7_countRows 97 = .ok (.goto 5, 3) := by decide +kernel
theorem dX7_countRows_100 : decode cX7_countRows 100 = .ok (.iload 4, 2) := by decide +kernel
theorem dX7_countRows_102 : decode cX7_countRows 102 = .ok (.ireturn, 1) := by decide +kernel
theorem dX7_countPlace_0 : decode cX7_countPlace 0 = .ok (.iconst 0, 1) := by decide +kernel
theorem dX7_countPlace_1 : decode cX7_countPlace 1 = .ok (.istore_n 3, 1) := by decide +kernel
theorem dX7_countPlace_2 : decode cX7_countPlace 2 = .ok (.iload_n 3, 1) := by decide +kernel
theorem dX7_countPlace_3 : decode cX7_countPlace 3 = .ok (.bipush 24, 2) := by decide +kernel
theorem dX7_countPlace_5 : decode cX7_countPlace 5 = .ok (.if_icmp .ge 21, 3) := by decide +kernel
theorem dX7_countPlace_8 : decode cX7_countPlace 8 = .ok (.aload_n 0, 1) := by decide +kernel
theorem dX7_countPlace_9 : decode cX7_countPlace 9 = .ok (.getfield 15, 3) := by decide +kernel
theorem dX7_countPlace_12 : decode cX7_countPlace 12 = .ok (.iload_n 3, 1) := by decide +kernel
theorem dX7_countPlace_13 : decode cX7_countPlace 13 = .ok (.aload_n 0, 1) := by decide +kernel
theorem dX7_countPlace_14 : decode cX7_countPlace 14 = .ok (.getfield 9, 3) := by decide +kernel
theorem dX7_countPlace_17 : decode cX7_countPlace 17 = .ok (.iload_n 3, 1) := by decide +kernel
theorem dX7_countPlace_18 : decode cX7_countPlace 18 = .ok (.iaload, 1) := by decide +kernel
theorem dX7_countPlace_19 : decode cX7_countPlace 19 = .ok (.iastore, 1) := by decide +kernel
theorem dX7_countPlace_20 : decode cX7_countPlace 20 = .ok (.iinc 3 1, 3) := by decide +kernel
theorem dX7_countPlace_23 : decode cX7_countPlace 23 = .ok (.goto (-21), 3) := by decide +kernel
theorem dX7_countPlace_26 : decode cX7_countPlace 26 = .ok (.aload_n 1, 1) := by decide +kernel
theorem dX7_countPlace_27 : decode cX7_countPlace 27 = .ok (.iload_n 2, 1) := by decide +kernel
theorem dX7_countPlace_28 : decode cX7_countPlace 28 = .ok (.invokevirtual 38, 3) := by decide +kernel
theorem dX7_countPlace_31 : decode cX7_countPlace 31 = .ok (.istore_n 3, 1) := by decide +kernel
theorem dX7_countPlace_32 : decode cX7_countPlace 32 = .ok (.iconst 0, 1) := by decide +kernel
theorem dX7_countPlace_33 : decode cX7_countPlace 33 = .ok (.istore 4, 2) := by decide +kernel
theorem dX7_countPlace_35 : decode cX7_countPlace 35 = .ok (.iload 4, 2) := by decide +kernel
theorem dX7_countPlace_37 : decode cX7_countPlace 37 = .ok (.aload_n 1, 1) := by decide +kernel
theorem dX7_countPlace_38 : decode cX7_countPlace 38 = .ok (.invokevirtual 43, 3) := by decide +kernel
theorem dX7_countPlace_41 : decode cX7_countPlace 41 = .ok (.if_icmp .ge 82, 3) := by decide +kernel
theorem dX7_countPlace_44 : decode cX7_countPlace 44 = .ok (.iload 4, 2) := by decide +kernel
theorem dX7_countPlace_46 : decode cX7_countPlace 46 = .ok (.bipush 24, 2) := by decide +kernel
theorem dX7_countPlace_48 : decode cX7_countPlace 48 = .ok (.if_icmp .ge 75, 3) := by decide +kernel
theorem dX7_countPlace_51 : decode cX7_countPlace 51 = .ok (.aload_n 1, 1) := by decide +kernel
theorem dX7_countPlace_52 : decode cX7_countPlace 52 = .ok (.iload 4, 2) := by decide +kernel
theorem dX7_countPlace_54 : decode cX7_countPlace 54 = .ok (.iload_n 2, 1) := by decide +kernel
theorem dX7_countPlace_55 : decode cX7_countPlace 55 = .ok (.invokevirtual 46, 3) := by decide +kernel
theorem dX7_countPlace_58 : decode cX7_countPlace 58 = .ok (.istore 5, 2) := by decide +kernel
theorem dX7_countPlace_60 : decode cX7_countPlace 60 = .ok (.aload_n 1, 1) := by decide +kernel
theorem dX7_countPlace_61 : decode cX7_countPlace 61 = .ok (.iload 4, 2) := by decide +kernel
theorem dX7_countPlace_63 : decode cX7_countPlace 63 = .ok (.iload_n 3, 1) := by decide +kernel
theorem dX7_countPlace_64 : decode cX7_countPlace 64 = .ok (.invokevirtual 46, 3) := by decide +kernel
theorem dX7_countPlace_67 : decode cX7_countPlace 67 = .ok (.istore 6, 2) := by decide +kernel
theorem dX7_countPlace_69 : decode cX7_countPlace 69 = .ok (.aload_n 1, 1) := by decide +kernel
theorem dX7_countPlace_70 : decode cX7_countPlace 70 = .ok (.iload 5, 2) := by decide +kernel
theorem dX7_countPlace_72 : decode cX7_countPlace 72 = .ok (.invokevirtual 50, 3) := by decide +kernel
theorem dX7_countPlace_75 : decode cX7_countPlace 75 = .ok (.ifCond .eq 42, 3) := by decide +kernel
theorem dX7_countPlace_78 : decode cX7_countPlace 78 = .ok (.aload_n 1, 1) := by decide +kernel
theorem dX7_countPlace_79 : decode cX7_countPlace 79 = .ok (.iload 6, 2) := by decide +kernel
theorem dX7_countPlace_81 : decode cX7_countPlace 81 = .ok (.invokevirtual 50, 3) := by decide +kernel
theorem dX7_countPlace_84 : decode cX7_countPlace 84 = .ok (.ifCond .eq 33, 3) := by decide +kernel
theorem dX7_countPlace_87 : decode cX7_countPlace 87 = .ok (.aload_n 0, 1) := by decide +kernel
theorem dX7_countPlace_88 : decode cX7_countPlace 88 = .ok (.getfield 9, 3) := by decide +kernel
theorem dX7_countPlace_91 : decode cX7_countPlace 91 = .ok (.iload 4, 2) := by decide +kernel
theorem dX7_countPlace_93 : decode cX7_countPlace 93 = .ok (.aload_n 0, 1) := by decide +kernel
theorem dX7_countPlace_94 : decode cX7_countPlace 94 = .ok (.getfield 15, 3) := by decide +kernel
theorem dX7_countPlace_97 : decode cX7_countPlace 97 = .ok (.iload 4, 2) := by decide +kernel
theorem dX7_countPlace_99 : decode cX7_countPlace 99 = .ok (.iaload, 1) := by decide +kernel
theorem dX7_countPlace_100 : decode cX7_countPlace 100 = .ok (.aload_n 0, 1) := by decide +kernel
theorem dX7_countPlace_101 : decode cX7_countPlace 101 = .ok (.getfield 15, 3) := by decide +kernel
theorem dX7_countPlace_104 : decode cX7_countPlace 104 = .ok (.iload 5, 2) := by decide +kernel
theorem dX7_countPlace_106 : decode cX7_countPlace 106 = .ok (.iaload, 1) := by decide +kernel
theorem dX7_countPlace_107 : decode cX7_countPlace 107 = .ok (.iadd, 1) := by decide +kernel
theorem dX7_countPlace_108 : decode cX7_countPlace 108 = .ok (.aload_n 0, 1) := by decide +kernel
theorem dX7_countPlace_109 : decode cX7_countPlace 109 = .ok (.getfield 15, 3) := by decide +kernel
theorem dX7_countPlace_112 : decode cX7_countPlace 112 = .ok (.iload 6, 2) := by decide +kernel
theorem dX7_countPlace_114 : decode cX7_countPlace 114 = .ok (.iaload, 1) := by decide +kernel
theorem dX7_countPlace_115 : decode cX7_countPlace 115 = .ok (.iadd, 1) := by decide +kernel
theorem dX7_countPlace_116 : decode cX7_countPlace 116 = .ok (.iastore, 1) := by decide +kernel
theorem dX7_countPlace_117 : decode cX7_countPlace 117 = .ok (.iinc 4 1, 3) := by decide +kernel
theorem dX7_countPlace_120 : decode cX7_countPlace 120 = .ok (.goto (-85), 3) := by decide +kernel
theorem dX7_countPlace_123 : decode cX7_countPlace 123 = .ok (.return_, 1) := by decide +kernel
theorem dX7_firstRowAt_0 : decode cX7_firstRowAt 0 = .ok (.aload_n 0, 1) := by decide +kernel
theorem dX7_firstRowAt_1 : decode cX7_firstRowAt 1 = .ok (.aload_n 1, 1) := by decide +kernel
theorem dX7_firstRowAt_2 : decode cX7_firstRowAt 2 = .ok (.aload_n 2, 1) := by decide +kernel
theorem dX7_firstRowAt_3 : decode cX7_firstRowAt 3 = .ok (.invokevirtual 54, 3) := by decide +kernel
theorem dX7_firstRowAt_6 : decode cX7_firstRowAt 6 = .ok (.aload_n 0, 1) := by decide +kernel
theorem dX7_firstRowAt_7 : decode cX7_firstRowAt 7 = .ok (.getfield 21, 3) := by decide +kernel
theorem dX7_firstRowAt_10 : decode cX7_firstRowAt 10 = .ok (.iconst 0, 1) := by decide +kernel
theorem dX7_firstRowAt_11 : decode cX7_firstRowAt 11 = .ok (.iaload, 1) := by decide +kernel
theorem dX7_firstRowAt_12 : decode cX7_firstRowAt 12 = .ok (.iload_n 3, 1) := by decide +kernel
theorem dX7_firstRowAt_13 : decode cX7_firstRowAt 13 = .ok (.invokestatic 58, 3) := by decide +kernel
theorem dX7_firstRowAt_16 : decode cX7_firstRowAt 16 = .ok (.ifCond .ne 5, 3) := by decide +kernel
theorem dX7_firstRowAt_19 : decode cX7_firstRowAt 19 = .ok (.iconst (-1), 1) := by decide +kernel
theorem dX7_firstRowAt_20 : decode cX7_firstRowAt 20 = .ok (.ireturn, 1) := by decide +kernel
theorem dX7_firstRowAt_21 : decode cX7_firstRowAt 21 = .ok (.iload_n 3, 1) := by decide +kernel
theorem dX7_firstRowAt_22 : decode cX7_firstRowAt 22 = .ok (.istore 5, 2) := by decide +kernel
theorem dX7_firstRowAt_24 : decode cX7_firstRowAt 24 = .ok (.iconst 1, 1) := by decide +kernel
theorem dX7_firstRowAt_25 : decode cX7_firstRowAt 25 = .ok (.istore 6, 2) := by decide +kernel
theorem dX7_firstRowAt_27 : decode cX7_firstRowAt 27 = .ok (.iconst (-1), 1) := by decide +kernel
theorem dX7_firstRowAt_28 : decode cX7_firstRowAt 28 = .ok (.istore 7, 2) := by decide +kernel
theorem dX7_firstRowAt_30 : decode cX7_firstRowAt 30 = .ok (.iconst 0, 1) := by decide +kernel
theorem dX7_firstRowAt_31 : decode cX7_firstRowAt 31 = .ok (.istore 8, 2) := by decide +kernel
theorem dX7_firstRowAt_33 : decode cX7_firstRowAt 33 = .ok (.iload 8, 2) := by decide +kernel
theorem dX7_firstRowAt_35 : decode cX7_firstRowAt 35 = .ok (.iload 4, 2) := by decide +kernel
theorem dX7_firstRowAt_37 : decode cX7_firstRowAt 37 = .ok (.if_icmp .gt 56, 3) := by decide +kernel
theorem dX7_firstRowAt_40 : decode cX7_firstRowAt 40 = .ok (.aload_n 0, 1) := by decide +kernel
theorem dX7_firstRowAt_41 : decode cX7_firstRowAt 41 = .ok (.aload_n 1, 1) := by decide +kernel
theorem dX7_firstRowAt_42 : decode cX7_firstRowAt 42 = .ok (.aload_n 2, 1) := by decide +kernel
theorem dX7_firstRowAt_43 : decode cX7_firstRowAt 43 = .ok (.iload 8, 2) := by decide +kernel
theorem dX7_firstRowAt_45 : decode cX7_firstRowAt 45 = .ok (.iload 5, 2) := by decide +kernel
theorem dX7_firstRowAt_47 : decode cX7_firstRowAt 47 = .ok (.iload 6, 2) := by decide +kernel
theorem dX7_firstRowAt_49 : decode cX7_firstRowAt 49 = .ok (.invokevirtual 62, 3) := by decide +kernel
theorem dX7_firstRowAt_52 : decode cX7_firstRowAt 52 = .ok (.istore 7, 2) := by decide +kernel
theorem dX7_firstRowAt_54 : decode cX7_firstRowAt 54 = .ok (.iload 6, 2) := by decide +kernel
theorem dX7_firstRowAt_56 : decode cX7_firstRowAt 56 = .ok (.ifCond .eq 12, 3) := by decide +kernel
theorem dX7_firstRowAt_59 : decode cX7_firstRowAt 59 = .ok (.iload 7, 2) := by decide +kernel
theorem dX7_firstRowAt_61 : decode cX7_firstRowAt 61 = .ok (.ifCond .ne 7, 3) := by decide +kernel
theorem dX7_firstRowAt_64 : decode cX7_firstRowAt 64 = .ok (.iconst 1, 1) := by decide +kernel
theorem dX7_firstRowAt_65 : decode cX7_firstRowAt 65 = .ok (.goto 4, 3) := by decide +kernel
theorem dX7_firstRowAt_68 : decode cX7_firstRowAt 68 = .ok (.iconst 0, 1) := by decide +kernel
theorem dX7_firstRowAt_69 : decode cX7_firstRowAt 69 = .ok (.istore 6, 2) := by decide +kernel
theorem dX7_firstRowAt_71 : decode cX7_firstRowAt 71 = .ok (.aload_n 1, 1) := by decide +kernel
theorem dX7_firstRowAt_72 : decode cX7_firstRowAt 72 = .ok (.aload_n 2, 1) := by decide +kernel
theorem dX7_firstRowAt_73 : decode cX7_firstRowAt 73 = .ok (.iload 8, 2) := by decide +kernel
theorem dX7_firstRowAt_75 : decode cX7_firstRowAt 75 = .ok (.invokevirtual 30, 3) := by decide +kernel
theorem dX7_firstRowAt_78 : decode cX7_firstRowAt 78 = .ok (.iload 5, 2) := by decide +kernel
theorem dX7_firstRowAt_80 : decode cX7_firstRowAt 80 = .ok (.iload 7, 2) := by decide +kernel
theorem dX7_firstRowAt_82 : decode cX7_firstRowAt 82 = .ok (.invokestatic 66, 3) := by decide +kernel
theorem dX7_firstRowAt_85 : decode cX7_firstRowAt 85 = .ok (.istore 5, 2) := by decide +kernel
theorem dX7_firstRowAt_87 : decode cX7_firstRowAt 87 = .ok (.iinc 8 1, 3) := by decide +kernel
theorem dX7_firstRowAt_90 : decode cX7_firstRowAt 90 = .ok (.goto (-57), 3) := by decide +kernel
theorem dX7_firstRowAt_93 : decode cX7_firstRowAt 93 = .ok (.iload 7, 2) := by decide +kernel
theorem dX7_firstRowAt_95 : decode cX7_firstRowAt 95 = .ok (.ireturn, 1) := by decide +kernel
theorem dX7_studyEnds_0 : decode cX7_studyEnds 0 = .ok (.aload_n 2, 1) := by decide +kernel
theorem dX7_studyEnds_1 : decode cX7_studyEnds 1 = .ok (.invokevirtual 24, 3) := by decide +kernel
theorem dX7_studyEnds_4 : decode cX7_studyEnds 4 = .ok (.bipush 12, 2) := by decide +kernel
theorem dX7_studyEnds_6 : decode cX7_studyEnds 6 = .ok (.invokestatic 70, 3) := by decide +kernel
theorem dX7_studyEnds_9 : decode cX7_studyEnds 9 = .ok (.istore_n 3, 1) := by decide +kernel
theorem dX7_studyEnds_10 : decode cX7_studyEnds 10 = .ok (.iload_n 3, 1) := by decide +kernel
theorem dX7_studyEnds_11 : decode cX7_studyEnds 11 = .ok (.ifCond .ge 4, 3) := by decide +kernel
theorem dX7_studyEnds_14 : decode cX7_studyEnds 14 = .ok (.return_, 1) := by decide +kernel
theorem dX7_studyEnds_15 : decode cX7_studyEnds 15 = .ok (.aload_n 0, 1) := by decide +kernel
theorem dX7_studyEnds_16 : decode cX7_studyEnds 16 = .ok (.getfield 18, 3) := by decide +kernel
theorem dX7_studyEnds_19 : decode cX7_studyEnds 19 = .ok (.iload_n 3, 1) := by decide +kernel
theorem dX7_studyEnds_20 : decode cX7_studyEnds 20 = .ok (.iconst 1, 1) := by decide +kernel
theorem dX7_studyEnds_21 : decode cX7_studyEnds 21 = .ok (.iastore, 1) := by decide +kernel
theorem dX7_studyEnds_22 : decode cX7_studyEnds 22 = .ok (.aload_n 0, 1) := by decide +kernel
theorem dX7_studyEnds_23 : decode cX7_studyEnds 23 = .ok (.getfield 21, 3) := by decide +kernel
theorem dX7_studyEnds_26 : decode cX7_studyEnds 26 = .ok (.iload_n 3, 1) := by decide +kernel
theorem dX7_studyEnds_27 : decode cX7_studyEnds 27 = .ok (.iconst 0, 1) := by decide +kernel
theorem dX7_studyEnds_28 : decode cX7_studyEnds 28 = .ok (.iastore, 1) := by decide +kernel
theorem dX7_studyEnds_29 : decode cX7_studyEnds 29 = .ok (.iload_n 3, 1) := by decide +kernel
theorem dX7_studyEnds_30 : decode cX7_studyEnds 30 = .ok (.iconst 1, 1) := by decide +kernel
theorem dX7_studyEnds_31 : decode cX7_studyEnds 31 = .ok (.isub, 1) := by decide +kernel
theorem dX7_studyEnds_32 : decode cX7_studyEnds 32 = .ok (.istore 4, 2) := by decide +kernel
theorem dX7_studyEnds_34 : decode cX7_studyEnds 34 = .ok (.iload 4, 2) := by decide +kernel
theorem dX7_studyEnds_36 : decode cX7_studyEnds 36 = .ok (.ifCond .lt 92, 3) := by decide +kernel
theorem dX7_studyEnds_39 : decode cX7_studyEnds 39 = .ok (.aload_n 2, 1) := by decide +kernel
theorem dX7_studyEnds_40 : decode cX7_studyEnds 40 = .ok (.iload 4, 2) := by decide +kernel
theorem dX7_studyEnds_42 : decode cX7_studyEnds 42 = .ok (.invokevirtual 30, 3) := by decide +kernel
theorem dX7_studyEnds_45 : decode cX7_studyEnds 45 = .ok (.istore 5, 2) := by decide +kernel
theorem dX7_studyEnds_47 : decode cX7_studyEnds 47 = .ok (.aload_n 1, 1) := by decide +kernel
theorem dX7_studyEnds_48 : decode cX7_studyEnds 48 = .ok (.aload_n 0, 1) := by decide +kernel
theorem dX7_studyEnds_49 : decode cX7_studyEnds 49 = .ok (.getfield 18, 3) := by decide +kernel
theorem dX7_studyEnds_52 : decode cX7_studyEnds 52 = .ok (.iload 4, 2) := by decide +kernel
theorem dX7_studyEnds_54 : decode cX7_studyEnds 54 = .ok (.iconst 1, 1) := by decide +kernel
theorem dX7_studyEnds_55 : decode cX7_studyEnds 55 = .ok (.iadd, 1) := by decide +kernel
theorem dX7_studyEnds_56 : decode cX7_studyEnds 56 = .ok (.iaload, 1) := by decide +kernel
theorem dX7_studyEnds_57 : decode cX7_studyEnds 57 = .ok (.iload 5, 2) := by decide +kernel
theorem dX7_studyEnds_59 : decode cX7_studyEnds 59 = .ok (.invokevirtual 75, 3) := by decide +kernel
theorem dX7_studyEnds_62 : decode cX7_studyEnds 62 = .ok (.aload_n 1, 1) := by decide +kernel
theorem dX7_studyEnds_63 : decode cX7_studyEnds 63 = .ok (.aload_n 0, 1) := by decide +kernel
theorem dX7_studyEnds_64 : decode cX7_studyEnds 64 = .ok (.getfield 18, 3) := by decide +kernel
theorem dX7_studyEnds_67 : decode cX7_studyEnds 67 = .ok (.iload 4, 2) := by decide +kernel
theorem dX7_studyEnds_69 : decode cX7_studyEnds 69 = .ok (.iconst 1, 1) := by decide +kernel
theorem dX7_studyEnds_70 : decode cX7_studyEnds 70 = .ok (.iadd, 1) := by decide +kernel
theorem dX7_studyEnds_71 : decode cX7_studyEnds 71 = .ok (.iaload, 1) := by decide +kernel
theorem dX7_studyEnds_72 : decode cX7_studyEnds 72 = .ok (.aload_n 1, 1) := by decide +kernel
theorem dX7_studyEnds_73 : decode cX7_studyEnds 73 = .ok (.iload 5, 2) := by decide +kernel
theorem dX7_studyEnds_75 : decode cX7_studyEnds 75 = .ok (.invokevirtual 38, 3) := by decide +kernel
theorem dX7_studyEnds_78 : decode cX7_studyEnds 78 = .ok (.invokevirtual 75, 3) := by decide +kernel
theorem dX7_studyEnds_81 : decode cX7_studyEnds 81 = .ok (.ior, 1) := by decide +kernel
theorem dX7_studyEnds_82 : decode cX7_studyEnds 82 = .ok (.istore 6, 2) := by decide +kernel
theorem dX7_studyEnds_84 : decode cX7_studyEnds 84 = .ok (.aload_n 0, 1) := by decide +kernel
theorem dX7_studyEnds_85 : decode cX7_studyEnds 85 = .ok (.getfield 18, 3) := by decide +kernel
theorem dX7_studyEnds_88 : decode cX7_studyEnds 88 = .ok (.iload 4, 2) := by decide +kernel
theorem dX7_studyEnds_90 : decode cX7_studyEnds 90 = .ok (.aload_n 0, 1) := by decide +kernel
theorem dX7_studyEnds_91 : decode cX7_studyEnds 91 = .ok (.getfield 18, 3) := by decide +kernel
theorem dX7_studyEnds_94 : decode cX7_studyEnds 94 = .ok (.iload 4, 2) := by decide +kernel
theorem dX7_studyEnds_96 : decode cX7_studyEnds 96 = .ok (.iconst 1, 1) := by decide +kernel
theorem dX7_studyEnds_97 : decode cX7_studyEnds 97 = .ok (.iadd, 1) := by decide +kernel
theorem dX7_studyEnds_98 : decode cX7_studyEnds 98 = .ok (.iaload, 1) := by decide +kernel
theorem dX7_studyEnds_99 : decode cX7_studyEnds 99 = .ok (.iload 6, 2) := by decide +kernel
theorem dX7_studyEnds_101 : decode cX7_studyEnds 101 = .ok (.ior, 1) := by decide +kernel
theorem dX7_studyEnds_102 : decode cX7_studyEnds 102 = .ok (.iastore, 1) := by decide +kernel
theorem dX7_studyEnds_103 : decode cX7_studyEnds 103 = .ok (.aload_n 0, 1) := by decide +kernel
theorem dX7_studyEnds_104 : decode cX7_studyEnds 104 = .ok (.getfield 21, 3) := by decide +kernel
theorem dX7_studyEnds_107 : decode cX7_studyEnds 107 = .ok (.iload 4, 2) := by decide +kernel
theorem dX7_studyEnds_109 : decode cX7_studyEnds 109 = .ok (.aload_n 0, 1) := by decide +kernel
theorem dX7_studyEnds_110 : decode cX7_studyEnds 110 = .ok (.getfield 21, 3) := by decide +kernel
theorem dX7_studyEnds_113 : decode cX7_studyEnds 113 = .ok (.iload 4, 2) := by decide +kernel
theorem dX7_studyEnds_115 : decode cX7_studyEnds 115 = .ok (.iconst 1, 1) := by decide +kernel
theorem dX7_studyEnds_116 : decode cX7_studyEnds 116 = .ok (.iadd, 1) := by decide +kernel
theorem dX7_studyEnds_117 : decode cX7_studyEnds 117 = .ok (.iaload, 1) := by decide +kernel
theorem dX7_studyEnds_118 : decode cX7_studyEnds 118 = .ok (.iload 6, 2) := by decide +kernel
theorem dX7_studyEnds_120 : decode cX7_studyEnds 120 = .ok (.ior, 1) := by decide +kernel
theorem dX7_studyEnds_121 : decode cX7_studyEnds 121 = .ok (.iastore, 1) := by decide +kernel
theorem dX7_studyEnds_122 : decode cX7_studyEnds 122 = .ok (.iinc 4 (-1), 3) := by decide +kernel
theorem dX7_studyEnds_125 : decode cX7_studyEnds 125 = .ok (.goto (-91), 3) := by decide +kernel
theorem dX7_studyEnds_128 : decode cX7_studyEnds 128 = .ok (.return_, 1) := by decide +kernel
theorem dX7_firstSign_0 : decode cX7_firstSign 0 = .ok (.iload_n 3, 1) := by decide +kernel
theorem dX7_firstSign_1 : decode cX7_firstSign 1 = .ok (.ifCond .lt 9, 3) := by decide +kernel
theorem dX7_firstSign_4 : decode cX7_firstSign 4 = .ok (.iload_n 3, 1) := by decide +kernel
theorem dX7_firstSign_5 : decode cX7_firstSign 5 = .ok (.bipush 12, 2) := by decide +kernel
theorem dX7_firstSign_7 : decode cX7_firstSign 7 = .ok (.if_icmp .lt 5, 3) := by decide +kernel
theorem dX7_firstSign_10 : decode cX7_firstSign 10 = .ok (.iconst (-1), 1) := by decide +kernel
theorem dX7_firstSign_11 : decode cX7_firstSign 11 = .ok (.ireturn, 1) := by decide +kernel
theorem dX7_firstSign_12 : decode cX7_firstSign 12 = .ok (.aload_n 2, 1) := by decide +kernel
theorem dX7_firstSign_13 : decode cX7_firstSign 13 = .ok (.iload_n 3, 1) := by decide +kernel
theorem dX7_firstSign_14 : decode cX7_firstSign 14 = .ok (.invokevirtual 30, 3) := by decide +kernel
theorem dX7_firstSign_17 : decode cX7_firstSign 17 = .ok (.istore 6, 2) := by decide +kernel
theorem dX7_firstSign_19 : decode cX7_firstSign 19 = .ok (.iload 5, 2) := by decide +kernel
theorem dX7_firstSign_21 : decode cX7_firstSign 21 = .ok (.ifCond .eq 14, 3) := by decide +kernel
theorem dX7_firstSign_24 : decode cX7_firstSign 24 = .ok (.aload_n 0, 1) := by decide +kernel
theorem dX7_firstSign_25 : decode cX7_firstSign 25 = .ok (.getfield 21, 3) := by decide +kernel
theorem dX7_firstSign_28 : decode cX7_firstSign 28 = .ok (.iload_n 3, 1) := by decide +kernel
theorem dX7_firstSign_29 : decode cX7_firstSign 29 = .ok (.iconst 1, 1) := by decide +kernel
theorem dX7_firstSign_30 : decode cX7_firstSign 30 = .ok (.iadd, 1) := by decide +kernel
theorem dX7_firstSign_31 : decode cX7_firstSign 31 = .ok (.iaload, 1) := by decide +kernel
theorem dX7_firstSign_32 : decode cX7_firstSign 32 = .ok (.goto 11, 3) := by decide +kernel
theorem dX7_firstSign_35 : decode cX7_firstSign 35 = .ok (.aload_n 0, 1) := by decide +kernel
theorem dX7_firstSign_36 : decode cX7_firstSign 36 = .ok (.getfield 18, 3) := by decide +kernel
theorem dX7_firstSign_39 : decode cX7_firstSign 39 = .ok (.iload_n 3, 1) := by decide +kernel
theorem dX7_firstSign_40 : decode cX7_firstSign 40 = .ok (.iconst 1, 1) := by decide +kernel
theorem dX7_firstSign_41 : decode cX7_firstSign 41 = .ok (.iadd, 1) := by decide +kernel
theorem dX7_firstSign_42 : decode cX7_firstSign 42 = .ok (.iaload, 1) := by decide +kernel
theorem dX7_firstSign_43 : decode cX7_firstSign 43 = .ok (.iload 4, 2) := by decide +kernel
theorem dX7_firstSign_45 : decode cX7_firstSign 45 = .ok (.invokestatic 58, 3) := by decide +kernel
theorem dX7_firstSign_48 : decode cX7_firstSign 48 = .ok (.ifCond .eq 5, 3) := by decide +kernel
theorem dX7_firstSign_51 : decode cX7_firstSign 51 = .ok (.iconst 0, 1) := by decide +kernel
theorem dX7_firstSign_52 : decode cX7_firstSign 52 = .ok (.ireturn, 1) := by decide +kernel
theorem dX7_firstSign_53 : decode cX7_firstSign 53 = .ok (.aload_n 1, 1) := by decide +kernel
theorem dX7_firstSign_54 : decode cX7_firstSign 54 = .ok (.iload 6, 2) := by decide +kernel
theorem dX7_firstSign_56 : decode cX7_firstSign 56 = .ok (.iload 4, 2) := by decide +kernel
theorem dX7_firstSign_58 : decode cX7_firstSign 58 = .ok (.iconst 1, 1) := by decide +kernel
theorem dX7_firstSign_59 : decode cX7_firstSign 59 = .ok (.invokestatic 66, 3) := by decide +kernel
theorem dX7_firstSign_62 : decode cX7_firstSign 62 = .ok (.istore 7, 2) := by decide +kernel
theorem dX7_firstSign_64 : decode cX7_firstSign 64 = .ok (.aload_n 0, 1) := by decide +kernel
theorem dX7_firstSign_65 : decode cX7_firstSign 65 = .ok (.getfield 18, 3) := by decide +kernel
theorem dX7_firstSign_68 : decode cX7_firstSign 68 = .ok (.iload_n 3, 1) := by decide +kernel
theorem dX7_firstSign_69 : decode cX7_firstSign 69 = .ok (.iconst 1, 1) := by decide +kernel
theorem dX7_firstSign_70 : decode cX7_firstSign 70 = .ok (.iadd, 1) := by decide +kernel
theorem dX7_firstSign_71 : decode cX7_firstSign 71 = .ok (.iaload, 1) := by decide +kernel
theorem dX7_firstSign_72 : decode cX7_firstSign 72 = .ok (.iload 7, 2) := by decide +kernel
theorem dX7_firstSign_74 : decode cX7_firstSign 74 = .ok (.invokestatic 58, 3) := by decide +kernel
theorem dX7_firstSign_77 : decode cX7_firstSign 77 = .ok (.ifCond .eq 7, 3) := by decide +kernel
theorem dX7_firstSign_80 : decode cX7_firstSign 80 = .ok (.iconst 1, 1) := by decide +kernel
theorem dX7_firstSign_81 : decode cX7_firstSign 81 = .ok (.goto 4, 3) := by decide +kernel
theorem dX7_firstSign_84 : decode cX7_firstSign 84 = .ok (.iconst 2, 1) := by decide +kernel
theorem dX7_firstSign_85 : decode cX7_firstSign 85 = .ok (.ireturn, 1) := by decide +kernel
theorem dX7_wantedBehind_0 : decode cX7_wantedBehind 0 = .ok (.iload_n 3, 1) := by decide +kernel
theorem dX7_wantedBehind_1 : decode cX7_wantedBehind 1 = .ok (.iconst 1, 1) := by decide +kernel
theorem dX7_wantedBehind_2 : decode cX7_wantedBehind 2 = .ok (.if_icmp .ne 14, 3) := by decide +kernel
theorem dX7_wantedBehind_5 : decode cX7_wantedBehind 5 = .ok (.aload_n 0, 1) := by decide +kernel
theorem dX7_wantedBehind_6 : decode cX7_wantedBehind 6 = .ok (.iload_n 2, 1) := by decide +kernel
theorem dX7_wantedBehind_7 : decode cX7_wantedBehind 7 = .ok (.aload_n 0, 1) := by decide +kernel
theorem dX7_wantedBehind_8 : decode cX7_wantedBehind 8 = .ok (.iload_n 1, 1) := by decide +kernel
theorem dX7_wantedBehind_9 : decode cX7_wantedBehind 9 = .ok (.invokevirtual 38, 3) := by decide +kernel
theorem dX7_wantedBehind_12 : decode cX7_wantedBehind 12 = .ok (.invokevirtual 46, 3) := by decide +kernel
theorem dX7_wantedBehind_15 : decode cX7_wantedBehind 15 = .ok (.ireturn, 1) := by decide +kernel
theorem dX7_wantedBehind_16 : decode cX7_wantedBehind 16 = .ok (.iload_n 3, 1) := by decide +kernel
theorem dX7_wantedBehind_17 : decode cX7_wantedBehind 17 = .ok (.iconst 2, 1) := by decide +kernel
theorem dX7_wantedBehind_18 : decode cX7_wantedBehind 18 = .ok (.if_icmp .ne 12, 3) := by decide +kernel
theorem dX7_wantedBehind_21 : decode cX7_wantedBehind 21 = .ok (.aload_n 0, 1) := by decide +kernel
theorem dX7_wantedBehind_22 : decode cX7_wantedBehind 22 = .ok (.iload_n 2, 1) := by decide +kernel
theorem dX7_wantedBehind_23 : decode cX7_wantedBehind 23 = .ok (.iload_n 1, 1) := by decide +kernel
theorem dX7_wantedBehind_24 : decode cX7_wantedBehind 24 = .ok (.invokevirtual 46, 3) := by decide +kernel
theorem dX7_wantedBehind_27 : decode cX7_wantedBehind 27 = .ok (.goto 4, 3) := by decide +kernel
theorem dX7_wantedBehind_30 : decode cX7_wantedBehind 30 = .ok (.iload_n 2, 1) := by decide +kernel
theorem dX7_wantedBehind_31 : decode cX7_wantedBehind 31 = .ok (.ireturn, 1) := by decide +kernel
theorem dX8_init_0 : decode cX8_init 0 = .ok (.aload_n 0, 1) := by decide +kernel
theorem dX8_init_1 : decode cX8_init 1 = .ok (.invokespecial 3, 3) := by decide +kernel
theorem dX8_init_4 : decode cX8_init 4 = .ok (.aload_n 0, 1) := by decide +kernel
theorem dX8_init_5 : decode cX8_init 5 = .ok (.bipush 13, 2) := by decide +kernel
theorem dX8_init_7 : decode cX8_init 7 = .ok (.bipush 13, 2) := by decide +kernel
theorem dX8_init_9 : decode cX8_init 9 = .ok (.multianewarray 9 2, 4) := by decide +kernel
theorem dX8_init_13 : decode cX8_init 13 = .ok (.putfield 11, 3) := by decide +kernel
theorem dX8_init_16 : decode cX8_init 16 = .ok (.aload_n 0, 1) := by decide +kernel
theorem dX8_init_17 : decode cX8_init 17 = .ok (.bipush 13, 2) := by decide +kernel
theorem dX8_init_19 : decode cX8_init 19 = .ok (.bipush 24, 2) := by decide +kernel
theorem dX8_init_21 : decode cX8_init 21 = .ok (.multianewarray 9 2, 4) := by decide +kernel
theorem dX8_init_25 : decode cX8_init 25 = .ok (.putfield 16, 3) := by decide +kernel
theorem dX8_init_28 : decode cX8_init 28 = .ok (.aload_n 0, 1) := by decide +kernel
theorem dX8_init_29 : decode cX8_init 29 = .ok (.iconst 0, 1) := by decide +kernel
theorem dX8_init_30 : decode cX8_init 30 = .ok (.putfield 19, 3) := by decide +kernel
theorem dX8_init_33 : decode cX8_init 33 = .ok (.return_, 1) := by decide +kernel
theorem dX8_study_0 : decode cX8_study 0 = .ok (.aload_n 0, 1) := by decide +kernel
theorem dX8_study_1 : decode cX8_study 1 = .ok (.aload_n 2, 1) := by decide +kernel
theorem dX8_study_2 : decode cX8_study 2 = .ok (.invokevirtual 23, 3) := by decide +kernel
theorem dX8_study_5 : decode cX8_study 5 = .ok (.putfield 19, 3) := by decide +kernel
theorem dX8_study_8 : decode cX8_study 8 = .ok (.iconst 0, 1) := by decide +kernel
theorem dX8_study_9 : decode cX8_study 9 = .ok (.istore_n 3, 1) := by decide +kernel
theorem dX8_study_10 : decode cX8_study 10 = .ok (.iload_n 3, 1) := by decide +kernel
theorem dX8_study_11 : decode cX8_study 11 = .ok (.bipush 12, 2) := by decide +kernel
theorem dX8_study_13 : decode cX8_study 13 = .ok (.if_icmp .gt 26, 3) := by decide +kernel
theorem dX8_study_16 : decode cX8_study 16 = .ok (.aload_n 0, 1) := by decide +kernel
theorem dX8_study_17 : decode cX8_study 17 = .ok (.getfield 11, 3) := by decide +kernel
theorem dX8_study_20 : decode cX8_study 20 = .ok (.iconst 0, 1) := by decide +kernel
theorem dX8_study_21 : decode cX8_study 21 = .ok (.aaload, 1) := by decide +kernel
theorem dX8_study_22 : decode cX8_study 22 = .ok (.iload_n 3, 1) := by decide +kernel
theorem dX8_study_23 : decode cX8_study 23 = .ok (.iload_n 3, 1) := by decide +kernel
theorem dX8_study_24 : decode cX8_study 24 = .ok (.ifCond .ne 7, 3) := by decide +kernel
theorem dX8_study_27 : decode cX8_study 27 = .ok (.iconst 1, 1) := by decide +kernel
theorem dX8_study_28 : decode cX8_study 28 = .ok (.goto 4, 3) := by decide +kernel
theorem dX8_study_31 : decode cX8_study 31 = .ok (.iconst 0, 1) := by decide +kernel
theorem dX8_study_32 : decode cX8_study 32 = .ok (.iastore, 1) := by decide +kernel
theorem dX8_study_33 : decode cX8_study 33 = .ok (.iinc 3 1, 3) := by decide +kernel
theorem dX8_study_36 : decode cX8_study 36 = .ok (.goto (-26), 3) := by decide +kernel
theorem dX8_study_39 : decode cX8_study 39 = .ok (.iconst 1, 1) := by decide +kernel
theorem dX8_study_40 : decode cX8_study 40 = .ok (.istore_n 3, 1) := by decide +kernel
theorem dX8_study_41 : decode cX8_study 41 = .ok (.iload_n 3, 1) := by decide +kernel
theorem dX8_study_42 : decode cX8_study 42 = .ok (.aload_n 0, 1) := by decide +kernel
theorem dX8_study_43 : decode cX8_study 43 = .ok (.getfield 19, 3) := by decide +kernel
theorem dX8_study_46 : decode cX8_study 46 = .ok (.if_icmp .gt 85, 3) := by decide +kernel
theorem dX8_study_49 : decode cX8_study 49 = .ok (.iload_n 3, 1) := by decide +kernel
theorem dX8_study_50 : decode cX8_study 50 = .ok (.bipush 12, 2) := by decide +kernel
theorem dX8_study_52 : decode cX8_study 52 = .ok (.if_icmp .gt 79, 3) := by decide +kernel
theorem dX8_study_55 : decode cX8_study 55 = .ok (.aload_n 0, 1) := by decide +kernel
theorem dX8_study_56 : decode cX8_study 56 = .ok (.getfield 11, 3) := by decide +kernel
theorem dX8_study_59 : decode cX8_study 59 = .ok (.iload_n 3, 1) := by decide +kernel
theorem dX8_study_60 : decode cX8_study 60 = .ok (.aaload, 1) := by decide +kernel
theorem dX8_study_61 : decode cX8_study 61 = .ok (.iconst 0, 1) := by decide +kernel
theorem dX8_study_62 : decode cX8_study 62 = .ok (.iconst 1, 1) := by decide +kernel
theorem dX8_study_63 : decode cX8_study 63 = .ok (.iastore, 1) := by decide +kernel
theorem dX8_study_64 : decode cX8_study 64 = .ok (.iconst 1, 1) := by decide +kernel
theorem dX8_study_65 : decode cX8_study 65 = .ok (.istore 4, 2) := by decide +kernel
theorem dX8_study_67 : decode cX8_study 67 = .ok (.iload 4, 2) := by decide +kernel
theorem dX8_study_69 : decode cX8_study 69 = .ok (.bipush 12, 2) := by decide +kernel
theorem dX8_study_71 : decode cX8_study 71 = .ok (.if_icmp .gt 54, 3) := by decide +kernel
theorem dX8_study_74 : decode cX8_study 74 = .ok (.aload_n 0, 1) := by decide +kernel
theorem dX8_study_75 : decode cX8_study 75 = .ok (.getfield 11, 3) := by decide +kernel
theorem dX8_study_78 : decode cX8_study 78 = .ok (.iload_n 3, 1) := by decide +kernel
theorem dX8_study_79 : decode cX8_study 79 = .ok (.aaload, 1) := by decide +kernel
theorem dX8_study_80 : decode cX8_study 80 = .ok (.iload 4, 2) := by decide +kernel
theorem dX8_study_82 : decode cX8_study 82 = .ok (.aload_n 0, 1) := by decide +kernel
theorem dX8_study_83 : decode cX8_study 83 = .ok (.getfield 11, 3) := by decide +kernel
theorem dX8_study_86 : decode cX8_study 86 = .ok (.iload_n 3, 1) := by decide +kernel
theorem dX8_study_87 : decode cX8_study 87 = .ok (.iconst 1, 1) := by decide +kernel
theorem dX8_study_88 : decode cX8_study 88 = .ok (.isub, 1) := by decide +kernel
theorem dX8_study_89 : decode cX8_study 89 = .ok (.aaload, 1) := by decide +kernel
theorem dX8_study_90 : decode cX8_study 90 = .ok (.iload 4, 2) := by decide +kernel
theorem dX8_study_92 : decode cX8_study 92 = .ok (.iaload, 1) := by decide +kernel
theorem dX8_study_93 : decode cX8_study 93 = .ok (.aload_n 1, 1) := by decide +kernel
theorem dX8_study_94 : decode cX8_study 94 = .ok (.aload_n 0, 1) := by decide +kernel
theorem dX8_study_95 : decode cX8_study 95 = .ok (.getfield 11, 3) := by decide +kernel
theorem dX8_study_98 : decode cX8_study 98 = .ok (.iload_n 3, 1) := by decide +kernel
theorem dX8_study_99 : decode cX8_study 99 = .ok (.iconst 1, 1) := by decide +kernel
theorem dX8_study_100 : decode cX8_study 100 = .ok (.isub, 1) := by decide +kernel
theorem dX8_study_101 : decode cX8_study 101 = .ok (.aaload, 1) := by decide +kernel
theorem dX8_study_102 : decode cX8_study 102 = .ok (.iload 4, 2) := by decide +kernel
theorem dX8_study_104 : decode cX8_study 104 = .ok (.iconst 1, 1) := by decide +kernel
theorem dX8_study_105 : decode cX8_study 105 = .ok (.isub, 1) := by decide +kernel
theorem dX8_study_106 : decode cX8_study 106 = .ok (.iaload, 1) := by decide +kernel
theorem dX8_study_107 : decode cX8_study 107 = .ok (.aload_n 2, 1) := by decide +kernel
theorem dX8_study_108 : decode cX8_study 108 = .ok (.iload_n 3, 1) := by decide +kernel
theorem dX8_study_109 : decode cX8_study 109 = .ok (.iconst 1, 1) := by decide +kernel
theorem dX8_study_110 : decode cX8_study 110 = .ok (.isub, 1) := by decide +kernel
theorem dX8_study_111 : decode cX8_study 111 = .ok (.invokevirtual 29, 3) := by decide +kernel
theorem dX8_study_114 : decode cX8_study 114 = .ok (.invokevirtual 33, 3) := by decide +kernel
theorem dX8_study_117 : decode cX8_study 117 = .ok (.ior, 1) := by decide +kernel
theorem dX8_study_118 : decode cX8_study 118 = .ok (.iastore, 1) := by decide +kernel
theorem dX8_study_119 : decode cX8_study 119 = .ok (.iinc 4 1, 3) := by decide +kernel
theorem dX8_study_122 : decode cX8_study 122 = .ok (.goto (-55), 3) := by decide +kernel
theorem dX8_study_125 : decode cX8_study 125 = .ok (.iinc 3 1, 3) := by decide +kernel
theorem dX8_study_128 : decode cX8_study 128 = .ok (.goto (-87), 3) := by decide +kernel
theorem dX8_study_131 : decode cX8_study 131 = .ok (.return_, 1) := by decide +kernel
theorem dX8_makes_0 : decode cX8_makes 0 = .ok (.iload_n 1, 1) := by decide +kernel
theorem dX8_makes_1 : decode cX8_makes 1 = .ok (.ifCond .lt 38, 3) := by decide +kernel
theorem dX8_makes_4 : decode cX8_makes 4 = .ok (.iload_n 1, 1) := by decide +kernel
theorem dX8_makes_5 : decode cX8_makes 5 = .ok (.bipush 12, 2) := by decide +kernel
theorem dX8_makes_7 : decode cX8_makes 7 = .ok (.if_icmp .gt 32, 3) := by decide +kernel
theorem dX8_makes_10 : decode cX8_makes 10 = .ok (.iload_n 2, 1) := by decide +kernel
theorem dX8_makes_11 : decode cX8_makes 11 = .ok (.ifCond .lt 28, 3) := by decide +kernel
theorem dX8_makes_14 : decode cX8_makes 14 = .ok (.iload_n 2, 1) := by decide +kernel
theorem dX8_makes_15 : decode cX8_makes 15 = .ok (.bipush 12, 2) := by decide +kernel
theorem dX8_makes_17 : decode cX8_makes 17 = .ok (.if_icmp .gt 22, 3) := by decide +kernel
theorem dX8_makes_20 : decode cX8_makes 20 = .ok (.aload_n 0, 1) := by decide +kernel
theorem dX8_makes_21 : decode cX8_makes 21 = .ok (.getfield 11, 3) := by decide +kernel
theorem dX8_makes_24 : decode cX8_makes 24 = .ok (.iload_n 1, 1) := by decide +kernel
theorem dX8_makes_25 : decode cX8_makes 25 = .ok (.aaload, 1) := by decide +kernel
theorem dX8_makes_26 : decode cX8_makes 26 = .ok (.iload_n 2, 1) := by decide +kernel
theorem dX8_makes_27 : decode cX8_makes 27 = .ok (.iaload, 1) := by decide +kernel
theorem dX8_makes_28 : decode cX8_makes 28 = .ok (.iload_n 3, 1) := by decide +kernel
theorem dX8_makes_29 : decode cX8_makes 29 = .ok (.invokestatic 39, 3) := by decide +kernel
theorem dX8_makes_32 : decode cX8_makes 32 = .ok (.ifCond .eq 7, 3) := by decide +kernel
theorem dX8_makes_35 : decode cX8_makes 35 = .ok (.iconst 1, 1) := by decide +kernel
theorem dX8_makes_36 : decode cX8_makes 36 = .ok (.goto 4, 3) := by decide +kernel
theorem dX8_makes_39 : decode cX8_makes 39 = .ok (.iconst 0, 1) := by decide +kernel
theorem dX8_makes_40 : decode cX8_makes 40 = .ok (.ireturn, 1) := by decide +kernel
theorem dX8_canMake_0 : decode cX8_canMake 0 = .ok (.aload_n 0, 1) := by decide +kernel
theorem dX8_canMake_1 : decode cX8_canMake 1 = .ok (.aload_n 0, 1) := by decide +kernel
theorem dX8_canMake_2 : decode cX8_canMake 2 = .ok (.getfield 19, 3) := by decide +kernel
theorem dX8_canMake_5 : decode cX8_canMake 5 = .ok (.iload_n 2, 1) := by decide +kernel
theorem dX8_canMake_6 : decode cX8_canMake 6 = .ok (.iload_n 1, 1) := by decide +kernel
theorem dX8_canMake_7 : decode cX8_canMake 7 = .ok (.invokevirtual 43, 3) := by decide +kernel
theorem dX8_canMake_10 : decode cX8_canMake 10 = .ok (.ireturn, 1) := by decide +kernel
theorem dX8_allSums_0 : decode cX8_allSums 0 = .ok (.iconst 0, 1) := by decide +kernel
theorem dX8_allSums_1 : decode cX8_allSums 1 = .ok (.istore_n 1, 1) := by decide +kernel
theorem dX8_allSums_2 : decode cX8_allSums 2 = .ok (.iconst 1, 1) := by decide +kernel
theorem dX8_allSums_3 : decode cX8_allSums 3 = .ok (.istore_n 2, 1) := by decide +kernel
theorem dX8_allSums_4 : decode cX8_allSums 4 = .ok (.iload_n 2, 1) := by decide +kernel
theorem dX8_allSums_5 : decode cX8_allSums 5 = .ok (.aload_n 0, 1) := by decide +kernel
theorem dX8_allSums_6 : decode cX8_allSums 6 = .ok (.getfield 19, 3) := by decide +kernel
theorem dX8_allSums_9 : decode cX8_allSums 9 = .ok (.if_icmp .gt 38, 3) := by decide +kernel
theorem dX8_allSums_12 : decode cX8_allSums 12 = .ok (.iload_n 2, 1) := by decide +kernel
theorem dX8_allSums_13 : decode cX8_allSums 13 = .ok (.bipush 12, 2) := by decide +kernel
theorem dX8_allSums_15 : decode cX8_allSums 15 = .ok (.if_icmp .gt 32, 3) := by decide +kernel
theorem dX8_allSums_18 : decode cX8_allSums 18 = .ok (.aload_n 0, 1) := by decide +kernel
theorem dX8_allSums_19 : decode cX8_allSums 19 = .ok (.getfield 19, 3) := by decide +kernel
theorem dX8_allSums_22 : decode cX8_allSums 22 = .ok (.bipush 12, 2) := by decide +kernel
theorem dX8_allSums_24 : decode cX8_allSums 24 = .ok (.if_icmp .gt 23, 3) := by decide +kernel
theorem dX8_allSums_27 : decode cX8_allSums 27 = .ok (.iload_n 1, 1) := by decide +kernel
theorem dX8_allSums_28 : decode cX8_allSums 28 = .ok (.aload_n 0, 1) := by decide +kernel
theorem dX8_allSums_29 : decode cX8_allSums 29 = .ok (.getfield 11, 3) := by decide +kernel
theorem dX8_allSums_32 : decode cX8_allSums 32 = .ok (.aload_n 0, 1) := by decide +kernel
theorem dX8_allSums_33 : decode cX8_allSums 33 = .ok (.getfield 19, 3) := by decide +kernel
theorem dX8_allSums_36 : decode cX8_allSums 36 = .ok (.aaload, 1) := by decide +kernel
theorem dX8_allSums_37 : decode cX8_allSums 37 = .ok (.iload_n 2, 1) := by decide +kernel
theorem dX8_allSums_38 : decode cX8_allSums 38 = .ok (.iaload, 1) := by decide +kernel
theorem dX8_allSums_39 : decode cX8_allSums 39 = .ok (.ior, 1) := by decide +kernel
theorem dX8_allSums_40 : decode cX8_allSums 40 = .ok (.istore_n 1, 1) := by decide +kernel
theorem dX8_allSums_41 : decode cX8_allSums 41 = .ok (.iinc 2 1, 3) := by decide +kernel
theorem dX8_allSums_44 : decode cX8_allSums 44 = .ok (.goto (-40), 3) := by decide +kernel
theorem dX8_allSums_47 : decode cX8_allSums 47 = .ok (.iload_n 1, 1) := by decide +kernel
theorem dX8_allSums_48 : decode cX8_allSums 48 = .ok (.ireturn, 1) := by decide +kernel
theorem dX8_hasNought_0 : decode cX8_hasNought 0 = .ok (.aload_n 0, 1) := by decide +kernel
theorem dX8_hasNought_1 : decode cX8_hasNought 1 = .ok (.invokevirtual 47, 3) := by decide +kernel
theorem dX8_hasNought_4 : decode cX8_hasNought 4 = .ok (.iconst 0, 1) := by decide +kernel
theorem dX8_hasNought_5 : decode cX8_hasNought 5 = .ok (.invokestatic 39, 3) := by decide +kernel
theorem dX8_hasNought_8 : decode cX8_hasNought 8 = .ok (.ireturn, 1) := by decide +kernel
theorem dX8_hasLesserNought_0 : decode cX8_hasLesserNought 0 = .ok (.aload_n 0, 1) := by decide +kernel
theorem dX8_hasLesserNought_1 : decode cX8_hasLesserNought 1 = .ok (.iconst 0, 1) := by decide +kernel
theorem dX8_hasLesserNought_2 : decode cX8_hasLesserNought 2 = .ok (.invokevirtual 50, 3) := by decide +kernel
theorem dX8_hasLesserNought_5 : decode cX8_hasLesserNought 5 = .ok (.istore_n 1, 1) := by decide +kernel
theorem dX8_hasLesserNought_6 : decode cX8_hasLesserNought 6 = .ok (.iload_n 1, 1) := by decide +kernel
theorem dX8_hasLesserNought_7 : decode cX8_hasLesserNought 7 = .ok (.iconst (-1), 1) := by decide +kernel
theorem dX8_hasLesserNought_8 : decode cX8_hasLesserNought 8 = .ok (.if_icmp .eq 15, 3) := by decide +kernel
theorem dX8_hasLesserNought_11 : decode cX8_hasLesserNought 11 = .ok (.iload_n 1, 1) := by decide +kernel
theorem dX8_hasLesserNought_12 : decode cX8_hasLesserNought 12 = .ok (.aload_n 0, 1) := by decide +kernel
theorem dX8_hasLesserNought_13 : decode cX8_hasLesserNought 13 = .ok (.getfield 19, 3) := by decide +kernel
theorem dX8_hasLesserNought_16 : decode cX8_hasLesserNought 16 = .ok (.if_icmp .ge 7, 3) := by decide +kernel
theorem dX8_hasLesserNought_19 : decode cX8_hasLesserNought 19 = .ok (.iconst 1, 1) := by decide +kernel
theorem dX8_hasLesserNought_20 : decode cX8_hasLesserNought 20 = .ok (.goto 4, 3) := by decide +kernel
theorem dX8_hasLesserNought_23 : decode cX8_hasLesserNought 23 = .ok (.iconst 0, 1) := by decide +kernel
theorem dX8_hasLesserNought_24 : decode cX8_hasLesserNought 24 = .ok (.ireturn, 1) := by decide +kernel
theorem dX8_fewestPlaces_0 : decode cX8_fewestPlaces 0 = .ok (.iconst 1, 1) := by decide +kernel
theorem dX8_fewestPlaces_1 : decode cX8_fewestPlaces 1 = .ok (.istore_n 2, 1) := by decide +kernel
theorem dX8_fewestPlaces_2 : decode cX8_fewestPlaces 2 = .ok (.iload_n 2, 1) := by decide +kernel
theorem dX8_fewestPlaces_3 : decode cX8_fewestPlaces 3 = .ok (.aload_n 0, 1) := by decide +kernel
theorem dX8_fewestPlaces_4 : decode cX8_fewestPlaces 4 = .ok (.getfield 19, 3) := by decide +kernel
theorem dX8_fewestPlaces_7 : decode cX8_fewestPlaces 7 = .ok (.if_icmp .gt 20, 3) := by decide +kernel
theorem dX8_fewestPlaces_10 : decode cX8_fewestPlaces 10 = .ok (.aload_n 0, 1) := by decide +kernel
theorem dX8_fewestPlaces_11 : decode cX8_fewestPlaces 11 = .ok (.iload_n 1, 1) := by decide +kernel
theorem dX8_fewestPlaces_12 : decode cX8_fewestPlaces 12 = .ok (.iload_n 2, 1) := by decide +kernel
theorem dX8_fewestPlaces_13 : decode cX8_fewestPlaces 13 = .ok (.invokevirtual 53, 3) := by decide +kernel
theorem dX8_fewestPlaces_16 : decode cX8_fewestPlaces 16 = .ok (.ifCond .eq 5, 3) := by decide +kernel
theorem dX8_fewestPlaces_19 : decode cX8_fewestPlaces 19 = .ok (.iload_n 2, 1) := by decide +kernel
theorem dX8_fewestPlaces_20 : decode cX8_fewestPlaces 20 = .ok (.ireturn, 1) := by decide +kernel
theorem dX8_fewestPlaces_21 : decode cX8_fewestPlaces 21 = .ok (.iinc 2 1, 3) := by decide +kernel
theorem dX8_fewestPlaces_24 : decode cX8_fewestPlaces 24 = .ok (.goto (-22), 3) := by decide +kernel
theorem dX8_fewestPlaces_27 : decode cX8_fewestPlaces 27 = .ok (.iconst (-1), 1) := by decide +kernel
theorem dX8_fewestPlaces_28 : decode cX8_fewestPlaces 28 = .ok (.ireturn, 1) := by decide +kernel
theorem dX8_leastSet_0 : decode cX8_leastSet 0 = .ok (.iconst 0, 1) := by decide +kernel
theorem dX8_leastSet_1 : decode cX8_leastSet 1 = .ok (.istore 5, 2) := by decide +kernel
theorem dX8_leastSet_3 : decode cX8_leastSet 3 = .ok (.iload_n 3, 1) := by decide +kernel
theorem dX8_leastSet_4 : decode cX8_leastSet 4 = .ok (.istore 6, 2) := by decide +kernel
theorem dX8_leastSet_6 : decode cX8_leastSet 6 = .ok (.iload 4, 2) := by decide +kernel
theorem dX8_leastSet_8 : decode cX8_leastSet 8 = .ok (.istore 7, 2) := by decide +kernel
theorem dX8_leastSet_10 : decode cX8_leastSet 10 = .ok (.aload_n 0, 1) := by decide +kernel
theorem dX8_leastSet_11 : decode cX8_leastSet 11 = .ok (.getfield 19, 3) := by decide +kernel
theorem dX8_leastSet_14 : decode cX8_leastSet 14 = .ok (.iconst 1, 1) := by decide +kernel
theorem dX8_leastSet_15 : decode cX8_leastSet 15 = .ok (.isub, 1) := by decide +kernel
theorem dX8_leastSet_16 : decode cX8_leastSet 16 = .ok (.istore 8, 2) := by decide +kernel
theorem dX8_leastSet_18 : decode cX8_leastSet 18 = .ok (.iload 8, 2) := by decide +kernel
theorem dX8_leastSet_20 : decode cX8_leastSet 20 = .ok (.ifCond .lt 52, 3) := by decide +kernel
theorem dX8_leastSet_23 : decode cX8_leastSet 23 = .ok (.aload_n 0, 1) := by decide +kernel
theorem dX8_leastSet_24 : decode cX8_leastSet 24 = .ok (.iload 8, 2) := by decide +kernel
theorem dX8_leastSet_26 : decode cX8_leastSet 26 = .ok (.iload 7, 2) := by decide +kernel
theorem dX8_leastSet_28 : decode cX8_leastSet 28 = .ok (.iload 6, 2) := by decide +kernel
theorem dX8_leastSet_30 : decode cX8_leastSet 30 = .ok (.invokevirtual 43, 3) := by decide +kernel
theorem dX8_leastSet_33 : decode cX8_leastSet 33 = .ok (.ifCond .ne 33, 3) := by decide +kernel
theorem dX8_leastSet_36 : decode cX8_leastSet 36 = .ok (.iload 5, 2) := by decide +kernel
theorem dX8_leastSet_38 : decode cX8_leastSet 38 = .ok (.iconst 1, 1) := by decide +kernel
theorem dX8_leastSet_39 : decode cX8_leastSet 39 = .ok (.iload 8, 2) := by decide +kernel
theorem dX8_leastSet_41 : decode cX8_leastSet 41 = .ok (.ishl, 1) := by decide +kernel
theorem dX8_leastSet_42 : decode cX8_leastSet 42 = .ok (.ior, 1) := by decide +kernel
theorem dX8_leastSet_43 : decode cX8_leastSet 43 = .ok (.istore 5, 2) := by decide +kernel
theorem dX8_leastSet_45 : decode cX8_leastSet 45 = .ok (.aload_n 1, 1) := by decide +kernel
theorem dX8_leastSet_46 : decode cX8_leastSet 46 = .ok (.iload 6, 2) := by decide +kernel
theorem dX8_leastSet_48 : decode cX8_leastSet 48 = .ok (.aload_n 1, 1) := by decide +kernel
theorem dX8_leastSet_49 : decode cX8_leastSet 49 = .ok (.aload_n 2, 1) := by decide +kernel
theorem dX8_leastSet_50 : decode cX8_leastSet 50 = .ok (.iload 8, 2) := by decide +kernel
theorem dX8_leastSet_52 : decode cX8_leastSet 52 = .ok (.invokevirtual 29, 3) := by decide +kernel
theorem dX8_leastSet_55 : decode cX8_leastSet 55 = .ok (.invokevirtual 56, 3) := by decide +kernel
theorem dX8_leastSet_58 : decode cX8_leastSet 58 = .ok (.invokevirtual 59, 3) := by decide +kernel
theorem dX8_leastSet_61 : decode cX8_leastSet 61 = .ok (.istore 6, 2) := by decide +kernel
theorem dX8_leastSet_63 : decode cX8_leastSet 63 = .ok (.iinc 7 (-1), 3) := by decide +kernel
theorem dX8_leastSet_66 : decode cX8_leastSet 66 = .ok (.iinc 8 (-1), 3) := by decide +kernel
theorem dX8_leastSet_69 : decode cX8_leastSet 69 = .ok (.goto (-51), 3) := by decide +kernel
theorem dX8_leastSet_72 : decode cX8_leastSet 72 = .ok (.iload 5, 2) := by decide +kernel
theorem dX8_leastSet_74 : decode cX8_leastSet 74 = .ok (.ireturn, 1) := by decide +kernel
theorem dX8_countWays_0 : decode cX8_countWays 0 = .ok (.iconst 0, 1) := by decide +kernel
theorem dX8_countWays_1 : decode cX8_countWays 1 = .ok (.istore_n 3, 1) := by decide +kernel
theorem dX8_countWays_2 : decode cX8_countWays 2 = .ok (.iload_n 3, 1) := by decide +kernel
theorem dX8_countWays_3 : decode cX8_countWays 3 = .ok (.bipush 12, 2) := by decide +kernel
theorem dX8_countWays_5 : decode cX8_countWays 5 = .ok (.if_icmp .gt 35, 3) := by decide +kernel
theorem dX8_countWays_8 : decode cX8_countWays 8 = .ok (.iconst 0, 1) := by decide +kernel
theorem dX8_countWays_9 : decode cX8_countWays 9 = .ok (.istore 4, 2) := by decide +kernel
theorem dX8_countWays_11 : decode cX8_countWays 11 = .ok (.iload 4, 2) := by decide +kernel
theorem dX8_countWays_13 : decode cX8_countWays 13 = .ok (.bipush 24, 2) := by decide +kernel
theorem dX8_countWays_15 : decode cX8_countWays 15 = .ok (.if_icmp .ge 19, 3) := by decide +kernel
theorem dX8_countWays_18 : decode cX8_countWays 18 = .ok (.aload_n 0, 1) := by decide +kernel
theorem dX8_countWays_19 : decode cX8_countWays 19 = .ok (.getfield 16, 3) := by decide +kernel
theorem dX8_countWays_22 : decode cX8_countWays 22 = .ok (.iload_n 3, 1) := by decide +kernel
theorem dX8_countWays_23 : decode cX8_countWays 23 = .ok (.aaload, 1) := by decide +kernel
theorem dX8_countWays_24 : decode cX8_countWays 24 = .ok (.iload 4, 2) := by decide +kernel
theorem dX8_countWays_26 : decode cX8_countWays 26 = .ok (.iconst 0, 1) := by decide +kernel
theorem dX8_countWays_27 : decode cX8_countWays 27 = .ok (.iastore, 1) := by decide +kernel
theorem dX8_countWays_28 : decode cX8_countWays 28 = .ok (.iinc 4 1, 3) := by decide +kernel
theorem dX8_countWays_31 : decode cX8_countWays 31 = .ok (.goto (-20), 3) := by decide +kernel
theorem dX8_countWays_34 : decode cX8_countWays 34 = .ok (.iinc 3 1, 3) := by decide +kernel
theorem dX8_countWays_37 : decode cX8_countWays 37 = .ok (.goto (-35), 3) := by decide +kernel
theorem dX8_countWays_40 : decode cX8_countWays 40 = .ok (.aload_n 0, 1) := by decide +kernel
theorem dX8_countWays_41 : decode cX8_countWays 41 = .ok (.getfield 16, 3) := by decide +kernel
theorem dX8_countWays_44 : decode cX8_countWays 44 = .ok (.iconst 0, 1) := by decide +kernel
theorem dX8_countWays_45 : decode cX8_countWays 45 = .ok (.aaload, 1) := by decide +kernel
theorem dX8_countWays_46 : decode cX8_countWays 46 = .ok (.iconst 0, 1) := by decide +kernel
theorem dX8_countWays_47 : decode cX8_countWays 47 = .ok (.iconst 1, 1) := by decide +kernel
theorem dX8_countWays_48 : decode cX8_countWays 48 = .ok (.iastore, 1) := by decide +kernel
theorem dX8_countWays_49 : decode cX8_countWays 49 = .ok (.iconst 0, 1) := by decide +kernel
theorem dX8_countWays_50 : decode cX8_countWays 50 = .ok (.istore_n 3, 1) := by decide +kernel
theorem dX8_countWays_51 : decode cX8_countWays 51 = .ok (.iload_n 3, 1) := by decide +kernel
theorem dX8_countWays_52 : decode cX8_countWays 52 = .ok (.aload_n 2, 1) := by decide +kernel
theorem dX8_countWays_53 : decode cX8_countWays 53 = .ok (.invokevirtual 23, 3) := by decide +kernel
theorem dX8_countWays_56 : decode cX8_countWays 56 = .ok (.if_icmp .ge 48, 3) := by decide +kernel
theorem dX8_countWays_59 : decode cX8_countWays 59 = .ok (.iload_n 3, 1) := by decide +kernel
theorem dX8_countWays_60 : decode cX8_countWays 60 = .ok (.bipush 12, 2) := by decide +kernel
theorem dX8_countWays_62 : decode cX8_countWays 62 = .ok (.if_icmp .ge 42, 3) := by decide +kernel
theorem dX8_countWays_65 : decode cX8_countWays 65 = .ok (.aload_n 2, 1) := by decide +kernel
theorem dX8_countWays_66 : decode cX8_countWays 66 = .ok (.iload_n 3, 1) := by decide +kernel
theorem dX8_countWays_67 : decode cX8_countWays 67 = .ok (.invokevirtual 29, 3) := by decide +kernel
theorem dX8_countWays_70 : decode cX8_countWays 70 = .ok (.istore 4, 2) := by decide +kernel
theorem dX8_countWays_72 : decode cX8_countWays 72 = .ok (.iload_n 3, 1) := by decide +kernel
theorem dX8_countWays_73 : decode cX8_countWays 73 = .ok (.iconst 1, 1) := by decide +kernel
theorem dX8_countWays_74 : decode cX8_countWays 74 = .ok (.iadd, 1) := by decide +kernel
theorem dX8_countWays_75 : decode cX8_countWays 75 = .ok (.istore 5, 2) := by decide +kernel
theorem dX8_countWays_77 : decode cX8_countWays 77 = .ok (.iload 5, 2) := by decide +kernel
theorem dX8_countWays_79 : decode cX8_countWays 79 = .ok (.iconst 1, 1) := by decide +kernel
theorem dX8_countWays_80 : decode cX8_countWays 80 = .ok (.if_icmp .lt 18, 3) := by decide +kernel
theorem dX8_countWays_83 : decode cX8_countWays 83 = .ok (.aload_n 0, 1) := by decide +kernel
theorem dX8_countWays_84 : decode cX8_countWays 84 = .ok (.aload_n 1, 1) := by decide +kernel
theorem dX8_countWays_85 : decode cX8_countWays 85 = .ok (.iload 5, 2) := by decide +kernel
theorem dX8_countWays_87 : decode cX8_countWays 87 = .ok (.iload 4, 2) := by decide +kernel
theorem dX8_countWays_89 : decode cX8_countWays 89 = .ok (.invokevirtual 62, 3) := by decide +kernel
theorem dX8_countWays_92 : decode cX8_countWays 92 = .ok (.iinc 5 (-1), 3) := by decide +kernel
theorem dX8_countWays_95 : decode cX8_countWays 95 = .ok (.goto (-18), 3) := by decide +kernel
theorem dX8_countWays_98 : decode cX8_countWays 98 = .ok (.iinc 3 1, 3) := by decide +kernel
theorem dX8_countWays_101 : decode cX8_countWays 101 = .ok (.goto (-50), 3) := by decide +kernel
theorem dX8_countWays_104 : decode cX8_countWays 104 = .ok (.return_, 1) := by decide +kernel
theorem dX8_addWays_0 : decode cX8_addWays 0 = .ok (.iload_n 2, 1) := by decide +kernel
theorem dX8_addWays_1 : decode cX8_addWays 1 = .ok (.iconst 1, 1) := by decide +kernel
theorem dX8_addWays_2 : decode cX8_addWays 2 = .ok (.if_icmp .lt 9, 3) := by decide +kernel
theorem dX8_addWays_5 : decode cX8_addWays 5 = .ok (.iload_n 2, 1) := by decide +kernel
theorem dX8_addWays_6 : decode cX8_addWays 6 = .ok (.bipush 12, 2) := by decide +kernel
theorem dX8_addWays_8 : decode cX8_addWays 8 = .ok (.if_icmp .le 4, 3) := by decide +kernel
theorem dX8_addWays_11 : decode cX8_addWays 11 = .ok (.return_, 1) := by decide +kernel
theorem dX8_addWays_12 : decode cX8_addWays 12 = .ok (.iconst 0, 1) := by decide +kernel
theorem dX8_addWays_13 : decode cX8_addWays 13 = .ok (.istore 4, 2) := by decide +kernel
theorem dX8_addWays_15 : decode cX8_addWays 15 = .ok (.iload 4, 2) := by decide +kernel
theorem dX8_addWays_17 : decode cX8_addWays 17 = .ok (.aload_n 1, 1) := by decide +kernel
theorem dX8_addWays_18 : decode cX8_addWays 18 = .ok (.invokevirtual 66, 3) := by decide +kernel
theorem dX8_addWays_21 : decode cX8_addWays 21 = .ok (.if_icmp .ge 61, 3) := by decide +kernel
theorem dX8_addWays_24 : decode cX8_addWays 24 = .ok (.iload 4, 2) := by decide +kernel
theorem dX8_addWays_26 : decode cX8_addWays 26 = .ok (.bipush 24, 2) := by decide +kernel
theorem dX8_addWays_28 : decode cX8_addWays 28 = .ok (.if_icmp .ge 54, 3) := by decide +kernel
theorem dX8_addWays_31 : decode cX8_addWays 31 = .ok (.aload_n 1, 1) := by decide +kernel
theorem dX8_addWays_32 : decode cX8_addWays 32 = .ok (.iload 4, 2) := by decide +kernel
theorem dX8_addWays_34 : decode cX8_addWays 34 = .ok (.aload_n 1, 1) := by decide +kernel
theorem dX8_addWays_35 : decode cX8_addWays 35 = .ok (.iload_n 3, 1) := by decide +kernel
theorem dX8_addWays_36 : decode cX8_addWays 36 = .ok (.invokevirtual 56, 3) := by decide +kernel
theorem dX8_addWays_39 : decode cX8_addWays 39 = .ok (.invokevirtual 59, 3) := by decide +kernel
theorem dX8_addWays_42 : decode cX8_addWays 42 = .ok (.istore 5, 2) := by decide +kernel
theorem dX8_addWays_44 : decode cX8_addWays 44 = .ok (.aload_n 1, 1) := by decide +kernel
theorem dX8_addWays_45 : decode cX8_addWays 45 = .ok (.iload 5, 2) := by decide +kernel
theorem dX8_addWays_47 : decode cX8_addWays 47 = .ok (.invokevirtual 69, 3) := by decide +kernel
theorem dX8_addWays_50 : decode cX8_addWays 50 = .ok (.ifCond .eq 26, 3) := by decide +kernel
theorem dX8_addWays_53 : decode cX8_addWays 53 = .ok (.aload_n 0, 1) := by decide +kernel
theorem dX8_addWays_54 : decode cX8_addWays 54 = .ok (.getfield 16, 3) := by decide +kernel
theorem dX8_addWays_57 : decode cX8_addWays 57 = .ok (.iload_n 2, 1) := by decide +kernel
theorem dX8_addWays_58 : decode cX8_addWays 58 = .ok (.aaload, 1) := by decide +kernel
theorem dX8_addWays_59 : decode cX8_addWays 59 = .ok (.iload 4, 2) := by decide +kernel
theorem dX8_addWays_61 : decode cX8_addWays 61 = .ok (.dup2, 1) := by decide +kernel
theorem dX8_addWays_62 : decode cX8_addWays 62 = .ok (.iaload, 1) := by decide +kernel
theorem dX8_addWays_63 : decode cX8_addWays 63 = .ok (.aload_n 0, 1) := by decide +kernel
theorem dX8_addWays_64 : decode cX8_addWays 64 = .ok (.getfield 16, 3) := by decide +kernel
theorem dX8_addWays_67 : decode cX8_addWays 67 = .ok (.iload_n 2, 1) := by decide +kernel
theorem dX8_addWays_68 : decode cX8_addWays 68 = .ok (.iconst 1, 1) := by decide +kernel
theorem dX8_addWays_69 : decode cX8_addWays 69 = .ok (.isub, 1) := by decide +kernel
theorem dX8_addWays_70 : decode cX8_addWays 70 = .ok (.aaload, 1) := by decide +kernel
theorem dX8_addWays_71 : decode cX8_addWays 71 = .ok (.iload 5, 2) := by decide +kernel
theorem dX8_addWays_73 : decode cX8_addWays 73 = .ok (.iaload, 1) := by decide +kernel
theorem dX8_addWays_74 : decode cX8_addWays 74 = .ok (.iadd, 1) := by decide +kernel
theorem dX8_addWays_75 : decode cX8_addWays 75 = .ok (.iastore, 1) := by decide +kernel
theorem dX8_addWays_76 : decode cX8_addWays 76 = .ok (.iinc 4 1, 3) := by decide +kernel
theorem dX8_addWays_79 : decode cX8_addWays 79 = .ok (.goto (-64), 3) := by decide +kernel
theorem dX8_addWays_82 : decode cX8_addWays 82 = .ok (.return_, 1) := by decide +kernel
theorem dX8_waysOf_0 : decode cX8_waysOf 0 = .ok (.iload_n 1, 1) := by decide +kernel
theorem dX8_waysOf_1 : decode cX8_waysOf 1 = .ok (.ifCond .lt 19, 3) := by decide +kernel
theorem dX8_waysOf_4 : decode cX8_waysOf 4 = .ok (.iload_n 1, 1) := by decide +kernel
theorem dX8_waysOf_5 : decode cX8_waysOf 5 = .ok (.bipush 24, 2) := by decide +kernel
theorem dX8_waysOf_7 : decode cX8_waysOf 7 = .ok (.if_icmp .ge 13, 3) := by decide +kernel
theorem dX8_waysOf_10 : decode cX8_waysOf 10 = .ok (.iload_n 2, 1) := by decide +kernel
theorem dX8_waysOf_11 : decode cX8_waysOf 11 = .ok (.ifCond .lt 9, 3) := by decide +kernel
theorem dX8_waysOf_14 : decode cX8_waysOf 14 = .ok (.iload_n 2, 1) := by decide +kernel
theorem dX8_waysOf_15 : decode cX8_waysOf 15 = .ok (.bipush 12, 2) := by decide +kernel
theorem dX8_waysOf_17 : decode cX8_waysOf 17 = .ok (.if_icmp .le 5, 3) := by decide +kernel
theorem dX8_waysOf_20 : decode cX8_waysOf 20 = .ok (.iconst 0, 1) := by decide +kernel
theorem dX8_waysOf_21 : decode cX8_waysOf 21 = .ok (.ireturn, 1) := by decide +kernel
theorem dX8_waysOf_22 : decode cX8_waysOf 22 = .ok (.iload_n 2, 1) := by decide +kernel
theorem dX8_waysOf_23 : decode cX8_waysOf 23 = .ok (.ifCond .le 12, 3) := by decide +kernel
theorem dX8_waysOf_26 : decode cX8_waysOf 26 = .ok (.aload_n 0, 1) := by decide +kernel
theorem dX8_waysOf_27 : decode cX8_waysOf 27 = .ok (.getfield 16, 3) := by decide +kernel
theorem dX8_waysOf_30 : decode cX8_waysOf 30 = .ok (.iload_n 2, 1) := by decide +kernel
theorem dX8_waysOf_31 : decode cX8_waysOf 31 = .ok (.aaload, 1) := by decide +kernel
theorem dX8_waysOf_32 : decode cX8_waysOf 32 = .ok (.iload_n 1, 1) := by decide +kernel
theorem dX8_waysOf_33 : decode cX8_waysOf 33 = .ok (.iaload, 1) := by decide +kernel
theorem dX8_waysOf_34 : decode cX8_waysOf 34 = .ok (.ireturn, 1) := by decide +kernel
theorem dX8_waysOf_35 : decode cX8_waysOf 35 = .ok (.iconst 0, 1) := by decide +kernel
theorem dX8_waysOf_36 : decode cX8_waysOf 36 = .ok (.istore_n 3, 1) := by decide +kernel
theorem dX8_waysOf_37 : decode cX8_waysOf 37 = .ok (.iconst 1, 1) := by decide +kernel
theorem dX8_waysOf_38 : decode cX8_waysOf 38 = .ok (.istore 4, 2) := by decide +kernel
theorem dX8_waysOf_40 : decode cX8_waysOf 40 = .ok (.iload 4, 2) := by decide +kernel
theorem dX8_waysOf_42 : decode cX8_waysOf 42 = .ok (.bipush 12, 2) := by decide +kernel
theorem dX8_waysOf_44 : decode cX8_waysOf 44 = .ok (.if_icmp .gt 21, 3) := by decide +kernel
theorem dX8_waysOf_47 : decode cX8_waysOf 47 = .ok (.iload_n 3, 1) := by decide +kernel
theorem dX8_waysOf_48 : decode cX8_waysOf 48 = .ok (.aload_n 0, 1) := by decide +kernel
theorem dX8_waysOf_49 : decode cX8_waysOf 49 = .ok (.getfield 16, 3) := by decide +kernel
theorem dX8_waysOf_52 : decode cX8_waysOf 52 = .ok (.iload 4, 2) := by decide +kernel
theorem dX8_waysOf_54 : decode cX8_waysOf 54 = .ok (.aaload, 1) := by decide +kernel
theorem dX8_waysOf_55 : decode cX8_waysOf 55 = .ok (.iload_n 1, 1) := by decide +kernel
theorem dX8_waysOf_56 : decode cX8_waysOf 56 = .ok (.iaload, 1) := by decide +kernel
theorem dX8_waysOf_57 : decode cX8_waysOf 57 = .ok (.iadd, 1) := by decide +kernel
theorem dX8_waysOf_58 : decode cX8_waysOf 58 = .ok (.istore_n 3, 1) := by decide +kernel
theorem dX8_waysOf_59 : decode cX8_waysOf 59 = .ok (.iinc 4 1, 3) := by decide +kernel
theorem dX8_waysOf_62 : decode cX8_waysOf 62 = .ok (.goto (-22), 3) := by decide +kernel
theorem dX8_waysOf_65 : decode cX8_waysOf 65 = .ok (.iload_n 3, 1) := by decide +kernel
theorem dX8_waysOf_66 : decode cX8_waysOf 66 = .ok (.ireturn, 1) := by decide +kernel
theorem dX9_init_0 : decode cX9_init 0 = .ok (.aload_n 0, 1) := by decide +kernel
theorem dX9_init_1 : decode cX9_init 1 = .ok (.invokespecial 3, 3) := by decide +kernel
theorem dX9_init_4 : decode cX9_init 4 = .ok (.aload_n 0, 1) := by decide +kernel
theorem dX9_init_5 : decode cX9_init 5 = .ok (.sipush 340, 3) := by decide +kernel
theorem dX9_init_8 : decode cX9_init 8 = .ok (.newarray .byte, 2) := by decide +kernel
theorem dX9_init_10 : decode cX9_init 10 = .ok (.putfield 9, 3) := by decide +kernel
theorem dX9_init_13 : decode cX9_init 13 = .ok (.aload_n 0, 1) := by decide +kernel
theorem dX9_init_14 : decode cX9_init 14 = .ok (.iconst 0, 1) := by decide +kernel
theorem dX9_init_15 : decode cX9_init 15 = .ok (.putfield 15, 3) := by decide +kernel
theorem dX9_init_18 : decode cX9_init 18 = .ok (.return_, 1) := by decide +kernel
theorem dX9_length_0 : decode cX9_length 0 = .ok (.aload_n 0, 1) := by decide +kernel
theorem dX9_length_1 : decode cX9_length 1 = .ok (.getfield 15, 3) := by decide +kernel
theorem dX9_length_4 : decode cX9_length 4 = .ok (.ireturn, 1) := by decide +kernel
theorem dX9_byteAt_0 : decode cX9_byteAt 0 = .ok (.iload_n 1, 1) := by decide +kernel
theorem dX9_byteAt_1 : decode cX9_byteAt 1 = .ok (.ifCond .lt 33, 3) := by decide +kernel
theorem dX9_byteAt_4 : decode cX9_byteAt 4 = .ok (.iload_n 1, 1) := by decide +kernel
theorem dX9_byteAt_5 : decode cX9_byteAt 5 = .ok (.aload_n 0, 1) := by decide +kernel
theorem dX9_byteAt_6 : decode cX9_byteAt 6 = .ok (.getfield 15, 3) := by decide +kernel
theorem dX9_byteAt_9 : decode cX9_byteAt 9 = .ok (.if_icmp .ge 25, 3) := by decide +kernel
theorem dX9_byteAt_12 : decode cX9_byteAt 12 = .ok (.iload_n 1, 1) := by decide +kernel
theorem dX9_byteAt_13 : decode cX9_byteAt 13 = .ok (.aload_n 0, 1) := by decide +kernel
theorem dX9_byteAt_14 : decode cX9_byteAt 14 = .ok (.getfield 9, 3) := by decide +kernel
theorem dX9_byteAt_17 : decode cX9_byteAt 17 = .ok (.arraylength, 1) := by decide +kernel
theorem dX9_byteAt_18 : decode cX9_byteAt 18 = .ok (.if_icmp .ge 16, 3) := by decide +kernel
theorem dX9_byteAt_21 : decode cX9_byteAt 21 = .ok (.aload_n 0, 1) := by decide +kernel
theorem dX9_byteAt_22 : decode cX9_byteAt 22 = .ok (.getfield 9, 3) := by decide +kernel
theorem dX9_byteAt_25 : decode cX9_byteAt 25 = .ok (.iload_n 1, 1) := by decide +kernel
theorem dX9_byteAt_26 : decode cX9_byteAt 26 = .ok (.baload, 1) := by decide +kernel
theorem dX9_byteAt_27 : decode cX9_byteAt 27 = .ok (.sipush 255, 3) := by decide +kernel
theorem dX9_byteAt_30 : decode cX9_byteAt 30 = .ok (.iand, 1) := by decide +kernel
theorem dX9_byteAt_31 : decode cX9_byteAt 31 = .ok (.goto 4, 3) := by decide +kernel
theorem dX9_byteAt_34 : decode cX9_byteAt 34 = .ok (.iconst (-1), 1) := by decide +kernel
theorem dX9_byteAt_35 : decode cX9_byteAt 35 = .ok (.ireturn, 1) := by decide +kernel
theorem dX9_appendNumber_0 : decode cX9_appendNumber 0 = .ok (.bipush 24, 2) := by decide +kernel
theorem dX9_appendNumber_2 : decode cX9_appendNumber 2 = .ok (.istore_n 2, 1) := by decide +kernel
theorem dX9_appendNumber_3 : decode cX9_appendNumber 3 = .ok (.iload_n 2, 1) := by decide +kernel
theorem dX9_appendNumber_4 : decode cX9_appendNumber 4 = .ok (.ifCond .lt 51, 3) := by decide +kernel
theorem dX9_appendNumber_7 : decode cX9_appendNumber 7 = .ok (.aload_n 0, 1) := by decide +kernel
theorem dX9_appendNumber_8 : decode cX9_appendNumber 8 = .ok (.getfield 15, 3) := by decide +kernel
theorem dX9_appendNumber_11 : decode cX9_appendNumber 11 = .ok (.ifCond .lt 38, 3) := by decide +kernel
theorem dX9_appendNumber_14 : decode cX9_appendNumber 14 = .ok (.aload_n 0, 1) := by decide +kernel
theorem dX9_appendNumber_15 : decode cX9_appendNumber 15 = .ok (.getfield 15, 3) := by decide +kernel
theorem dX9_appendNumber_18 : decode cX9_appendNumber 18 = .ok (.aload_n 0, 1) := by decide +kernel
theorem dX9_appendNumber_19 : decode cX9_appendNumber 19 = .ok (.getfield 9, 3) := by decide +kernel
theorem dX9_appendNumber_22 : decode cX9_appendNumber 22 = .ok (.arraylength, 1) := by decide +kernel
theorem dX9_appendNumber_23 : decode cX9_appendNumber 23 = .ok (.if_icmp .ge 26, 3) := by decide +kernel
theorem dX9_appendNumber_26 : decode cX9_appendNumber 26 = .ok (.aload_n 0, 1) := by decide +kernel
theorem dX9_appendNumber_27 : decode cX9_appendNumber 27 = .ok (.getfield 9, 3) := by decide +kernel
theorem dX9_appendNumber_30 : decode cX9_appendNumber 30 = .ok (.aload_n 0, 1) := by decide +kernel
theorem dX9_appendNumber_31 : decode cX9_appendNumber 31 = .ok (.getfield 15, 3) := by decide +kernel
theorem dX9_appendNumber_34 : decode cX9_appendNumber 34 = .ok (.iload_n 1, 1) := by decide +kernel
theorem dX9_appendNumber_35 : decode cX9_appendNumber 35 = .ok (.iload_n 2, 1) := by decide +kernel
theorem dX9_appendNumber_36 : decode cX9_appendNumber 36 = .ok (.iushr, 1) := by decide +kernel
theorem dX9_appendNumber_37 : decode cX9_appendNumber 37 = .ok (.i2b, 1) := by decide +kernel
theorem dX9_appendNumber_38 : decode cX9_appendNumber 38 = .ok (.bastore, 1) := by decide +kernel
theorem dX9_appendNumber_39 : decode cX9_appendNumber 39 = .ok (.aload_n 0, 1) := by decide +kernel
theorem dX9_appendNumber_40 : decode cX9_appendNumber 40 = .ok (.dup, 1) := by decide +kernel
theorem dX9_appendNumber_41 : decode cX9_appendNumber 41 = .ok (.getfield 15, 3) := by decide +kernel
theorem dX9_appendNumber_44 : decode cX9_appendNumber 44 = .ok (.iconst 1, 1) := by decide +kernel
theorem dX9_appendNumber_45 : decode cX9_appendNumber 45 = .ok (.iadd, 1) := by decide +kernel
theorem dX9_appendNumber_46 : decode cX9_appendNumber 46 = .ok (.putfield 15, 3) := by decide +kernel
theorem dX9_appendNumber_49 : decode cX9_appendNumber 49 = .ok (.iinc 2 (-8), 3) := by decide +kernel
theorem dX9_appendNumber_52 : decode cX9_appendNumber 52 = .ok (.goto (-49), 3) := by decide +kernel
theorem dX9_appendNumber_55 : decode cX9_appendNumber 55 = .ok (.return_, 1) := by decide +kernel
theorem dX9_cutTo_0 : decode cX9_cutTo 0 = .ok (.iload_n 1, 1) := by decide +kernel
theorem dX9_cutTo_1 : decode cX9_cutTo 1 = .ok (.ifCond .lt 11, 3) := by decide +kernel
theorem dX9_cutTo_4 : decode cX9_cutTo 4 = .ok (.iload_n 1, 1) := by decide +kernel
theorem dX9_cutTo_5 : decode cX9_cutTo 5 = .ok (.aload_n 0, 1) := by decide +kernel
theorem dX9_cutTo_6 : decode cX9_cutTo 6 = .ok (.getfield 15, 3) := by decide +kernel
theorem dX9_cutTo_9 : decode cX9_cutTo 9 = .ok (.if_icmp .le 5, 3) := by decide +kernel
theorem dX9_cutTo_12 : decode cX9_cutTo 12 = .ok (.iconst 0, 1) := by decide +kernel
theorem dX9_cutTo_13 : decode cX9_cutTo 13 = .ok (.ireturn, 1) := by decide +kernel
theorem dX9_cutTo_14 : decode cX9_cutTo 14 = .ok (.aload_n 0, 1) := by decide +kernel
theorem dX9_cutTo_15 : decode cX9_cutTo 15 = .ok (.iload_n 1, 1) := by decide +kernel
theorem dX9_cutTo_16 : decode cX9_cutTo 16 = .ok (.putfield 15, 3) := by decide +kernel
theorem dX9_cutTo_19 : decode cX9_cutTo 19 = .ok (.iconst 1, 1) := by decide +kernel
theorem dX9_cutTo_20 : decode cX9_cutTo 20 = .ok (.ireturn, 1) := by decide +kernel
theorem dX10_init_0 : decode cX10_init 0 = .ok (.aload_n 0, 1) := by decide +kernel
theorem dX10_init_1 : decode cX10_init 1 = .ok (.invokespecial 3, 3) := by decide +kernel
theorem dX10_init_4 : decode cX10_init 4 = .ok (.aload_n 0, 1) := by decide +kernel
theorem dX10_init_5 : decode cX10_init 5 = .ok (.new 9, 3) := by decide +kernel
theorem dX10_init_8 : decode cX10_init 8 = .ok (.dup, 1) := by decide +kernel
theorem dX10_init_9 : decode cX10_init 9 = .ok (.invokespecial 11, 3) := by decide +kernel
theorem dX10_init_12 : decode cX10_init 12 = .ok (.putfield 12, 3) := by decide +kernel
theorem dX10_init_15 : decode cX10_init 15 = .ok (.aload_n 0, 1) := by decide +kernel
theorem dX10_init_16 : decode cX10_init 16 = .ok (.aload_n 0, 1) := by decide +kernel
theorem dX10_init_17 : decode cX10_init 17 = .ok (.getfield 12, 3) := by decide +kernel
theorem dX10_init_20 : decode cX10_init 20 = .ok (.invokevirtual 16, 3) := by decide +kernel
theorem dX10_init_23 : decode cX10_init 23 = .ok (.putfield 20, 3) := by decide +kernel
theorem dX10_init_26 : decode cX10_init 26 = .ok (.aload_n 0, 1) := by decide +kernel
theorem dX10_init_27 : decode cX10_init 27 = .ok (.new 23, 3) := by decide +kernel
theorem dX10_init_30 : decode cX10_init 30 = .ok (.dup, 1) := by decide +kernel
theorem dX10_init_31 : decode cX10_init 31 = .ok (.invokespecial 25, 3) := by decide +kernel
theorem dX10_init_34 : decode cX10_init 34 = .ok (.putfield 26, 3) := by decide +kernel
theorem dX10_init_37 : decode cX10_init 37 = .ok (.aload_n 0, 1) := by decide +kernel
theorem dX10_init_38 : decode cX10_init 38 = .ok (.new 30, 3) := by decide +kernel
theorem dX10_init_41 : decode cX10_init 41 = .ok (.dup, 1) := by decide +kernel
theorem dX10_init_42 : decode cX10_init 42 = .ok (.invokespecial 32, 3) := by decide +kernel
theorem dX10_init_45 : decode cX10_init 45 = .ok (.putfield 33, 3) := by decide +kernel
theorem dX10_init_48 : decode cX10_init 48 = .ok (.aload_n 0, 1) := by decide +kernel
theorem dX10_init_49 : decode cX10_init 49 = .ok (.new 30, 3) := by decide +kernel
theorem dX10_init_52 : decode cX10_init 52 = .ok (.dup, 1) := by decide +kernel
theorem dX10_init_53 : decode cX10_init 53 = .ok (.invokespecial 32, 3) := by decide +kernel
theorem dX10_init_56 : decode cX10_init 56 = .ok (.putfield 37, 3) := by decide +kernel
theorem dX10_init_59 : decode cX10_init 59 = .ok (.aload_n 0, 1) := by decide +kernel
theorem dX10_init_60 : decode cX10_init 60 = .ok (.new 30, 3) := by decide +kernel
theorem dX10_init_63 : decode cX10_init 63 = .ok (.dup, 1) := by decide +kernel
theorem dX10_init_64 : decode cX10_init 64 = .ok (.invokespecial 32, 3) := by decide +kernel
theorem dX10_init_67 : decode cX10_init 67 = .ok (.putfield 40, 3) := by decide +kernel
theorem dX10_init_70 : decode cX10_init 70 = .ok (.aload_n 0, 1) := by decide +kernel
theorem dX10_init_71 : decode cX10_init 71 = .ok (.new 43, 3) := by decide +kernel
theorem dX10_init_74 : decode cX10_init 74 = .ok (.dup, 1) := by decide +kernel
theorem dX10_init_75 : decode cX10_init 75 = .ok (.invokespecial 45, 3) := by decide +kernel
theorem dX10_init_78 : decode cX10_init 78 = .ok (.putfield 46, 3) := by decide +kernel
theorem dX10_init_81 : decode cX10_init 81 = .ok (.aload_n 0, 1) := by decide +kernel
theorem dX10_init_82 : decode cX10_init 82 = .ok (.iconst 2, 1) := by decide +kernel
theorem dX10_init_83 : decode cX10_init 83 = .ok (.anewarray 50, 3) := by decide +kernel
theorem dX10_init_86 : decode cX10_init 86 = .ok (.putfield 52, 3) := by decide +kernel
theorem dX10_init_89 : decode cX10_init 89 = .ok (.iconst 0, 1) := by decide +kernel
theorem dX10_init_90 : decode cX10_init 90 = .ok (.istore_n 1, 1) := by decide +kernel
theorem dX10_init_91 : decode cX10_init 91 = .ok (.iload_n 1, 1) := by decide +kernel
theorem dX10_init_92 : decode cX10_init 92 = .ok (.iconst 2, 1) := by decide +kernel
theorem dX10_init_93 : decode cX10_init 93 = .ok (.if_icmp .ge 22, 3) := by decide +kernel
theorem dX10_init_96 : decode cX10_init 96 = .ok (.aload_n 0, 1) := by decide +kernel
theorem dX10_init_97 : decode cX10_init 97 = .ok (.getfield 52, 3) := by decide +kernel
theorem dX10_init_100 : decode cX10_init 100 = .ok (.iload_n 1, 1) := by decide +kernel
theorem dX10_init_101 : decode cX10_init 101 = .ok (.new 50, 3) := by decide +kernel
theorem dX10_init_104 : decode cX10_init 104 = .ok (.dup, 1) := by decide +kernel
theorem dX10_init_105 : decode cX10_init 105 = .ok (.invokespecial 56, 3) := by decide +kernel
theorem dX10_init_108 : decode cX10_init 108 = .ok (.aastore, 1) := by decide +kernel
theorem dX10_init_109 : decode cX10_init 109 = .ok (.iinc 1 1, 3) := by decide +kernel
theorem dX10_init_112 : decode cX10_init 112 = .ok (.goto (-21), 3) := by decide +kernel
theorem dX10_init_115 : decode cX10_init 115 = .ok (.aload_n 0, 1) := by decide +kernel
theorem dX10_init_116 : decode cX10_init 116 = .ok (.new 57, 3) := by decide +kernel
theorem dX10_init_119 : decode cX10_init 119 = .ok (.dup, 1) := by decide +kernel
theorem dX10_init_120 : decode cX10_init 120 = .ok (.invokespecial 59, 3) := by decide +kernel
theorem dX10_init_123 : decode cX10_init 123 = .ok (.putfield 60, 3) := by decide +kernel
theorem dX10_init_126 : decode cX10_init 126 = .ok (.aload_n 0, 1) := by decide +kernel
theorem dX10_init_127 : decode cX10_init 127 = .ok (.new 64, 3) := by decide +kernel
theorem dX10_init_130 : decode cX10_init 130 = .ok (.dup, 1) := by decide +kernel
theorem dX10_init_131 : decode cX10_init 131 = .ok (.invokespecial 66, 3) := by decide +kernel
theorem dX10_init_134 : decode cX10_init 134 = .ok (.putfield 67, 3) := by decide +kernel
theorem dX10_init_137 : decode cX10_init 137 = .ok (.aload_n 0, 1) := by decide +kernel
theorem dX10_init_138 : decode cX10_init 138 = .ok (.new 71, 3) := by decide +kernel
theorem dX10_init_141 : decode cX10_init 141 = .ok (.dup, 1) := by decide +kernel
theorem dX10_init_142 : decode cX10_init 142 = .ok (.invokespecial 73, 3) := by decide +kernel
theorem dX10_init_145 : decode cX10_init 145 = .ok (.putfield 74, 3) := by decide +kernel
theorem dX10_init_148 : decode cX10_init 148 = .ok (.aload_n 0, 1) := by decide +kernel
theorem dX10_init_149 : decode cX10_init 149 = .ok (.new 78, 3) := by decide +kernel
theorem dX10_init_152 : decode cX10_init 152 = .ok (.dup, 1) := by decide +kernel
theorem dX10_init_153 : decode cX10_init 153 = .ok (.invokespecial 80, 3) := by decide +kernel
theorem dX10_init_156 : decode cX10_init 156 = .ok (.putfield 81, 3) := by decide +kernel
theorem dX10_init_159 : decode cX10_init 159 = .ok (.aload_n 0, 1) := by decide +kernel
theorem dX10_init_160 : decode cX10_init 160 = .ok (.iconst 0, 1) := by decide +kernel
theorem dX10_init_161 : decode cX10_init 161 = .ok (.putfield 85, 3) := by decide +kernel
theorem dX10_init_164 : decode cX10_init 164 = .ok (.return_, 1) := by decide +kernel
theorem dX10_feed_0 : decode cX10_feed 0 = .ok (.aload_n 0, 1) := by decide +kernel
theorem dX10_feed_1 : decode cX10_feed 1 = .ok (.getfield 20, 3) := by decide +kernel
theorem dX10_feed_4 : decode cX10_feed 4 = .ok (.invokevirtual 89, 3) := by decide +kernel
theorem dX10_feed_7 : decode cX10_feed 7 = .ok (.bipush 20, 2) := by decide +kernel
theorem dX10_feed_9 : decode cX10_feed 9 = .ok (.iadd, 1) := by decide +kernel
theorem dX10_feed_10 : decode cX10_feed 10 = .ok (.sipush 340, 3) := by decide +kernel
theorem dX10_feed_13 : decode cX10_feed 13 = .ok (.if_icmp .le 5, 3) := by decide +kernel
theorem dX10_feed_16 : decode cX10_feed 16 = .ok (.iconst (-1), 1) := by decide +kernel
theorem dX10_feed_17 : decode cX10_feed 17 = .ok (.ireturn, 1) := by decide +kernel
theorem dX10_feed_18 : decode cX10_feed 18 = .ok (.aload_n 0, 1) := by decide +kernel
theorem dX10_feed_19 : decode cX10_feed 19 = .ok (.getfield 20, 3) := by decide +kernel
theorem dX10_feed_22 : decode cX10_feed 22 = .ok (.iload_n 1, 1) := by decide +kernel
theorem dX10_feed_23 : decode cX10_feed 23 = .ok (.invokevirtual 95, 3) := by decide +kernel
theorem dX10_feed_26 : decode cX10_feed 26 = .ok (.aload_n 0, 1) := by decide +kernel
theorem dX10_feed_27 : decode cX10_feed 27 = .ok (.getfield 20, 3) := by decide +kernel
theorem dX10_feed_30 : decode cX10_feed 30 = .ok (.iload_n 2, 1) := by decide +kernel
theorem dX10_feed_31 : decode cX10_feed 31 = .ok (.invokevirtual 95, 3) := by decide +kernel
theorem dX10_feed_34 : decode cX10_feed 34 = .ok (.aload_n 0, 1) := by decide +kernel
theorem dX10_feed_35 : decode cX10_feed 35 = .ok (.getfield 20, 3) := by decide +kernel
theorem dX10_feed_38 : decode cX10_feed 38 = .ok (.iload_n 3, 1) := by decide +kernel
theorem dX10_feed_39 : decode cX10_feed 39 = .ok (.invokevirtual 95, 3) := by decide +kernel
theorem dX10_feed_42 : decode cX10_feed 42 = .ok (.aload_n 0, 1) := by decide +kernel
theorem dX10_feed_43 : decode cX10_feed 43 = .ok (.getfield 20, 3) := by decide +kernel
theorem dX10_feed_46 : decode cX10_feed 46 = .ok (.iload 4, 2) := by decide +kernel
theorem dX10_feed_48 : decode cX10_feed 48 = .ok (.invokevirtual 95, 3) := by decide +kernel
theorem dX10_feed_51 : decode cX10_feed 51 = .ok (.aload_n 0, 1) := by decide +kernel
theorem dX10_feed_52 : decode cX10_feed 52 = .ok (.getfield 20, 3) := by decide +kernel
theorem dX10_feed_55 : decode cX10_feed 55 = .ok (.iload 5, 2) := by decide +kernel
theorem dX10_feed_57 : decode cX10_feed 57 = .ok (.invokevirtual 95, 3) := by decide +kernel
theorem dX10_feed_60 : decode cX10_feed 60 = .ok (.aload_n 0, 1) := by decide +kernel
theorem dX10_feed_61 : decode cX10_feed 61 = .ok (.getfield 20, 3) := by decide +kernel
theorem dX10_feed_64 : decode cX10_feed 64 = .ok (.invokevirtual 89, 3) := by decide +kernel
theorem dX10_feed_67 : decode cX10_feed 67 = .ok (.ireturn, 1) := by decide +kernel
theorem dX10_end_0 : decode cX10_end 0 = .ok (.aload_n 0, 1) := by decide +kernel
theorem dX10_end_1 : decode cX10_end 1 = .ok (.getfield 20, 3) := by decide +kernel
theorem dX10_end_4 : decode cX10_end 4 = .ok (.iload_n 1, 1) := by decide +kernel
theorem dX10_end_5 : decode cX10_end 5 = .ok (.invokevirtual 99, 3) := by decide +kernel
theorem dX10_end_8 : decode cX10_end 8 = .ok (.ireturn, 1) := by decide +kernel
theorem dX10_text_0 : decode cX10_text 0 = .ok (.aload_n 0, 1) := by decide +kernel
theorem dX10_text_1 : decode cX10_text 1 = .ok (.getfield 12, 3) := by decide +kernel
theorem dX10_text_4 : decode cX10_text 4 = .ok (.invokevirtual 103, 3) := by decide +kernel
theorem dX10_text_7 : decode cX10_text 7 = .ok (.aload_n 0, 1) := by decide +kernel
theorem dX10_text_8 : decode cX10_text 8 = .ok (.getfield 20, 3) := by decide +kernel
theorem dX10_text_11 : decode cX10_text 11 = .ok (.iconst 0, 1) := by decide +kernel
theorem dX10_text_12 : decode cX10_text 12 = .ok (.invokevirtual 99, 3) := by decide +kernel
theorem dX10_text_15 : decode cX10_text 15 = .ok (.pop, 1) := by decide +kernel
theorem dX10_text_16 : decode cX10_text 16 = .ok (.aload_n 0, 1) := by decide +kernel
theorem dX10_text_17 : decode cX10_text 17 = .ok (.getfield 12, 3) := by decide +kernel
theorem dX10_text_20 : decode cX10_text 20 = .ok (.invokevirtual 106, 3) := by decide +kernel
theorem dX10_text_23 : decode cX10_text 23 = .ok (.ifCond .eq 13, 3) := by decide +kernel
theorem dX10_text_26 : decode cX10_text 26 = .ok (.iconst (-1), 1) := by decide +kernel
theorem dX10_text_27 : decode cX10_text 27 = .ok (.aload_n 0, 1) := by decide +kernel
theorem dX10_text_28 : decode cX10_text 28 = .ok (.getfield 12, 3) := by decide +kernel
theorem dX10_text_31 : decode cX10_text 31 = .ok (.invokevirtual 109, 3) := by decide +kernel
theorem dX10_text_34 : decode cX10_text 34 = .ok (.isub, 1) := by decide +kernel
theorem dX10_text_35 : decode cX10_text 35 = .ok (.ireturn, 1) := by decide +kernel
theorem dX10_text_36 : decode cX10_text 36 = .ok (.aload_n 0, 1) := by decide +kernel
theorem dX10_text_37 : decode cX10_text 37 = .ok (.getfield 26, 3) := by decide +kernel
theorem dX10_text_40 : decode cX10_text 40 = .ok (.aload_n 0, 1) := by decide +kernel
theorem dX10_text_41 : decode cX10_text 41 = .ok (.getfield 12, 3) := by decide +kernel
theorem dX10_text_44 : decode cX10_text 44 = .ok (.invokevirtual 112, 3) := by decide +kernel
theorem dX10_text_47 : decode cX10_text 47 = .ok (.invokevirtual 115, 3) := by decide +kernel
theorem dX10_text_50 : decode cX10_text 50 = .ok (.aload_n 0, 1) := by decide +kernel
theorem dX10_text_51 : decode cX10_text 51 = .ok (.getfield 33, 3) := by decide +kernel
theorem dX10_text_54 : decode cX10_text 54 = .ok (.aload_n 0, 1) := by decide +kernel
theorem dX10_text_55 : decode cX10_text 55 = .ok (.getfield 12, 3) := by decide +kernel
theorem dX10_text_58 : decode cX10_text 58 = .ok (.invokevirtual 118, 3) := by decide +kernel
theorem dX10_text_61 : decode cX10_text 61 = .ok (.invokevirtual 122, 3) := by decide +kernel
theorem dX10_text_64 : decode cX10_text 64 = .ok (.aload_n 0, 1) := by decide +kernel
theorem dX10_text_65 : decode cX10_text 65 = .ok (.getfield 46, 3) := by decide +kernel
theorem dX10_text_68 : decode cX10_text 68 = .ok (.invokevirtual 126, 3) := by decide +kernel
theorem dX10_text_71 : decode cX10_text 71 = .ok (.aload_n 0, 1) := by decide +kernel
theorem dX10_text_72 : decode cX10_text 72 = .ok (.getfield 12, 3) := by decide +kernel
theorem dX10_text_75 : decode cX10_text 75 = .ok (.invokevirtual 129, 3) := by decide +kernel
theorem dX10_text_78 : decode cX10_text 78 = .ok (.ireturn, 1) := by decide +kernel
theorem dX10_fault_0 : decode cX10_fault 0 = .ok (.iload_n 1, 1) := by decide +kernel
theorem dX10_fault_1 : decode cX10_fault 1 = .ok (.ifCond .ne 11, 3) := by decide +kernel
theorem dX10_fault_4 : decode cX10_fault 4 = .ok (.aload_n 0, 1) := by decide +kernel
theorem dX10_fault_5 : decode cX10_fault 5 = .ok (.getfield 12, 3) := by decide +kernel
theorem dX10_fault_8 : decode cX10_fault 8 = .ok (.invokevirtual 106, 3) := by decide +kernel
theorem dX10_fault_11 : decode cX10_fault 11 = .ok (.ireturn, 1) := by decide +kernel
theorem dX10_fault_12 : decode cX10_fault 12 = .ok (.iload_n 1, 1) := by decide +kernel
theorem dX10_fault_13 : decode cX10_fault 13 = .ok (.iconst 1, 1) := by decide +kernel
theorem dX10_fault_14 : decode cX10_fault 14 = .ok (.if_icmp .ne 13, 3) := by decide +kernel
theorem dX10_fault_17 : decode cX10_fault 17 = .ok (.aload_n 0, 1) := by decide +kernel
theorem dX10_fault_18 : decode cX10_fault 18 = .ok (.getfield 12, 3) := by decide +kernel
theorem dX10_fault_21 : decode cX10_fault 21 = .ok (.invokevirtual 132, 3) := by decide +kernel
theorem dX10_fault_24 : decode cX10_fault 24 = .ok (.goto 4, 3) := by decide +kernel
theorem dX10_fault_27 : decode cX10_fault 27 = .ok (.iconst (-1), 1) := by decide +kernel
theorem dX10_fault_28 : decode cX10_fault 28 = .ok (.ireturn, 1) := by decide +kernel
theorem dX10_now_0 : decode cX10_now 0 = .ok (.iload_n 1, 1) := by decide +kernel
theorem dX10_now_1 : decode cX10_now 1 = .ok (.tableswitch 96 0 6 #[43, 51, 59, 67, 75, 80, 88], 43) := by decide +kernel
theorem dX10_now_44 : decode cX10_now 44 = .ok (.aload_n 0, 1) := by decide +kernel
theorem dX10_now_45 : decode cX10_now 45 = .ok (.getfield 26, 3) := by decide +kernel
theorem dX10_now_48 : decode cX10_now 48 = .ok (.invokevirtual 135, 3) := by decide +kernel
theorem dX10_now_51 : decode cX10_now 51 = .ok (.ireturn, 1) := by decide +kernel
theorem dX10_now_52 : decode cX10_now 52 = .ok (.aload_n 0, 1) := by decide +kernel
theorem dX10_now_53 : decode cX10_now 53 = .ok (.getfield 26, 3) := by decide +kernel
theorem dX10_now_56 : decode cX10_now 56 = .ok (.invokevirtual 138, 3) := by decide +kernel
theorem dX10_now_59 : decode cX10_now 59 = .ok (.ireturn, 1) := by decide +kernel
theorem dX10_now_60 : decode cX10_now 60 = .ok (.aload_n 0, 1) := by decide +kernel
theorem dX10_now_61 : decode cX10_now 61 = .ok (.getfield 26, 3) := by decide +kernel
theorem dX10_now_64 : decode cX10_now 64 = .ok (.invokevirtual 141, 3) := by decide +kernel
theorem dX10_now_67 : decode cX10_now 67 = .ok (.ireturn, 1) := by decide +kernel
theorem dX10_now_68 : decode cX10_now 68 = .ok (.aload_n 0, 1) := by decide +kernel
theorem dX10_now_69 : decode cX10_now 69 = .ok (.getfield 33, 3) := by decide +kernel
theorem dX10_now_72 : decode cX10_now 72 = .ok (.invokevirtual 144, 3) := by decide +kernel
theorem dX10_now_75 : decode cX10_now 75 = .ok (.ireturn, 1) := by decide +kernel
theorem dX10_now_76 : decode cX10_now 76 = .ok (.aload_n 0, 1) := by decide +kernel
theorem dX10_now_77 : decode cX10_now 77 = .ok (.invokevirtual 145, 3) := by decide +kernel
theorem dX10_now_80 : decode cX10_now 80 = .ok (.ireturn, 1) := by decide +kernel
theorem dX10_now_81 : decode cX10_now 81 = .ok (.aload_n 0, 1) := by decide +kernel
theorem dX10_now_82 : decode cX10_now 82 = .ok (.getfield 46, 3) := by decide +kernel
theorem dX10_now_85 : decode cX10_now 85 = .ok (.invokevirtual 148, 3) := by decide +kernel
theorem dX10_now_88 : decode cX10_now 88 = .ok (.ireturn, 1) := by decide +kernel
theorem dX10_now_89 : decode cX10_now 89 = .ok (.aload_n 0, 1) := by decide +kernel
theorem dX10_now_90 : decode cX10_now 90 = .ok (.getfield 20, 3) := by decide +kernel
theorem dX10_now_93 : decode cX10_now 93 = .ok (.invokevirtual 89, 3) := by decide +kernel
theorem dX10_now_96 : decode cX10_now 96 = .ok (.ireturn, 1) := by decide +kernel
theorem dX10_now_97 : decode cX10_now 97 = .ok (.iconst (-1), 1) := by decide +kernel
theorem dX10_now_98 : decode cX10_now 98 = .ok (.ireturn, 1) := by decide +kernel
theorem dX10_part_0 : decode cX10_part 0 = .ok (.iload_n 1, 1) := by decide +kernel
theorem dX10_part_1 : decode cX10_part 1 = .ok (.ifCond .lt 25, 3) := by decide +kernel
theorem dX10_part_4 : decode cX10_part 4 = .ok (.iload_n 1, 1) := by decide +kernel
theorem dX10_part_5 : decode cX10_part 5 = .ok (.aload_n 0, 1) := by decide +kernel
theorem dX10_part_6 : decode cX10_part 6 = .ok (.getfield 26, 3) := by decide +kernel
theorem dX10_part_9 : decode cX10_part 9 = .ok (.invokevirtual 135, 3) := by decide +kernel
theorem dX10_part_12 : decode cX10_part 12 = .ok (.if_icmp .ge 14, 3) := by decide +kernel
theorem dX10_part_15 : decode cX10_part 15 = .ok (.aload_n 0, 1) := by decide +kernel
theorem dX10_part_16 : decode cX10_part 16 = .ok (.getfield 26, 3) := by decide +kernel
theorem dX10_part_19 : decode cX10_part 19 = .ok (.iload_n 1, 1) := by decide +kernel
theorem dX10_part_20 : decode cX10_part 20 = .ok (.invokevirtual 149, 3) := by decide +kernel
theorem dX10_part_23 : decode cX10_part 23 = .ok (.goto 4, 3) := by decide +kernel
theorem dX10_part_26 : decode cX10_part 26 = .ok (.iconst (-1), 1) := by decide +kernel
theorem dX10_part_27 : decode cX10_part 27 = .ok (.ireturn, 1) := by decide +kernel
theorem dX10_at_0 : decode cX10_at 0 = .ok (.aload_n 0, 1) := by decide +kernel
theorem dX10_at_1 : decode cX10_at 1 = .ok (.getfield 33, 3) := by decide +kernel
theorem dX10_at_4 : decode cX10_at 4 = .ok (.iload_n 1, 1) := by decide +kernel
theorem dX10_at_5 : decode cX10_at 5 = .ok (.invokevirtual 153, 3) := by decide +kernel
theorem dX10_at_8 : decode cX10_at 8 = .ok (.ireturn, 1) := by decide +kernel
theorem dX10_add_0 : decode cX10_add 0 = .ok (.aload_n 0, 1) := by decide +kernel
theorem dX10_add_1 : decode cX10_add 1 = .ok (.getfield 26, 3) := by decide +kernel
theorem dX10_add_4 : decode cX10_add 4 = .ok (.iload_n 1, 1) := by decide +kernel
theorem dX10_add_5 : decode cX10_add 5 = .ok (.invokevirtual 156, 3) := by decide +kernel
theorem dX10_add_8 : decode cX10_add 8 = .ok (.ifCond .eq 26, 3) := by decide +kernel
theorem dX10_add_11 : decode cX10_add 11 = .ok (.aload_n 0, 1) := by decide +kernel
theorem dX10_add_12 : decode cX10_add 12 = .ok (.getfield 26, 3) := by decide +kernel
theorem dX10_add_15 : decode cX10_add 15 = .ok (.iload_n 2, 1) := by decide +kernel
theorem dX10_add_16 : decode cX10_add 16 = .ok (.invokevirtual 156, 3) := by decide +kernel
theorem dX10_add_19 : decode cX10_add 19 = .ok (.ifCond .eq 15, 3) := by decide +kernel
theorem dX10_add_22 : decode cX10_add 22 = .ok (.aload_n 0, 1) := by decide +kernel
theorem dX10_add_23 : decode cX10_add 23 = .ok (.getfield 26, 3) := by decide +kernel
theorem dX10_add_26 : decode cX10_add 26 = .ok (.iload_n 1, 1) := by decide +kernel
theorem dX10_add_27 : decode cX10_add 27 = .ok (.iload_n 2, 1) := by decide +kernel
theorem dX10_add_28 : decode cX10_add 28 = .ok (.invokevirtual 159, 3) := by decide +kernel
theorem dX10_add_31 : decode cX10_add 31 = .ok (.goto 4, 3) := by decide +kernel
theorem dX10_add_34 : decode cX10_add 34 = .ok (.iconst (-1), 1) := by decide +kernel
theorem dX10_add_35 : decode cX10_add 35 = .ok (.ireturn, 1) := by decide +kernel
theorem dX10_sum_0 : decode cX10_sum 0 = .ok (.iload_n 1, 1) := by decide +kernel
theorem dX10_sum_1 : decode cX10_sum 1 = .ok (.iconst 1, 1) := by decide +kernel
theorem dX10_sum_2 : decode cX10_sum 2 = .ok (.if_icmp .lt 14, 3) := by decide +kernel
theorem dX10_sum_5 : decode cX10_sum 5 = .ok (.iload_n 1, 1) := by decide +kernel
theorem dX10_sum_6 : decode cX10_sum 6 = .ok (.aload_n 0, 1) := by decide +kernel
theorem dX10_sum_7 : decode cX10_sum 7 = .ok (.getfield 33, 3) := by decide +kernel
theorem dX10_sum_10 : decode cX10_sum 10 = .ok (.invokevirtual 163, 3) := by decide +kernel
theorem dX10_sum_13 : decode cX10_sum 13 = .ok (.if_icmp .le 13, 3) := by decide +kernel
theorem dX10_sum_16 : decode cX10_sum 16 = .ok (.new 166, 3) := by decide +kernel
theorem dX10_sum_19 : decode cX10_sum 19 = .ok (.dup, 1) := by decide +kernel
theorem dX10_sum_20 : decode cX10_sum 20 = .ok (.ldc 168, 2) := by decide +kernel
theorem dX10_sum_22 : decode cX10_sum 22 = .ok (.invokespecial 170, 3) := by decide +kernel
theorem dX10_sum_25 : decode cX10_sum 25 = .ok (.athrow, 1) := by decide +kernel
theorem dX10_sum_26 : decode cX10_sum 26 = .ok (.aload_n 0, 1) := by decide +kernel
theorem dX10_sum_27 : decode cX10_sum 27 = .ok (.getfield 33, 3) := by decide +kernel
theorem dX10_sum_30 : decode cX10_sum 30 = .ok (.aload_n 0, 1) := by decide +kernel
theorem dX10_sum_31 : decode cX10_sum 31 = .ok (.getfield 26, 3) := by decide +kernel
theorem dX10_sum_34 : decode cX10_sum 34 = .ok (.iload_n 1, 1) := by decide +kernel
theorem dX10_sum_35 : decode cX10_sum 35 = .ok (.invokevirtual 173, 3) := by decide +kernel
theorem dX10_sum_38 : decode cX10_sum 38 = .ok (.ireturn, 1) := by decide +kernel
theorem dX10_sums_0 : decode cX10_sums 0 = .ok (.aload_n 0, 1) := by decide +kernel
theorem dX10_sums_1 : decode cX10_sums 1 = .ok (.getfield 60, 3) := by decide +kernel
theorem dX10_sums_4 : decode cX10_sums 4 = .ok (.aload_n 0, 1) := by decide +kernel
theorem dX10_sums_5 : decode cX10_sums 5 = .ok (.getfield 26, 3) := by decide +kernel
theorem dX10_sums_8 : decode cX10_sums 8 = .ok (.aload_n 0, 1) := by decide +kernel
theorem dX10_sums_9 : decode cX10_sums 9 = .ok (.getfield 33, 3) := by decide +kernel
theorem dX10_sums_12 : decode cX10_sums 12 = .ok (.invokevirtual 177, 3) := by decide +kernel
theorem dX10_sums_15 : decode cX10_sums 15 = .ok (.aload_n 0, 1) := by decide +kernel
theorem dX10_sums_16 : decode cX10_sums 16 = .ok (.getfield 60, 3) := by decide +kernel
theorem dX10_sums_19 : decode cX10_sums 19 = .ok (.invokevirtual 181, 3) := by decide +kernel
theorem dX10_sums_22 : decode cX10_sums 22 = .ok (.ireturn, 1) := by decide +kernel
theorem dX10_found_0 : decode cX10_found 0 = .ok (.aload_n 0, 1) := by decide +kernel
theorem dX10_found_1 : decode cX10_found 1 = .ok (.getfield 26, 3) := by decide +kernel
theorem dX10_found_4 : decode cX10_found 4 = .ok (.iload_n 1, 1) := by decide +kernel
theorem dX10_found_5 : decode cX10_found 5 = .ok (.invokevirtual 156, 3) := by decide +kernel
theorem dX10_found_8 : decode cX10_found 8 = .ok (.ifCond .eq 12, 3) := by decide +kernel
theorem dX10_found_11 : decode cX10_found 11 = .ok (.iload_n 2, 1) := by decide +kernel
theorem dX10_found_12 : decode cX10_found 12 = .ok (.ifCond .lt 8, 3) := by decide +kernel
theorem dX10_found_15 : decode cX10_found 15 = .ok (.iload_n 2, 1) := by decide +kernel
theorem dX10_found_16 : decode cX10_found 16 = .ok (.iconst 1, 1) := by decide +kernel
theorem dX10_found_17 : decode cX10_found 17 = .ok (.if_icmp .le 5, 3) := by decide +kernel
theorem dX10_found_20 : decode cX10_found 20 = .ok (.iconst (-1), 1) := by decide +kernel
theorem dX10_found_21 : decode cX10_found 21 = .ok (.ireturn, 1) := by decide +kernel
theorem dX10_found_22 : decode cX10_found 22 = .ok (.aload_n 0, 1) := by decide +kernel
theorem dX10_found_23 : decode cX10_found 23 = .ok (.getfield 60, 3) := by decide +kernel
theorem dX10_found_26 : decode cX10_found 26 = .ok (.aload_n 0, 1) := by decide +kernel
theorem dX10_found_27 : decode cX10_found 27 = .ok (.getfield 26, 3) := by decide +kernel
theorem dX10_found_30 : decode cX10_found 30 = .ok (.aload_n 0, 1) := by decide +kernel
theorem dX10_found_31 : decode cX10_found 31 = .ok (.getfield 33, 3) := by decide +kernel
theorem dX10_found_34 : decode cX10_found 34 = .ok (.invokevirtual 177, 3) := by decide +kernel
theorem dX10_found_37 : decode cX10_found 37 = .ok (.aload_n 0, 1) := by decide +kernel
theorem dX10_found_38 : decode cX10_found 38 = .ok (.getfield 60, 3) := by decide +kernel
theorem dX10_found_41 : decode cX10_found 41 = .ok (.iload_n 1, 1) := by decide +kernel
theorem dX10_found_42 : decode cX10_found 42 = .ok (.invokevirtual 184, 3) := by decide +kernel
theorem dX10_found_45 : decode cX10_found 45 = .ok (.istore_n 3, 1) := by decide +kernel
theorem dX10_found_46 : decode cX10_found 46 = .ok (.iload_n 3, 1) := by decide +kernel
theorem dX10_found_47 : decode cX10_found 47 = .ok (.iconst (-1), 1) := by decide +kernel
theorem dX10_found_48 : decode cX10_found 48 = .ok (.if_icmp .ne 5, 3) := by decide +kernel
theorem dX10_found_51 : decode cX10_found 51 = .ok (.iconst (-1), 1) := by decide +kernel
theorem dX10_found_52 : decode cX10_found 52 = .ok (.ireturn, 1) := by decide +kernel
theorem dX10_found_53 : decode cX10_found 53 = .ok (.iload_n 2, 1) := by decide +kernel
theorem dX10_found_54 : decode cX10_found 54 = .ok (.ifCond .ne 7, 3) := by decide +kernel
theorem dX10_found_57 : decode cX10_found 57 = .ok (.iload_n 3, 1) := by decide +kernel
theorem dX10_found_58 : decode cX10_found 58 = .ok (.goto 20, 3) := by decide +kernel
theorem dX10_found_61 : decode cX10_found 61 = .ok (.aload_n 0, 1) := by decide +kernel
theorem dX10_found_62 : decode cX10_found 62 = .ok (.getfield 60, 3) := by decide +kernel
theorem dX10_found_65 : decode cX10_found 65 = .ok (.aload_n 0, 1) := by decide +kernel
theorem dX10_found_66 : decode cX10_found 66 = .ok (.getfield 26, 3) := by decide +kernel
theorem dX10_found_69 : decode cX10_found 69 = .ok (.aload_n 0, 1) := by decide +kernel
theorem dX10_found_70 : decode cX10_found 70 = .ok (.getfield 33, 3) := by decide +kernel
theorem dX10_found_73 : decode cX10_found 73 = .ok (.iload_n 1, 1) := by decide +kernel
theorem dX10_found_74 : decode cX10_found 74 = .ok (.iload_n 3, 1) := by decide +kernel
theorem dX10_found_75 : decode cX10_found 75 = .ok (.invokevirtual 187, 3) := by decide +kernel
theorem dX10_found_78 : decode cX10_found 78 = .ok (.ireturn, 1) := by decide +kernel
theorem dX10_ways_0 : decode cX10_ways 0 = .ok (.aload_n 0, 1) := by decide +kernel
theorem dX10_ways_1 : decode cX10_ways 1 = .ok (.getfield 26, 3) := by decide +kernel
theorem dX10_ways_4 : decode cX10_ways 4 = .ok (.iload_n 1, 1) := by decide +kernel
theorem dX10_ways_5 : decode cX10_ways 5 = .ok (.invokevirtual 156, 3) := by decide +kernel
theorem dX10_ways_8 : decode cX10_ways 8 = .ok (.ifCond .eq 18, 3) := by decide +kernel
theorem dX10_ways_11 : decode cX10_ways 11 = .ok (.iload_n 2, 1) := by decide +kernel
theorem dX10_ways_12 : decode cX10_ways 12 = .ok (.ifCond .lt 14, 3) := by decide +kernel
theorem dX10_ways_15 : decode cX10_ways 15 = .ok (.iload_n 2, 1) := by decide +kernel
theorem dX10_ways_16 : decode cX10_ways 16 = .ok (.aload_n 0, 1) := by decide +kernel
theorem dX10_ways_17 : decode cX10_ways 17 = .ok (.getfield 33, 3) := by decide +kernel
theorem dX10_ways_20 : decode cX10_ways 20 = .ok (.invokevirtual 144, 3) := by decide +kernel
theorem dX10_ways_23 : decode cX10_ways 23 = .ok (.if_icmp .le 5, 3) := by decide +kernel
theorem dX10_ways_26 : decode cX10_ways 26 = .ok (.iconst (-1), 1) := by decide +kernel
theorem dX10_ways_27 : decode cX10_ways 27 = .ok (.ireturn, 1) := by decide +kernel
theorem dX10_ways_28 : decode cX10_ways 28 = .ok (.aload_n 0, 1) := by decide +kernel
theorem dX10_ways_29 : decode cX10_ways 29 = .ok (.getfield 60, 3) := by decide +kernel
theorem dX10_ways_32 : decode cX10_ways 32 = .ok (.aload_n 0, 1) := by decide +kernel
theorem dX10_ways_33 : decode cX10_ways 33 = .ok (.getfield 26, 3) := by decide +kernel
theorem dX10_ways_36 : decode cX10_ways 36 = .ok (.aload_n 0, 1) := by decide +kernel
theorem dX10_ways_37 : decode cX10_ways 37 = .ok (.getfield 33, 3) := by decide +kernel
theorem dX10_ways_40 : decode cX10_ways 40 = .ok (.invokevirtual 191, 3) := by decide +kernel
theorem dX10_ways_43 : decode cX10_ways 43 = .ok (.aload_n 0, 1) := by decide +kernel
theorem dX10_ways_44 : decode cX10_ways 44 = .ok (.getfield 60, 3) := by decide +kernel
theorem dX10_ways_47 : decode cX10_ways 47 = .ok (.iload_n 1, 1) := by decide +kernel
theorem dX10_ways_48 : decode cX10_ways 48 = .ok (.iload_n 2, 1) := by decide +kernel
theorem dX10_ways_49 : decode cX10_ways 49 = .ok (.invokevirtual 194, 3) := by decide +kernel
theorem dX10_ways_52 : decode cX10_ways 52 = .ok (.ireturn, 1) := by decide +kernel
theorem dX10_exactly_0 : decode cX10_exactly 0 = .ok (.aload_n 0, 1) := by decide +kernel
theorem dX10_exactly_1 : decode cX10_exactly 1 = .ok (.getfield 26, 3) := by decide +kernel
theorem dX10_exactly_4 : decode cX10_exactly 4 = .ok (.iload_n 1, 1) := by decide +kernel
theorem dX10_exactly_5 : decode cX10_exactly 5 = .ok (.invokevirtual 156, 3) := by decide +kernel
theorem dX10_exactly_8 : decode cX10_exactly 8 = .ok (.ifCond .eq 19, 3) := by decide +kernel
theorem dX10_exactly_11 : decode cX10_exactly 11 = .ok (.iload_n 2, 1) := by decide +kernel
theorem dX10_exactly_12 : decode cX10_exactly 12 = .ok (.iconst 1, 1) := by decide +kernel
theorem dX10_exactly_13 : decode cX10_exactly 13 = .ok (.if_icmp .lt 14, 3) := by decide +kernel
theorem dX10_exactly_16 : decode cX10_exactly 16 = .ok (.iload_n 2, 1) := by decide +kernel
theorem dX10_exactly_17 : decode cX10_exactly 17 = .ok (.aload_n 0, 1) := by decide +kernel
theorem dX10_exactly_18 : decode cX10_exactly 18 = .ok (.getfield 33, 3) := by decide +kernel
theorem dX10_exactly_21 : decode cX10_exactly 21 = .ok (.invokevirtual 144, 3) := by decide +kernel
theorem dX10_exactly_24 : decode cX10_exactly 24 = .ok (.if_icmp .le 5, 3) := by decide +kernel
theorem dX10_exactly_27 : decode cX10_exactly 27 = .ok (.iconst (-1), 1) := by decide +kernel
theorem dX10_exactly_28 : decode cX10_exactly 28 = .ok (.ireturn, 1) := by decide +kernel
theorem dX10_exactly_29 : decode cX10_exactly 29 = .ok (.aload_n 0, 1) := by decide +kernel
theorem dX10_exactly_30 : decode cX10_exactly 30 = .ok (.getfield 60, 3) := by decide +kernel
theorem dX10_exactly_33 : decode cX10_exactly 33 = .ok (.aload_n 0, 1) := by decide +kernel
theorem dX10_exactly_34 : decode cX10_exactly 34 = .ok (.getfield 26, 3) := by decide +kernel
theorem dX10_exactly_37 : decode cX10_exactly 37 = .ok (.aload_n 0, 1) := by decide +kernel
theorem dX10_exactly_38 : decode cX10_exactly 38 = .ok (.getfield 33, 3) := by decide +kernel
theorem dX10_exactly_41 : decode cX10_exactly 41 = .ok (.invokevirtual 177, 3) := by decide +kernel
theorem dX10_exactly_44 : decode cX10_exactly 44 = .ok (.aload_n 0, 1) := by decide +kernel
theorem dX10_exactly_45 : decode cX10_exactly 45 = .ok (.getfield 60, 3) := by decide +kernel
theorem dX10_exactly_48 : decode cX10_exactly 48 = .ok (.iload_n 1, 1) := by decide +kernel
theorem dX10_exactly_49 : decode cX10_exactly 49 = .ok (.iload_n 2, 1) := by decide +kernel
theorem dX10_exactly_50 : decode cX10_exactly 50 = .ok (.invokevirtual 197, 3) := by decide +kernel
theorem dX10_exactly_53 : decode cX10_exactly 53 = .ok (.ifCond .eq 23, 3) := by decide +kernel
theorem dX10_exactly_56 : decode cX10_exactly 56 = .ok (.aload_n 0, 1) := by decide +kernel
theorem dX10_exactly_57 : decode cX10_exactly 57 = .ok (.getfield 60, 3) := by decide +kernel
theorem dX10_exactly_60 : decode cX10_exactly 60 = .ok (.aload_n 0, 1) := by decide +kernel
theorem dX10_exactly_61 : decode cX10_exactly 61 = .ok (.getfield 26, 3) := by decide +kernel
theorem dX10_exactly_64 : decode cX10_exactly 64 = .ok (.aload_n 0, 1) := by decide +kernel
theorem dX10_exactly_65 : decode cX10_exactly 65 = .ok (.getfield 33, 3) := by decide +kernel
theorem dX10_exactly_68 : decode cX10_exactly 68 = .ok (.iload_n 1, 1) := by decide +kernel
theorem dX10_exactly_69 : decode cX10_exactly 69 = .ok (.iload_n 2, 1) := by decide +kernel
theorem dX10_exactly_70 : decode cX10_exactly 70 = .ok (.invokevirtual 187, 3) := by decide +kernel
theorem dX10_exactly_73 : decode cX10_exactly 73 = .ok (.goto 4, 3) := by decide +kernel
theorem dX10_exactly_76 : decode cX10_exactly 76 = .ok (.iconst (-1), 1) := by decide +kernel
theorem dX10_exactly_77 : decode cX10_exactly 77 = .ok (.ireturn, 1) := by decide +kernel
theorem dX10_run_0 : decode cX10_run 0 = .ok (.aload_n 0, 1) := by decide +kernel
theorem dX10_run_1 : decode cX10_run 1 = .ok (.getfield 26, 3) := by decide +kernel
theorem dX10_run_4 : decode cX10_run 4 = .ok (.iload_n 1, 1) := by decide +kernel
theorem dX10_run_5 : decode cX10_run 5 = .ok (.invokevirtual 156, 3) := by decide +kernel
theorem dX10_run_8 : decode cX10_run 8 = .ok (.ifCond .eq 12, 3) := by decide +kernel
theorem dX10_run_11 : decode cX10_run 11 = .ok (.iload_n 2, 1) := by decide +kernel
theorem dX10_run_12 : decode cX10_run 12 = .ok (.ifCond .lt 8, 3) := by decide +kernel
theorem dX10_run_15 : decode cX10_run 15 = .ok (.iload_n 2, 1) := by decide +kernel
theorem dX10_run_16 : decode cX10_run 16 = .ok (.iconst 1, 1) := by decide +kernel
theorem dX10_run_17 : decode cX10_run 17 = .ok (.if_icmp .le 5, 3) := by decide +kernel
theorem dX10_run_20 : decode cX10_run 20 = .ok (.iconst (-1), 1) := by decide +kernel
theorem dX10_run_21 : decode cX10_run 21 = .ok (.ireturn, 1) := by decide +kernel
theorem dX10_run_22 : decode cX10_run 22 = .ok (.iconst 0, 1) := by decide +kernel
theorem dX10_run_23 : decode cX10_run 23 = .ok (.istore_n 3, 1) := by decide +kernel
theorem dX10_run_24 : decode cX10_run 24 = .ok (.iload_n 3, 1) := by decide +kernel
theorem dX10_run_25 : decode cX10_run 25 = .ok (.aload_n 0, 1) := by decide +kernel
theorem dX10_run_26 : decode cX10_run 26 = .ok (.getfield 33, 3) := by decide +kernel
theorem dX10_run_29 : decode cX10_run 29 = .ok (.invokevirtual 144, 3) := by decide +kernel
theorem dX10_run_32 : decode cX10_run 32 = .ok (.if_icmp .ge 41, 3) := by decide +kernel
theorem dX10_run_35 : decode cX10_run 35 = .ok (.aload_n 0, 1) := by decide +kernel
theorem dX10_run_36 : decode cX10_run 36 = .ok (.getfield 33, 3) := by decide +kernel
theorem dX10_run_39 : decode cX10_run 39 = .ok (.aload_n 0, 1) := by decide +kernel
theorem dX10_run_40 : decode cX10_run 40 = .ok (.getfield 26, 3) := by decide +kernel
theorem dX10_run_43 : decode cX10_run 43 = .ok (.iload_n 3, 1) := by decide +kernel
theorem dX10_run_44 : decode cX10_run 44 = .ok (.iload_n 1, 1) := by decide +kernel
theorem dX10_run_45 : decode cX10_run 45 = .ok (.invokevirtual 201, 3) := by decide +kernel
theorem dX10_run_48 : decode cX10_run 48 = .ok (.istore 4, 2) := by decide +kernel
theorem dX10_run_50 : decode cX10_run 50 = .ok (.iload 4, 2) := by decide +kernel
theorem dX10_run_52 : decode cX10_run 52 = .ok (.iconst (-1), 1) := by decide +kernel
theorem dX10_run_53 : decode cX10_run 53 = .ok (.if_icmp .eq 14, 3) := by decide +kernel
theorem dX10_run_56 : decode cX10_run 56 = .ok (.iload_n 2, 1) := by decide +kernel
theorem dX10_run_57 : decode cX10_run 57 = .ok (.ifCond .ne 7, 3) := by decide +kernel
theorem dX10_run_60 : decode cX10_run 60 = .ok (.iload_n 3, 1) := by decide +kernel
theorem dX10_run_61 : decode cX10_run 61 = .ok (.goto 5, 3) := by decide +kernel
theorem dX10_run_64 : decode cX10_run 64 = .ok (.iload 4, 2) := by decide +kernel
theorem dX10_run_66 : decode cX10_run 66 = .ok (.ireturn, 1) := by decide +kernel
theorem dX10_run_67 : decode cX10_run 67 = .ok (.iinc 3 1, 3) := by decide +kernel
theorem dX10_run_70 : decode cX10_run 70 = .ok (.goto (-46), 3) := by decide +kernel
theorem dX10_run_73 : decode cX10_run 73 = .ok (.iconst (-1), 1) := by decide +kernel
theorem dX10_run_74 : decode cX10_run 74 = .ok (.ireturn, 1) := by decide +kernel
theorem dX10_free_0 : decode cX10_free 0 = .ok (.iload_n 1, 1) := by decide +kernel
theorem dX10_free_1 : decode cX10_free 1 = .ok (.ifCond .lt 8, 3) := by decide +kernel
theorem dX10_free_4 : decode cX10_free 4 = .ok (.iload_n 1, 1) := by decide +kernel
theorem dX10_free_5 : decode cX10_free 5 = .ok (.iconst 2, 1) := by decide +kernel
theorem dX10_free_6 : decode cX10_free 6 = .ok (.if_icmp .le 5, 3) := by decide +kernel
theorem dX10_free_9 : decode cX10_free 9 = .ok (.iconst (-1), 1) := by decide +kernel
theorem dX10_free_10 : decode cX10_free 10 = .ok (.ireturn, 1) := by decide +kernel
theorem dX10_free_11 : decode cX10_free 11 = .ok (.aload_n 0, 1) := by decide +kernel
theorem dX10_free_12 : decode cX10_free 12 = .ok (.getfield 60, 3) := by decide +kernel
theorem dX10_free_15 : decode cX10_free 15 = .ok (.aload_n 0, 1) := by decide +kernel
theorem dX10_free_16 : decode cX10_free 16 = .ok (.getfield 26, 3) := by decide +kernel
theorem dX10_free_19 : decode cX10_free 19 = .ok (.aload_n 0, 1) := by decide +kernel
theorem dX10_free_20 : decode cX10_free 20 = .ok (.getfield 33, 3) := by decide +kernel
theorem dX10_free_23 : decode cX10_free 23 = .ok (.invokevirtual 177, 3) := by decide +kernel
theorem dX10_free_26 : decode cX10_free 26 = .ok (.iload_n 1, 1) := by decide +kernel
theorem dX10_free_27 : decode cX10_free 27 = .ok (.iconst 1, 1) := by decide +kernel
theorem dX10_free_28 : decode cX10_free 28 = .ok (.if_icmp .ne 26, 3) := by decide +kernel
theorem dX10_free_31 : decode cX10_free 31 = .ok (.aload_n 0, 1) := by decide +kernel
theorem dX10_free_32 : decode cX10_free 32 = .ok (.invokevirtual 145, 3) := by decide +kernel
theorem dX10_free_35 : decode cX10_free 35 = .ok (.ifCond .ne 17, 3) := by decide +kernel
theorem dX10_free_38 : decode cX10_free 38 = .ok (.aload_n 0, 1) := by decide +kernel
theorem dX10_free_39 : decode cX10_free 39 = .ok (.getfield 60, 3) := by decide +kernel
theorem dX10_free_42 : decode cX10_free 42 = .ok (.invokevirtual 205, 3) := by decide +kernel
theorem dX10_free_45 : decode cX10_free 45 = .ok (.ifCond .ne 7, 3) := by decide +kernel
theorem dX10_free_48 : decode cX10_free 48 = .ok (.iconst 1, 1) := by decide +kernel
theorem dX10_free_49 : decode cX10_free 49 = .ok (.goto 4, 3) := by decide +kernel
theorem dX10_free_52 : decode cX10_free 52 = .ok (.iconst 0, 1) := by decide +kernel
theorem dX10_free_53 : decode cX10_free 53 = .ok (.ireturn, 1) := by decide +kernel
theorem dX10_free_54 : decode cX10_free 54 = .ok (.aload_n 0, 1) := by decide +kernel
theorem dX10_free_55 : decode cX10_free 55 = .ok (.getfield 60, 3) := by decide +kernel
theorem dX10_free_58 : decode cX10_free 58 = .ok (.invokevirtual 209, 3) := by decide +kernel
theorem dX10_free_61 : decode cX10_free 61 = .ok (.ifCond .ne 7, 3) := by decide +kernel
theorem dX10_free_64 : decode cX10_free 64 = .ok (.iconst 1, 1) := by decide +kernel
theorem dX10_free_65 : decode cX10_free 65 = .ok (.goto 4, 3) := by decide +kernel
theorem dX10_free_68 : decode cX10_free 68 = .ok (.iconst 0, 1) := by decide +kernel
theorem dX10_free_69 : decode cX10_free 69 = .ok (.istore_n 2, 1) := by decide +kernel
theorem dX10_free_70 : decode cX10_free 70 = .ok (.iload_n 1, 1) := by decide +kernel
theorem dX10_free_71 : decode cX10_free 71 = .ok (.ifCond .ne 13, 3) := by decide +kernel
theorem dX10_free_74 : decode cX10_free 74 = .ok (.iload_n 2, 1) := by decide +kernel
theorem dX10_free_75 : decode cX10_free 75 = .ok (.ifCond .eq 7, 3) := by decide +kernel
theorem dX10_free_78 : decode cX10_free 78 = .ok (.iconst 1, 1) := by decide +kernel
theorem dX10_free_79 : decode cX10_free 79 = .ok (.goto 4, 3) := by decide +kernel
theorem dX10_free_82 : decode cX10_free 82 = .ok (.iconst 0, 1) := by decide +kernel
theorem dX10_free_83 : decode cX10_free 83 = .ok (.ireturn, 1) := by decide +kernel
theorem dX10_free_84 : decode cX10_free 84 = .ok (.iload_n 2, 1) := by decide +kernel
theorem dX10_free_85 : decode cX10_free 85 = .ok (.ifCond .eq 20, 3) := by decide +kernel
theorem dX10_free_88 : decode cX10_free 88 = .ok (.aload_n 0, 1) := by decide +kernel
theorem dX10_free_89 : decode cX10_free 89 = .ok (.getfield 26, 3) := by decide +kernel
theorem dX10_free_92 : decode cX10_free 92 = .ok (.aload_n 0, 1) := by decide +kernel
theorem dX10_free_93 : decode cX10_free 93 = .ok (.getfield 60, 3) := by decide +kernel
theorem dX10_free_96 : decode cX10_free 96 = .ok (.invokevirtual 181, 3) := by decide +kernel
theorem dX10_free_99 : decode cX10_free 99 = .ok (.invokevirtual 212, 3) := by decide +kernel
theorem dX10_free_102 : decode cX10_free 102 = .ok (.goto 4, 3) := by decide +kernel
theorem dX10_free_105 : decode cX10_free 105 = .ok (.iconst 0, 1) := by decide +kernel
theorem dX10_free_106 : decode cX10_free 106 = .ok (.ireturn, 1) := by decide +kernel
theorem dX10_atoms_0 : decode cX10_atoms 0 = .ok (.aload_n 0, 1) := by decide +kernel
theorem dX10_atoms_1 : decode cX10_atoms 1 = .ok (.invokevirtual 145, 3) := by decide +kernel
theorem dX10_atoms_4 : decode cX10_atoms 4 = .ok (.ifCond .ne 12, 3) := by decide +kernel
theorem dX10_atoms_7 : decode cX10_atoms 7 = .ok (.iload_n 1, 1) := by decide +kernel
theorem dX10_atoms_8 : decode cX10_atoms 8 = .ok (.ifCond .lt 8, 3) := by decide +kernel
theorem dX10_atoms_11 : decode cX10_atoms 11 = .ok (.iload_n 1, 1) := by decide +kernel
theorem dX10_atoms_12 : decode cX10_atoms 12 = .ok (.iconst 1, 1) := by decide +kernel
theorem dX10_atoms_13 : decode cX10_atoms 13 = .ok (.if_icmp .le 5, 3) := by decide +kernel
theorem dX10_atoms_16 : decode cX10_atoms 16 = .ok (.iconst (-1), 1) := by decide +kernel
theorem dX10_atoms_17 : decode cX10_atoms 17 = .ok (.ireturn, 1) := by decide +kernel
theorem dX10_atoms_18 : decode cX10_atoms 18 = .ok (.aload_n 0, 1) := by decide +kernel
theorem dX10_atoms_19 : decode cX10_atoms 19 = .ok (.getfield 74, 3) := by decide +kernel
theorem dX10_atoms_22 : decode cX10_atoms 22 = .ok (.aload_n 0, 1) := by decide +kernel
theorem dX10_atoms_23 : decode cX10_atoms 23 = .ok (.getfield 26, 3) := by decide +kernel
theorem dX10_atoms_26 : decode cX10_atoms 26 = .ok (.aload_n 0, 1) := by decide +kernel
theorem dX10_atoms_27 : decode cX10_atoms 27 = .ok (.getfield 33, 3) := by decide +kernel
theorem dX10_atoms_30 : decode cX10_atoms 30 = .ok (.invokevirtual 215, 3) := by decide +kernel
theorem dX10_atoms_33 : decode cX10_atoms 33 = .ok (.iload_n 1, 1) := by decide +kernel
theorem dX10_atoms_34 : decode cX10_atoms 34 = .ok (.ifCond .ne 13, 3) := by decide +kernel
theorem dX10_atoms_37 : decode cX10_atoms 37 = .ok (.aload_n 0, 1) := by decide +kernel
theorem dX10_atoms_38 : decode cX10_atoms 38 = .ok (.getfield 74, 3) := by decide +kernel
theorem dX10_atoms_41 : decode cX10_atoms 41 = .ok (.invokevirtual 216, 3) := by decide +kernel
theorem dX10_atoms_44 : decode cX10_atoms 44 = .ok (.goto 10, 3) := by decide +kernel
theorem dX10_atoms_47 : decode cX10_atoms 47 = .ok (.aload_n 0, 1) := by decide +kernel
theorem dX10_atoms_48 : decode cX10_atoms 48 = .ok (.getfield 74, 3) := by decide +kernel
theorem dX10_atoms_51 : decode cX10_atoms 51 = .ok (.invokevirtual 219, 3) := by decide +kernel
theorem dX10_atoms_54 : decode cX10_atoms 54 = .ok (.ireturn, 1) := by decide +kernel
theorem dX10_atom_0 : decode cX10_atom 0 = .ok (.aload_n 0, 1) := by decide +kernel
theorem dX10_atom_1 : decode cX10_atom 1 = .ok (.invokevirtual 145, 3) := by decide +kernel
theorem dX10_atom_4 : decode cX10_atom 4 = .ok (.ifCond .ne 7, 3) := by decide +kernel
theorem dX10_atom_7 : decode cX10_atom 7 = .ok (.iload_n 1, 1) := by decide +kernel
theorem dX10_atom_8 : decode cX10_atom 8 = .ok (.ifCond .ge 5, 3) := by decide +kernel
theorem dX10_atom_11 : decode cX10_atom 11 = .ok (.iconst (-1), 1) := by decide +kernel
theorem dX10_atom_12 : decode cX10_atom 12 = .ok (.ireturn, 1) := by decide +kernel
theorem dX10_atom_13 : decode cX10_atom 13 = .ok (.aload_n 0, 1) := by decide +kernel
theorem dX10_atom_14 : decode cX10_atom 14 = .ok (.getfield 74, 3) := by decide +kernel
theorem dX10_atom_17 : decode cX10_atom 17 = .ok (.aload_n 0, 1) := by decide +kernel
theorem dX10_atom_18 : decode cX10_atom 18 = .ok (.getfield 26, 3) := by decide +kernel
theorem dX10_atom_21 : decode cX10_atom 21 = .ok (.aload_n 0, 1) := by decide +kernel
theorem dX10_atom_22 : decode cX10_atom 22 = .ok (.getfield 33, 3) := by decide +kernel
theorem dX10_atom_25 : decode cX10_atom 25 = .ok (.invokevirtual 215, 3) := by decide +kernel
theorem dX10_atom_28 : decode cX10_atom 28 = .ok (.iload_n 1, 1) := by decide +kernel
theorem dX10_atom_29 : decode cX10_atom 29 = .ok (.aload_n 0, 1) := by decide +kernel
theorem dX10_atom_30 : decode cX10_atom 30 = .ok (.getfield 74, 3) := by decide +kernel
theorem dX10_atom_33 : decode cX10_atom 33 = .ok (.invokevirtual 219, 3) := by decide +kernel
theorem dX10_atom_36 : decode cX10_atom 36 = .ok (.if_icmp .ge 14, 3) := by decide +kernel
theorem dX10_atom_39 : decode cX10_atom 39 = .ok (.aload_n 0, 1) := by decide +kernel
theorem dX10_atom_40 : decode cX10_atom 40 = .ok (.getfield 74, 3) := by decide +kernel
theorem dX10_atom_43 : decode cX10_atom 43 = .ok (.iload_n 1, 1) := by decide +kernel
theorem dX10_atom_44 : decode cX10_atom 44 = .ok (.invokevirtual 222, 3) := by decide +kernel
theorem dX10_atom_47 : decode cX10_atom 47 = .ok (.goto 4, 3) := by decide +kernel
theorem dX10_atom_50 : decode cX10_atom 50 = .ok (.iconst (-1), 1) := by decide +kernel
theorem dX10_atom_51 : decode cX10_atom 51 = .ok (.ireturn, 1) := by decide +kernel
theorem dX10_signed_0 : decode cX10_signed 0 = .ok (.aload_n 0, 1) := by decide +kernel
theorem dX10_signed_1 : decode cX10_signed 1 = .ok (.getfield 26, 3) := by decide +kernel
theorem dX10_signed_4 : decode cX10_signed 4 = .ok (.iload_n 1, 1) := by decide +kernel
theorem dX10_signed_5 : decode cX10_signed 5 = .ok (.invokevirtual 156, 3) := by decide +kernel
theorem dX10_signed_8 : decode cX10_signed 8 = .ok (.ifCond .eq 22, 3) := by decide +kernel
theorem dX10_signed_11 : decode cX10_signed 11 = .ok (.aload_n 0, 1) := by decide +kernel
theorem dX10_signed_12 : decode cX10_signed 12 = .ok (.getfield 67, 3) := by decide +kernel
theorem dX10_signed_15 : decode cX10_signed 15 = .ok (.aload_n 0, 1) := by decide +kernel
theorem dX10_signed_16 : decode cX10_signed 16 = .ok (.getfield 26, 3) := by decide +kernel
theorem dX10_signed_19 : decode cX10_signed 19 = .ok (.aload_n 0, 1) := by decide +kernel
theorem dX10_signed_20 : decode cX10_signed 20 = .ok (.getfield 33, 3) := by decide +kernel
theorem dX10_signed_23 : decode cX10_signed 23 = .ok (.iload_n 1, 1) := by decide +kernel
theorem dX10_signed_24 : decode cX10_signed 24 = .ok (.invokevirtual 225, 3) := by decide +kernel
theorem dX10_signed_27 : decode cX10_signed 27 = .ok (.goto 4, 3) := by decide +kernel
theorem dX10_signed_30 : decode cX10_signed 30 = .ok (.iconst (-1), 1) := by decide +kernel
theorem dX10_signed_31 : decode cX10_signed 31 = .ok (.ireturn, 1) := by decide +kernel
theorem dX10_sign_0 : decode cX10_sign 0 = .ok (.aload_n 0, 1) := by decide +kernel
theorem dX10_sign_1 : decode cX10_sign 1 = .ok (.getfield 26, 3) := by decide +kernel
theorem dX10_sign_4 : decode cX10_sign 4 = .ok (.iload_n 1, 1) := by decide +kernel
theorem dX10_sign_5 : decode cX10_sign 5 = .ok (.invokevirtual 156, 3) := by decide +kernel
theorem dX10_sign_8 : decode cX10_sign 8 = .ok (.ifCond .eq 34, 3) := by decide +kernel
theorem dX10_sign_11 : decode cX10_sign 11 = .ok (.aload_n 0, 1) := by decide +kernel
theorem dX10_sign_12 : decode cX10_sign 12 = .ok (.getfield 33, 3) := by decide +kernel
theorem dX10_sign_15 : decode cX10_sign 15 = .ok (.iload_n 2, 1) := by decide +kernel
theorem dX10_sign_16 : decode cX10_sign 16 = .ok (.invokevirtual 229, 3) := by decide +kernel
theorem dX10_sign_19 : decode cX10_sign 19 = .ok (.ifCond .eq 23, 3) := by decide +kernel
theorem dX10_sign_22 : decode cX10_sign 22 = .ok (.aload_n 0, 1) := by decide +kernel
theorem dX10_sign_23 : decode cX10_sign 23 = .ok (.getfield 67, 3) := by decide +kernel
theorem dX10_sign_26 : decode cX10_sign 26 = .ok (.aload_n 0, 1) := by decide +kernel
theorem dX10_sign_27 : decode cX10_sign 27 = .ok (.getfield 26, 3) := by decide +kernel
theorem dX10_sign_30 : decode cX10_sign 30 = .ok (.aload_n 0, 1) := by decide +kernel
theorem dX10_sign_31 : decode cX10_sign 31 = .ok (.getfield 33, 3) := by decide +kernel
theorem dX10_sign_34 : decode cX10_sign 34 = .ok (.iload_n 1, 1) := by decide +kernel
theorem dX10_sign_35 : decode cX10_sign 35 = .ok (.iload_n 2, 1) := by decide +kernel
theorem dX10_sign_36 : decode cX10_sign 36 = .ok (.invokevirtual 230, 3) := by decide +kernel
theorem dX10_sign_39 : decode cX10_sign 39 = .ok (.goto 4, 3) := by decide +kernel
theorem dX10_sign_42 : decode cX10_sign 42 = .ok (.iconst (-1), 1) := by decide +kernel
theorem dX10_sign_43 : decode cX10_sign 43 = .ok (.ireturn, 1) := by decide +kernel
theorem dX10_like_0 : decode cX10_like 0 = .ok (.aload_n 0, 1) := by decide +kernel
theorem dX10_like_1 : decode cX10_like 1 = .ok (.getfield 33, 3) := by decide +kernel
theorem dX10_like_4 : decode cX10_like 4 = .ok (.iload_n 1, 1) := by decide +kernel
theorem dX10_like_5 : decode cX10_like 5 = .ok (.invokevirtual 229, 3) := by decide +kernel
theorem dX10_like_8 : decode cX10_like 8 = .ok (.ifCond .ne 5, 3) := by decide +kernel
theorem dX10_like_11 : decode cX10_like 11 = .ok (.iconst (-1), 1) := by decide +kernel
theorem dX10_like_12 : decode cX10_like 12 = .ok (.ireturn, 1) := by decide +kernel
theorem dX10_like_13 : decode cX10_like 13 = .ok (.aload_n 0, 1) := by decide +kernel
theorem dX10_like_14 : decode cX10_like 14 = .ok (.getfield 40, 3) := by decide +kernel
theorem dX10_like_17 : decode cX10_like 17 = .ok (.aload_n 0, 1) := by decide +kernel
theorem dX10_like_18 : decode cX10_like 18 = .ok (.getfield 33, 3) := by decide +kernel
theorem dX10_like_21 : decode cX10_like 21 = .ok (.invokevirtual 122, 3) := by decide +kernel
theorem dX10_like_24 : decode cX10_like 24 = .ok (.aload_n 0, 1) := by decide +kernel
theorem dX10_like_25 : decode cX10_like 25 = .ok (.getfield 40, 3) := by decide +kernel
theorem dX10_like_28 : decode cX10_like 28 = .ok (.invokevirtual 233, 3) := by decide +kernel
theorem dX10_like_31 : decode cX10_like 31 = .ok (.iconst 2, 1) := by decide +kernel
theorem dX10_like_32 : decode cX10_like 32 = .ok (.istore_n 2, 1) := by decide +kernel
theorem dX10_like_33 : decode cX10_like 33 = .ok (.iload_n 2, 1) := by decide +kernel
theorem dX10_like_34 : decode cX10_like 34 = .ok (.aload_n 0, 1) := by decide +kernel
theorem dX10_like_35 : decode cX10_like 35 = .ok (.getfield 26, 3) := by decide +kernel
theorem dX10_like_38 : decode cX10_like 38 = .ok (.invokevirtual 141, 3) := by decide +kernel
theorem dX10_like_41 : decode cX10_like 41 = .ok (.if_icmp .gt 75, 3) := by decide +kernel
theorem dX10_like_44 : decode cX10_like 44 = .ok (.aload_n 0, 1) := by decide +kernel
theorem dX10_like_45 : decode cX10_like 45 = .ok (.getfield 26, 3) := by decide +kernel
theorem dX10_like_48 : decode cX10_like 48 = .ok (.iload_n 2, 1) := by decide +kernel
theorem dX10_like_49 : decode cX10_like 49 = .ok (.invokevirtual 236, 3) := by decide +kernel
theorem dX10_like_52 : decode cX10_like 52 = .ok (.ifCond .eq 58, 3) := by decide +kernel
theorem dX10_like_55 : decode cX10_like 55 = .ok (.aload_n 0, 1) := by decide +kernel
theorem dX10_like_56 : decode cX10_like 56 = .ok (.getfield 37, 3) := by decide +kernel
theorem dX10_like_59 : decode cX10_like 59 = .ok (.aload_n 0, 1) := by decide +kernel
theorem dX10_like_60 : decode cX10_like 60 = .ok (.getfield 33, 3) := by decide +kernel
theorem dX10_like_63 : decode cX10_like 63 = .ok (.invokevirtual 122, 3) := by decide +kernel
theorem dX10_like_66 : decode cX10_like 66 = .ok (.aload_n 0, 1) := by decide +kernel
theorem dX10_like_67 : decode cX10_like 67 = .ok (.getfield 37, 3) := by decide +kernel
theorem dX10_like_70 : decode cX10_like 70 = .ok (.aload_n 0, 1) := by decide +kernel
theorem dX10_like_71 : decode cX10_like 71 = .ok (.getfield 26, 3) := by decide +kernel
theorem dX10_like_74 : decode cX10_like 74 = .ok (.iload_n 2, 1) := by decide +kernel
theorem dX10_like_75 : decode cX10_like 75 = .ok (.invokevirtual 239, 3) := by decide +kernel
theorem dX10_like_78 : decode cX10_like 78 = .ok (.aload_n 0, 1) := by decide +kernel
theorem dX10_like_79 : decode cX10_like 79 = .ok (.getfield 37, 3) := by decide +kernel
theorem dX10_like_82 : decode cX10_like 82 = .ok (.invokevirtual 233, 3) := by decide +kernel
theorem dX10_like_85 : decode cX10_like 85 = .ok (.aload_n 0, 1) := by decide +kernel
theorem dX10_like_86 : decode cX10_like 86 = .ok (.getfield 37, 3) := by decide +kernel
theorem dX10_like_89 : decode cX10_like 89 = .ok (.aload_n 0, 1) := by decide +kernel
theorem dX10_like_90 : decode cX10_like 90 = .ok (.getfield 40, 3) := by decide +kernel
theorem dX10_like_93 : decode cX10_like 93 = .ok (.invokevirtual 243, 3) := by decide +kernel
theorem dX10_like_96 : decode cX10_like 96 = .ok (.ifCond .eq 14, 3) := by decide +kernel
theorem dX10_like_99 : decode cX10_like 99 = .ok (.aload_n 0, 1) := by decide +kernel
theorem dX10_like_100 : decode cX10_like 100 = .ok (.getfield 40, 3) := by decide +kernel
theorem dX10_like_103 : decode cX10_like 103 = .ok (.aload_n 0, 1) := by decide +kernel
theorem dX10_like_104 : decode cX10_like 104 = .ok (.getfield 37, 3) := by decide +kernel
theorem dX10_like_107 : decode cX10_like 107 = .ok (.invokevirtual 122, 3) := by decide +kernel
theorem dX10_like_110 : decode cX10_like 110 = .ok (.iinc 2 1, 3) := by decide +kernel
theorem dX10_like_113 : decode cX10_like 113 = .ok (.goto (-80), 3) := by decide +kernel
theorem dX10_like_116 : decode cX10_like 116 = .ok (.aload_n 0, 1) := by decide +kernel
theorem dX10_like_117 : decode cX10_like 117 = .ok (.getfield 40, 3) := by decide +kernel
theorem dX10_like_120 : decode cX10_like 120 = .ok (.iload_n 1, 1) := by decide +kernel
theorem dX10_like_121 : decode cX10_like 121 = .ok (.invokevirtual 153, 3) := by decide +kernel
theorem dX10_like_124 : decode cX10_like 124 = .ok (.ireturn, 1) := by decide +kernel
theorem dX10_frees_0 : decode cX10_frees 0 = .ok (.iload_n 1, 1) := by decide +kernel
theorem dX10_frees_1 : decode cX10_frees 1 = .ok (.ifCond .lt 16, 3) := by decide +kernel
theorem dX10_frees_4 : decode cX10_frees 4 = .ok (.iload_n 1, 1) := by decide +kernel
theorem dX10_frees_5 : decode cX10_frees 5 = .ok (.bipush 12, 2) := by decide +kernel
theorem dX10_frees_7 : decode cX10_frees 7 = .ok (.if_icmp .gt 10, 3) := by decide +kernel
theorem dX10_frees_10 : decode cX10_frees 10 = .ok (.aload_n 0, 1) := by decide +kernel
theorem dX10_frees_11 : decode cX10_frees 11 = .ok (.invokevirtual 247, 3) := by decide +kernel
theorem dX10_frees_14 : decode cX10_frees 14 = .ok (.ifCond .ne 5, 3) := by decide +kernel
theorem dX10_frees_17 : decode cX10_frees 17 = .ok (.iconst (-1), 1) := by decide +kernel
theorem dX10_frees_18 : decode cX10_frees 18 = .ok (.ireturn, 1) := by decide +kernel
theorem dX10_frees_19 : decode cX10_frees 19 = .ok (.aload_n 0, 1) := by decide +kernel
theorem dX10_frees_20 : decode cX10_frees 20 = .ok (.getfield 81, 3) := by decide +kernel
theorem dX10_frees_23 : decode cX10_frees 23 = .ok (.iload_n 1, 1) := by decide +kernel
theorem dX10_frees_24 : decode cX10_frees 24 = .ok (.invokevirtual 250, 3) := by decide +kernel
theorem dX10_frees_27 : decode cX10_frees 27 = .ok (.ireturn, 1) := by decide +kernel
theorem dX10_longest_0 : decode cX10_longest 0 = .ok (.aload_n 0, 1) := by decide +kernel
theorem dX10_longest_1 : decode cX10_longest 1 = .ok (.invokevirtual 247, 3) := by decide +kernel
theorem dX10_longest_4 : decode cX10_longest 4 = .ok (.ifCond .eq 16, 3) := by decide +kernel
theorem dX10_longest_7 : decode cX10_longest 7 = .ok (.aload_n 0, 1) := by decide +kernel
theorem dX10_longest_8 : decode cX10_longest 8 = .ok (.getfield 81, 3) := by decide +kernel
theorem dX10_longest_11 : decode cX10_longest 11 = .ok (.invokevirtual 253, 3) := by decide +kernel
theorem dX10_longest_14 : decode cX10_longest 14 = .ok (.invokevirtual 144, 3) := by decide +kernel
theorem dX10_longest_17 : decode cX10_longest 17 = .ok (.goto 4, 3) := by decide +kernel
theorem dX10_longest_20 : decode cX10_longest 20 = .ok (.iconst (-1), 1) := by decide +kernel
theorem dX10_longest_21 : decode cX10_longest 21 = .ok (.ireturn, 1) := by decide +kernel
theorem dX10_longestAt_0 : decode cX10_longestAt 0 = .ok (.aload_n 0, 1) := by decide +kernel
theorem dX10_longestAt_1 : decode cX10_longestAt 1 = .ok (.invokevirtual 247, 3) := by decide +kernel
theorem dX10_longestAt_4 : decode cX10_longestAt 4 = .ok (.ifCond .eq 17, 3) := by decide +kernel
theorem dX10_longestAt_7 : decode cX10_longestAt 7 = .ok (.aload_n 0, 1) := by decide +kernel
theorem dX10_longestAt_8 : decode cX10_longestAt 8 = .ok (.getfield 81, 3) := by decide +kernel
theorem dX10_longestAt_11 : decode cX10_longestAt 11 = .ok (.invokevirtual 253, 3) := by decide +kernel
theorem dX10_longestAt_14 : decode cX10_longestAt 14 = .ok (.iload_n 1, 1) := by decide +kernel
theorem dX10_longestAt_15 : decode cX10_longestAt 15 = .ok (.invokevirtual 153, 3) := by decide +kernel
theorem dX10_longestAt_18 : decode cX10_longestAt 18 = .ok (.goto 4, 3) := by decide +kernel
theorem dX10_longestAt_21 : decode cX10_longestAt 21 = .ok (.iconst (-1), 1) := by decide +kernel
theorem dX10_longestAt_22 : decode cX10_longestAt 22 = .ok (.ireturn, 1) := by decide +kernel
theorem dX10_enough_0 : decode cX10_enough 0 = .ok (.aload_n 0, 1) := by decide +kernel
theorem dX10_enough_1 : decode cX10_enough 1 = .ok (.getfield 26, 3) := by decide +kernel
theorem dX10_enough_4 : decode cX10_enough 4 = .ok (.invokevirtual 138, 3) := by decide +kernel
theorem dX10_enough_7 : decode cX10_enough 7 = .ok (.istore_n 1, 1) := by decide +kernel
theorem dX10_enough_8 : decode cX10_enough 8 = .ok (.aload_n 0, 1) := by decide +kernel
theorem dX10_enough_9 : decode cX10_enough 9 = .ok (.getfield 26, 3) := by decide +kernel
theorem dX10_enough_12 : decode cX10_enough 12 = .ok (.invokevirtual 141, 3) := by decide +kernel
theorem dX10_enough_15 : decode cX10_enough 15 = .ok (.istore_n 2, 1) := by decide +kernel
theorem dX10_enough_16 : decode cX10_enough 16 = .ok (.iload_n 1, 1) := by decide +kernel
theorem dX10_enough_17 : decode cX10_enough 17 = .ok (.iconst 1, 1) := by decide +kernel
theorem dX10_enough_18 : decode cX10_enough 18 = .ok (.if_icmp .lt 14, 3) := by decide +kernel
theorem dX10_enough_21 : decode cX10_enough 21 = .ok (.iload_n 2, 1) := by decide +kernel
theorem dX10_enough_22 : decode cX10_enough 22 = .ok (.iconst 1, 1) := by decide +kernel
theorem dX10_enough_23 : decode cX10_enough 23 = .ok (.if_icmp .lt 9, 3) := by decide +kernel
theorem dX10_enough_26 : decode cX10_enough 26 = .ok (.iload_n 1, 1) := by decide +kernel
theorem dX10_enough_27 : decode cX10_enough 27 = .ok (.bipush 6, 2) := by decide +kernel
theorem dX10_enough_29 : decode cX10_enough 29 = .ok (.if_icmp .le 5, 3) := by decide +kernel
theorem dX10_enough_32 : decode cX10_enough 32 = .ok (.iconst (-1), 1) := by decide +kernel
theorem dX10_enough_33 : decode cX10_enough 33 = .ok (.ireturn, 1) := by decide +kernel
theorem dX10_enough_34 : decode cX10_enough 34 = .ok (.iconst 2, 1) := by decide +kernel
theorem dX10_enough_35 : decode cX10_enough 35 = .ok (.iload_n 1, 1) := by decide +kernel
theorem dX10_enough_36 : decode cX10_enough 36 = .ok (.iload_n 2, 1) := by decide +kernel
theorem dX10_enough_37 : decode cX10_enough 37 = .ok (.idiv, 1) := by decide +kernel
theorem dX10_enough_38 : decode cX10_enough 38 = .ok (.imul, 1) := by decide +kernel
theorem dX10_enough_39 : decode cX10_enough 39 = .ok (.iconst 2, 1) := by decide +kernel
theorem dX10_enough_40 : decode cX10_enough 40 = .ok (.iload_n 2, 1) := by decide +kernel
theorem dX10_enough_41 : decode cX10_enough 41 = .ok (.imul, 1) := by decide +kernel
theorem dX10_enough_42 : decode cX10_enough 42 = .ok (.iadd, 1) := by decide +kernel
theorem dX10_enough_43 : decode cX10_enough 43 = .ok (.iconst 3, 1) := by decide +kernel
theorem dX10_enough_44 : decode cX10_enough 44 = .ok (.isub, 1) := by decide +kernel
theorem dX10_enough_45 : decode cX10_enough 45 = .ok (.ireturn, 1) := by decide +kernel
theorem dX10_come_0 : decode cX10_come 0 = .ok (.aload_n 0, 1) := by decide +kernel
theorem dX10_come_1 : decode cX10_come 1 = .ok (.getfield 26, 3) := by decide +kernel
theorem dX10_come_4 : decode cX10_come 4 = .ok (.iload_n 1, 1) := by decide +kernel
theorem dX10_come_5 : decode cX10_come 5 = .ok (.invokevirtual 156, 3) := by decide +kernel
theorem dX10_come_8 : decode cX10_come 8 = .ok (.ifCond .eq 13, 3) := by decide +kernel
theorem dX10_come_11 : decode cX10_come 11 = .ok (.aload_n 0, 1) := by decide +kernel
theorem dX10_come_12 : decode cX10_come 12 = .ok (.getfield 33, 3) := by decide +kernel
theorem dX10_come_15 : decode cX10_come 15 = .ok (.invokevirtual 256, 3) := by decide +kernel
theorem dX10_come_18 : decode cX10_come 18 = .ok (.ifCond .eq 5, 3) := by decide +kernel
theorem dX10_come_21 : decode cX10_come 21 = .ok (.iconst (-1), 1) := by decide +kernel
theorem dX10_come_22 : decode cX10_come 22 = .ok (.ireturn, 1) := by decide +kernel
theorem dX10_come_23 : decode cX10_come 23 = .ok (.aload_n 0, 1) := by decide +kernel
theorem dX10_come_24 : decode cX10_come 24 = .ok (.getfield 46, 3) := by decide +kernel
theorem dX10_come_27 : decode cX10_come 27 = .ok (.aload_n 0, 1) := by decide +kernel
theorem dX10_come_28 : decode cX10_come 28 = .ok (.getfield 33, 3) := by decide +kernel
theorem dX10_come_31 : decode cX10_come 31 = .ok (.invokevirtual 259, 3) := by decide +kernel
theorem dX10_come_34 : decode cX10_come 34 = .ok (.aload_n 0, 1) := by decide +kernel
theorem dX10_come_35 : decode cX10_come 35 = .ok (.getfield 33, 3) := by decide +kernel
theorem dX10_come_38 : decode cX10_come 38 = .ok (.iload_n 1, 1) := by decide +kernel
theorem dX10_come_39 : decode cX10_come 39 = .ok (.invokevirtual 262, 3) := by decide +kernel
theorem dX10_come_42 : decode cX10_come 42 = .ok (.pop, 1) := by decide +kernel
theorem dX10_come_43 : decode cX10_come 43 = .ok (.aload_n 0, 1) := by decide +kernel
theorem dX10_come_44 : decode cX10_come 44 = .ok (.getfield 33, 3) := by decide +kernel
theorem dX10_come_47 : decode cX10_come 47 = .ok (.invokevirtual 144, 3) := by decide +kernel
theorem dX10_come_50 : decode cX10_come 50 = .ok (.ireturn, 1) := by decide +kernel
theorem dX10_go_0 : decode cX10_go 0 = .ok (.aload_n 0, 1) := by decide +kernel
theorem dX10_go_1 : decode cX10_go 1 = .ok (.getfield 33, 3) := by decide +kernel
theorem dX10_go_4 : decode cX10_go 4 = .ok (.iload_n 1, 1) := by decide +kernel
theorem dX10_go_5 : decode cX10_go 5 = .ok (.invokevirtual 229, 3) := by decide +kernel
theorem dX10_go_8 : decode cX10_go 8 = .ok (.ifCond .ne 5, 3) := by decide +kernel
theorem dX10_go_11 : decode cX10_go 11 = .ok (.iconst (-1), 1) := by decide +kernel
theorem dX10_go_12 : decode cX10_go 12 = .ok (.ireturn, 1) := by decide +kernel
theorem dX10_go_13 : decode cX10_go 13 = .ok (.aload_n 0, 1) := by decide +kernel
theorem dX10_go_14 : decode cX10_go 14 = .ok (.getfield 46, 3) := by decide +kernel
theorem dX10_go_17 : decode cX10_go 17 = .ok (.aload_n 0, 1) := by decide +kernel
theorem dX10_go_18 : decode cX10_go 18 = .ok (.getfield 33, 3) := by decide +kernel
theorem dX10_go_21 : decode cX10_go 21 = .ok (.invokevirtual 259, 3) := by decide +kernel
theorem dX10_go_24 : decode cX10_go 24 = .ok (.aload_n 0, 1) := by decide +kernel
theorem dX10_go_25 : decode cX10_go 25 = .ok (.getfield 33, 3) := by decide +kernel
theorem dX10_go_28 : decode cX10_go 28 = .ok (.iload_n 1, 1) := by decide +kernel
theorem dX10_go_29 : decode cX10_go 29 = .ok (.invokevirtual 265, 3) := by decide +kernel
theorem dX10_go_32 : decode cX10_go 32 = .ok (.pop, 1) := by decide +kernel
theorem dX10_go_33 : decode cX10_go 33 = .ok (.aload_n 0, 1) := by decide +kernel
theorem dX10_go_34 : decode cX10_go 34 = .ok (.getfield 33, 3) := by decide +kernel
theorem dX10_go_37 : decode cX10_go 37 = .ok (.invokevirtual 144, 3) := by decide +kernel
theorem dX10_go_40 : decode cX10_go 40 = .ok (.ireturn, 1) := by decide +kernel
theorem dX10_times_0 : decode cX10_times 0 = .ok (.aload_n 0, 1) := by decide +kernel
theorem dX10_times_1 : decode cX10_times 1 = .ok (.iload_n 1, 1) := by decide +kernel
theorem dX10_times_2 : decode cX10_times 2 = .ok (.invokevirtual 268, 3) := by decide +kernel
theorem dX10_times_5 : decode cX10_times 5 = .ok (.ifCond .ne 5, 3) := by decide +kernel
theorem dX10_times_8 : decode cX10_times 8 = .ok (.iconst (-1), 1) := by decide +kernel
theorem dX10_times_9 : decode cX10_times 9 = .ok (.ireturn, 1) := by decide +kernel
theorem dX10_times_10 : decode cX10_times 10 = .ok (.aload_n 0, 1) := by decide +kernel
theorem dX10_times_11 : decode cX10_times 11 = .ok (.getfield 46, 3) := by decide +kernel
theorem dX10_times_14 : decode cX10_times 14 = .ok (.aload_n 0, 1) := by decide +kernel
theorem dX10_times_15 : decode cX10_times 15 = .ok (.getfield 33, 3) := by decide +kernel
theorem dX10_times_18 : decode cX10_times 18 = .ok (.invokevirtual 259, 3) := by decide +kernel
theorem dX10_times_21 : decode cX10_times 21 = .ok (.aload_n 0, 1) := by decide +kernel
theorem dX10_times_22 : decode cX10_times 22 = .ok (.getfield 33, 3) := by decide +kernel
theorem dX10_times_25 : decode cX10_times 25 = .ok (.aload_n 0, 1) := by decide +kernel
theorem dX10_times_26 : decode cX10_times 26 = .ok (.getfield 26, 3) := by decide +kernel
theorem dX10_times_29 : decode cX10_times 29 = .ok (.iload_n 1, 1) := by decide +kernel
theorem dX10_times_30 : decode cX10_times 30 = .ok (.invokevirtual 239, 3) := by decide +kernel
theorem dX10_times_33 : decode cX10_times 33 = .ok (.aload_n 0, 1) := by decide +kernel
theorem dX10_times_34 : decode cX10_times 34 = .ok (.invokevirtual 145, 3) := by decide +kernel
theorem dX10_times_37 : decode cX10_times 37 = .ok (.ireturn, 1) := by decide +kernel
theorem dX10_sort_0 : decode cX10_sort 0 = .ok (.aload_n 0, 1) := by decide +kernel
theorem dX10_sort_1 : decode cX10_sort 1 = .ok (.getfield 40, 3) := by decide +kernel
theorem dX10_sort_4 : decode cX10_sort 4 = .ok (.aload_n 0, 1) := by decide +kernel
theorem dX10_sort_5 : decode cX10_sort 5 = .ok (.getfield 33, 3) := by decide +kernel
theorem dX10_sort_8 : decode cX10_sort 8 = .ok (.invokevirtual 122, 3) := by decide +kernel
theorem dX10_sort_11 : decode cX10_sort 11 = .ok (.aload_n 0, 1) := by decide +kernel
theorem dX10_sort_12 : decode cX10_sort 12 = .ok (.getfield 40, 3) := by decide +kernel
theorem dX10_sort_15 : decode cX10_sort 15 = .ok (.invokevirtual 233, 3) := by decide +kernel
theorem dX10_sort_18 : decode cX10_sort 18 = .ok (.iconst 0, 1) := by decide +kernel
theorem dX10_sort_19 : decode cX10_sort 19 = .ok (.istore_n 1, 1) := by decide +kernel
theorem dX10_sort_20 : decode cX10_sort 20 = .ok (.iconst 0, 1) := by decide +kernel
theorem dX10_sort_21 : decode cX10_sort 21 = .ok (.istore_n 2, 1) := by decide +kernel
theorem dX10_sort_22 : decode cX10_sort 22 = .ok (.iload_n 2, 1) := by decide +kernel
theorem dX10_sort_23 : decode cX10_sort 23 = .ok (.aload_n 0, 1) := by decide +kernel
theorem dX10_sort_24 : decode cX10_sort 24 = .ok (.getfield 33, 3) := by decide +kernel
theorem dX10_sort_27 : decode cX10_sort 27 = .ok (.invokevirtual 144, 3) := by decide +kernel
theorem dX10_sort_30 : decode cX10_sort 30 = .ok (.if_icmp .ge 31, 3) := by decide +kernel
theorem dX10_sort_33 : decode cX10_sort 33 = .ok (.aload_n 0, 1) := by decide +kernel
theorem dX10_sort_34 : decode cX10_sort 34 = .ok (.getfield 40, 3) := by decide +kernel
theorem dX10_sort_37 : decode cX10_sort 37 = .ok (.iload_n 2, 1) := by decide +kernel
theorem dX10_sort_38 : decode cX10_sort 38 = .ok (.invokevirtual 153, 3) := by decide +kernel
theorem dX10_sort_41 : decode cX10_sort 41 = .ok (.aload_n 0, 1) := by decide +kernel
theorem dX10_sort_42 : decode cX10_sort 42 = .ok (.getfield 33, 3) := by decide +kernel
theorem dX10_sort_45 : decode cX10_sort 45 = .ok (.iload_n 2, 1) := by decide +kernel
theorem dX10_sort_46 : decode cX10_sort 46 = .ok (.invokevirtual 153, 3) := by decide +kernel
theorem dX10_sort_49 : decode cX10_sort 49 = .ok (.if_icmp .eq 6, 3) := by decide +kernel
theorem dX10_sort_52 : decode cX10_sort 52 = .ok (.iinc 1 1, 3) := by decide +kernel
theorem dX10_sort_55 : decode cX10_sort 55 = .ok (.iinc 2 1, 3) := by decide +kernel
theorem dX10_sort_58 : decode cX10_sort 58 = .ok (.goto (-36), 3) := by decide +kernel
theorem dX10_sort_61 : decode cX10_sort 61 = .ok (.iload_n 1, 1) := by decide +kernel
theorem dX10_sort_62 : decode cX10_sort 62 = .ok (.ifCond .le 25, 3) := by decide +kernel
theorem dX10_sort_65 : decode cX10_sort 65 = .ok (.aload_n 0, 1) := by decide +kernel
theorem dX10_sort_66 : decode cX10_sort 66 = .ok (.getfield 46, 3) := by decide +kernel
theorem dX10_sort_69 : decode cX10_sort 69 = .ok (.aload_n 0, 1) := by decide +kernel
theorem dX10_sort_70 : decode cX10_sort 70 = .ok (.getfield 33, 3) := by decide +kernel
theorem dX10_sort_73 : decode cX10_sort 73 = .ok (.invokevirtual 259, 3) := by decide +kernel
theorem dX10_sort_76 : decode cX10_sort 76 = .ok (.aload_n 0, 1) := by decide +kernel
theorem dX10_sort_77 : decode cX10_sort 77 = .ok (.getfield 33, 3) := by decide +kernel
theorem dX10_sort_80 : decode cX10_sort 80 = .ok (.aload_n 0, 1) := by decide +kernel
theorem dX10_sort_81 : decode cX10_sort 81 = .ok (.getfield 40, 3) := by decide +kernel
theorem dX10_sort_84 : decode cX10_sort 84 = .ok (.invokevirtual 122, 3) := by decide +kernel
theorem dX10_sort_87 : decode cX10_sort 87 = .ok (.iload_n 1, 1) := by decide +kernel
theorem dX10_sort_88 : decode cX10_sort 88 = .ok (.ireturn, 1) := by decide +kernel
theorem dX10_drawn_0 : decode cX10_drawn 0 = .ok (.iload_n 1, 1) := by decide +kernel
theorem dX10_drawn_1 : decode cX10_drawn 1 = .ok (.iconst 1, 1) := by decide +kernel
theorem dX10_drawn_2 : decode cX10_drawn 2 = .ok (.if_icmp .lt 9, 3) := by decide +kernel
theorem dX10_drawn_5 : decode cX10_drawn 5 = .ok (.iload_n 1, 1) := by decide +kernel
theorem dX10_drawn_6 : decode cX10_drawn 6 = .ok (.bipush 60, 2) := by decide +kernel
theorem dX10_drawn_8 : decode cX10_drawn 8 = .ok (.if_icmp .le 5, 3) := by decide +kernel
theorem dX10_drawn_11 : decode cX10_drawn 11 = .ok (.iconst (-1), 1) := by decide +kernel
theorem dX10_drawn_12 : decode cX10_drawn 12 = .ok (.ireturn, 1) := by decide +kernel
theorem dX10_drawn_13 : decode cX10_drawn 13 = .ok (.aload_n 0, 1) := by decide +kernel
theorem dX10_drawn_14 : decode cX10_drawn 14 = .ok (.getfield 37, 3) := by decide +kernel
theorem dX10_drawn_17 : decode cX10_drawn 17 = .ok (.aload_n 0, 1) := by decide +kernel
theorem dX10_drawn_18 : decode cX10_drawn 18 = .ok (.getfield 33, 3) := by decide +kernel
theorem dX10_drawn_21 : decode cX10_drawn 21 = .ok (.invokevirtual 122, 3) := by decide +kernel
theorem dX10_drawn_24 : decode cX10_drawn 24 = .ok (.aload_n 0, 1) := by decide +kernel
theorem dX10_drawn_25 : decode cX10_drawn 25 = .ok (.iload_n 2, 1) := by decide +kernel
theorem dX10_drawn_26 : decode cX10_drawn 26 = .ok (.putfield 85, 3) := by decide +kernel
theorem dX10_drawn_29 : decode cX10_drawn 29 = .ok (.iconst 0, 1) := by decide +kernel
theorem dX10_drawn_30 : decode cX10_drawn 30 = .ok (.istore_n 3, 1) := by decide +kernel
theorem dX10_drawn_31 : decode cX10_drawn 31 = .ok (.iconst 0, 1) := by decide +kernel
theorem dX10_drawn_32 : decode cX10_drawn 32 = .ok (.istore 4, 2) := by decide +kernel
theorem dX10_drawn_34 : decode cX10_drawn 34 = .ok (.iload 4, 2) := by decide +kernel
theorem dX10_drawn_36 : decode cX10_drawn 36 = .ok (.iload_n 1, 1) := by decide +kernel
theorem dX10_drawn_37 : decode cX10_drawn 37 = .ok (.if_icmp .ge 19, 3) := by decide +kernel
theorem dX10_drawn_40 : decode cX10_drawn 40 = .ok (.aload_n 0, 1) := by decide +kernel
theorem dX10_drawn_41 : decode cX10_drawn 41 = .ok (.invokevirtual 271, 3) := by decide +kernel
theorem dX10_drawn_44 : decode cX10_drawn 44 = .ok (.ifCond .eq 6, 3) := by decide +kernel
theorem dX10_drawn_47 : decode cX10_drawn 47 = .ok (.iinc 3 1, 3) := by decide +kernel
theorem dX10_drawn_50 : decode cX10_drawn 50 = .ok (.iinc 4 1, 3) := by decide +kernel
theorem dX10_drawn_53 : decode cX10_drawn 53 = .ok (.goto (-19), 3) := by decide +kernel
theorem dX10_drawn_56 : decode cX10_drawn 56 = .ok (.iload_n 3, 1) := by decide +kernel
theorem dX10_drawn_57 : decode cX10_drawn 57 = .ok (.ifCond .le 14, 3) := by decide +kernel
theorem dX10_drawn_60 : decode cX10_drawn 60 = .ok (.aload_n 0, 1) := by decide +kernel
theorem dX10_drawn_61 : decode cX10_drawn 61 = .ok (.getfield 46, 3) := by decide +kernel
theorem dX10_drawn_64 : decode cX10_drawn 64 = .ok (.aload_n 0, 1) := by decide +kernel
theorem dX10_drawn_65 : decode cX10_drawn 65 = .ok (.getfield 37, 3) := by decide +kernel
theorem dX10_drawn_68 : decode cX10_drawn 68 = .ok (.invokevirtual 259, 3) := by decide +kernel
theorem dX10_drawn_71 : decode cX10_drawn 71 = .ok (.iload_n 3, 1) := by decide +kernel
theorem dX10_drawn_72 : decode cX10_drawn 72 = .ok (.ireturn, 1) := by decide +kernel
theorem dX10_undo_0 : decode cX10_undo 0 = .ok (.aload_n 0, 1) := by decide +kernel
theorem dX10_undo_1 : decode cX10_undo 1 = .ok (.getfield 46, 3) := by decide +kernel
theorem dX10_undo_4 : decode cX10_undo 4 = .ok (.invokevirtual 148, 3) := by decide +kernel
theorem dX10_undo_7 : decode cX10_undo 7 = .ok (.ifCond .ne 5, 3) := by decide +kernel
theorem dX10_undo_10 : decode cX10_undo 10 = .ok (.iconst (-1), 1) := by decide +kernel
theorem dX10_undo_11 : decode cX10_undo 11 = .ok (.ireturn, 1) := by decide +kernel
theorem dX10_undo_12 : decode cX10_undo 12 = .ok (.aload_n 0, 1) := by decide +kernel
theorem dX10_undo_13 : decode cX10_undo 13 = .ok (.getfield 46, 3) := by decide +kernel
theorem dX10_undo_16 : decode cX10_undo 16 = .ok (.aload_n 0, 1) := by decide +kernel
theorem dX10_undo_17 : decode cX10_undo 17 = .ok (.getfield 33, 3) := by decide +kernel
theorem dX10_undo_20 : decode cX10_undo 20 = .ok (.invokevirtual 274, 3) := by decide +kernel
theorem dX10_undo_23 : decode cX10_undo 23 = .ok (.aload_n 0, 1) := by decide +kernel
theorem dX10_undo_24 : decode cX10_undo 24 = .ok (.getfield 46, 3) := by decide +kernel
theorem dX10_undo_27 : decode cX10_undo 27 = .ok (.invokevirtual 148, 3) := by decide +kernel
theorem dX10_undo_30 : decode cX10_undo 30 = .ok (.ireturn, 1) := by decide +kernel
theorem dX10_image_0 : decode cX10_image 0 = .ok (.aload_n 0, 1) := by decide +kernel
theorem dX10_image_1 : decode cX10_image 1 = .ok (.iload_n 1, 1) := by decide +kernel
theorem dX10_image_2 : decode cX10_image 2 = .ok (.invokevirtual 277, 3) := by decide +kernel
theorem dX10_image_5 : decode cX10_image 5 = .ok (.astore_n 2, 1) := by decide +kernel
theorem dX10_image_6 : decode cX10_image 6 = .ok (.aload_n 2, 1) := by decide +kernel
theorem dX10_image_7 : decode cX10_image 7 = .ok (.ifnonnull 5, 3) := by decide +kernel
theorem dX10_image_10 : decode cX10_image 10 = .ok (.iconst 0, 1) := by decide +kernel
theorem dX10_image_11 : decode cX10_image 11 = .ok (.ireturn, 1) := by decide +kernel
theorem dX10_image_12 : decode cX10_image 12 = .ok (.aload_n 2, 1) := by decide +kernel
theorem dX10_image_13 : decode cX10_image 13 = .ok (.aload_n 0, 1) := by decide +kernel
theorem dX10_image_14 : decode cX10_image 14 = .ok (.getfield 26, 3) := by decide +kernel
theorem dX10_image_17 : decode cX10_image 17 = .ok (.aload_n 0, 1) := by decide +kernel
theorem dX10_image_18 : decode cX10_image 18 = .ok (.getfield 33, 3) := by decide +kernel
theorem dX10_image_21 : decode cX10_image 21 = .ok (.invokevirtual 281, 3) := by decide +kernel
theorem dX10_image_24 : decode cX10_image 24 = .ok (.iconst 1, 1) := by decide +kernel
theorem dX10_image_25 : decode cX10_image 25 = .ok (.ireturn, 1) := by decide +kernel
theorem dX10_restore_0 : decode cX10_restore 0 = .ok (.aload_n 0, 1) := by decide +kernel
theorem dX10_restore_1 : decode cX10_restore 1 = .ok (.iload_n 1, 1) := by decide +kernel
theorem dX10_restore_2 : decode cX10_restore 2 = .ok (.invokevirtual 277, 3) := by decide +kernel
theorem dX10_restore_5 : decode cX10_restore 5 = .ok (.astore_n 2, 1) := by decide +kernel
theorem dX10_restore_6 : decode cX10_restore 6 = .ok (.aload_n 2, 1) := by decide +kernel
theorem dX10_restore_7 : decode cX10_restore 7 = .ok (.ifnull 10, 3) := by decide +kernel
theorem dX10_restore_10 : decode cX10_restore 10 = .ok (.aload_n 2, 1) := by decide +kernel
theorem dX10_restore_11 : decode cX10_restore 11 = .ok (.invokevirtual 283, 3) := by decide +kernel
theorem dX10_restore_14 : decode cX10_restore 14 = .ok (.ifCond .ne 5, 3) := by decide +kernel
theorem dX10_restore_17 : decode cX10_restore 17 = .ok (.iconst 0, 1) := by decide +kernel
theorem dX10_restore_18 : decode cX10_restore 18 = .ok (.ireturn, 1) := by decide +kernel
theorem dX10_restore_19 : decode cX10_restore 19 = .ok (.aload_n 2, 1) := by decide +kernel
theorem dX10_restore_20 : decode cX10_restore 20 = .ok (.aload_n 0, 1) := by decide +kernel
theorem dX10_restore_21 : decode cX10_restore 21 = .ok (.getfield 26, 3) := by decide +kernel
theorem dX10_restore_24 : decode cX10_restore 24 = .ok (.aload_n 0, 1) := by decide +kernel
theorem dX10_restore_25 : decode cX10_restore 25 = .ok (.getfield 33, 3) := by decide +kernel
theorem dX10_restore_28 : decode cX10_restore 28 = .ok (.invokevirtual 286, 3) := by decide +kernel
theorem dX10_restore_31 : decode cX10_restore 31 = .ok (.aload_n 0, 1) := by decide +kernel
theorem dX10_restore_32 : decode cX10_restore 32 = .ok (.getfield 46, 3) := by decide +kernel
theorem dX10_restore_35 : decode cX10_restore 35 = .ok (.invokevirtual 126, 3) := by decide +kernel
theorem dX10_restore_38 : decode cX10_restore 38 = .ok (.iconst 1, 1) := by decide +kernel
theorem dX10_restore_39 : decode cX10_restore 39 = .ok (.ireturn, 1) := by decide +kernel
theorem dX10_imageAt_0 : decode cX10_imageAt 0 = .ok (.iload_n 1, 1) := by decide +kernel
theorem dX10_imageAt_1 : decode cX10_imageAt 1 = .ok (.ifCond .lt 21, 3) := by decide +kernel
theorem dX10_imageAt_4 : decode cX10_imageAt 4 = .ok (.iload_n 1, 1) := by decide +kernel
theorem dX10_imageAt_5 : decode cX10_imageAt 5 = .ok (.aload_n 0, 1) := by decide +kernel
theorem dX10_imageAt_6 : decode cX10_imageAt 6 = .ok (.getfield 52, 3) := by decide +kernel
theorem dX10_imageAt_9 : decode cX10_imageAt 9 = .ok (.arraylength, 1) := by decide +kernel
theorem dX10_imageAt_10 : decode cX10_imageAt 10 = .ok (.if_icmp .ge 12, 3) := by decide +kernel
theorem dX10_imageAt_13 : decode cX10_imageAt 13 = .ok (.aload_n 0, 1) := by decide +kernel
theorem dX10_imageAt_14 : decode cX10_imageAt 14 = .ok (.getfield 52, 3) := by decide +kernel
theorem dX10_imageAt_17 : decode cX10_imageAt 17 = .ok (.iload_n 1, 1) := by decide +kernel
theorem dX10_imageAt_18 : decode cX10_imageAt 18 = .ok (.aaload, 1) := by decide +kernel
theorem dX10_imageAt_19 : decode cX10_imageAt 19 = .ok (.goto 4, 3) := by decide +kernel
theorem dX10_imageAt_22 : decode cX10_imageAt 22 = .ok (.aconst_null, 1) := by decide +kernel
theorem dX10_imageAt_23 : decode cX10_imageAt 23 = .ok (.areturn, 1) := by decide +kernel
theorem dX10_sumOfAll_0 : decode cX10_sumOfAll 0 = .ok (.aload_n 0, 1) := by decide +kernel
theorem dX10_sumOfAll_1 : decode cX10_sumOfAll 1 = .ok (.getfield 33, 3) := by decide +kernel
theorem dX10_sumOfAll_4 : decode cX10_sumOfAll 4 = .ok (.invokevirtual 144, 3) := by decide +kernel
theorem dX10_sumOfAll_7 : decode cX10_sumOfAll 7 = .ok (.ifCond .ne 7, 3) := by decide +kernel
theorem dX10_sumOfAll_10 : decode cX10_sumOfAll 10 = .ok (.iconst (-1), 1) := by decide +kernel
theorem dX10_sumOfAll_11 : decode cX10_sumOfAll 11 = .ok (.goto 21, 3) := by decide +kernel
theorem dX10_sumOfAll_14 : decode cX10_sumOfAll 14 = .ok (.aload_n 0, 1) := by decide +kernel
theorem dX10_sumOfAll_15 : decode cX10_sumOfAll 15 = .ok (.getfield 33, 3) := by decide +kernel
theorem dX10_sumOfAll_18 : decode cX10_sumOfAll 18 = .ok (.aload_n 0, 1) := by decide +kernel
theorem dX10_sumOfAll_19 : decode cX10_sumOfAll 19 = .ok (.getfield 26, 3) := by decide +kernel
theorem dX10_sumOfAll_22 : decode cX10_sumOfAll 22 = .ok (.aload_n 0, 1) := by decide +kernel
theorem dX10_sumOfAll_23 : decode cX10_sumOfAll 23 = .ok (.getfield 33, 3) := by decide +kernel
theorem dX10_sumOfAll_26 : decode cX10_sumOfAll 26 = .ok (.invokevirtual 163, 3) := by decide +kernel
theorem dX10_sumOfAll_29 : decode cX10_sumOfAll 29 = .ok (.invokevirtual 173, 3) := by decide +kernel
theorem dX10_sumOfAll_32 : decode cX10_sumOfAll 32 = .ok (.ireturn, 1) := by decide +kernel
theorem dX10_canMultiply_0 : decode cX10_canMultiply 0 = .ok (.aload_n 0, 1) := by decide +kernel
theorem dX10_canMultiply_1 : decode cX10_canMultiply 1 = .ok (.getfield 33, 3) := by decide +kernel
theorem dX10_canMultiply_4 : decode cX10_canMultiply 4 = .ok (.invokevirtual 144, 3) := by decide +kernel
theorem dX10_canMultiply_7 : decode cX10_canMultiply 7 = .ok (.ifCond .le 29, 3) := by decide +kernel
theorem dX10_canMultiply_10 : decode cX10_canMultiply 10 = .ok (.iload_n 1, 1) := by decide +kernel
theorem dX10_canMultiply_11 : decode cX10_canMultiply 11 = .ok (.iconst 1, 1) := by decide +kernel
theorem dX10_canMultiply_12 : decode cX10_canMultiply 12 = .ok (.if_icmp .lt 24, 3) := by decide +kernel
theorem dX10_canMultiply_15 : decode cX10_canMultiply 15 = .ok (.iload_n 1, 1) := by decide +kernel
theorem dX10_canMultiply_16 : decode cX10_canMultiply 16 = .ok (.bipush 24, 2) := by decide +kernel
theorem dX10_canMultiply_18 : decode cX10_canMultiply 18 = .ok (.if_icmp .gt 18, 3) := by decide +kernel
theorem dX10_canMultiply_21 : decode cX10_canMultiply 21 = .ok (.aload_n 0, 1) := by decide +kernel
theorem dX10_canMultiply_22 : decode cX10_canMultiply 22 = .ok (.getfield 26, 3) := by decide +kernel
theorem dX10_canMultiply_25 : decode cX10_canMultiply 25 = .ok (.iload_n 1, 1) := by decide +kernel
theorem dX10_canMultiply_26 : decode cX10_canMultiply 26 = .ok (.invokevirtual 236, 3) := by decide +kernel
theorem dX10_canMultiply_29 : decode cX10_canMultiply 29 = .ok (.ifCond .eq 7, 3) := by decide +kernel
theorem dX10_canMultiply_32 : decode cX10_canMultiply 32 = .ok (.iconst 1, 1) := by decide +kernel
theorem dX10_canMultiply_33 : decode cX10_canMultiply 33 = .ok (.goto 4, 3) := by decide +kernel
theorem dX10_canMultiply_36 : decode cX10_canMultiply 36 = .ok (.iconst 0, 1) := by decide +kernel
theorem dX10_canMultiply_37 : decode cX10_canMultiply 37 = .ok (.ireturn, 1) := by decide +kernel
theorem dX10_studyMultisets_0 : decode cX10_studyMultisets 0 = .ok (.aload_n 0, 1) := by decide +kernel
theorem dX10_studyMultisets_1 : decode cX10_studyMultisets 1 = .ok (.getfield 26, 3) := by decide +kernel
theorem dX10_studyMultisets_4 : decode cX10_studyMultisets 4 = .ok (.invokevirtual 138, 3) := by decide +kernel
theorem dX10_studyMultisets_7 : decode cX10_studyMultisets 7 = .ok (.iconst 1, 1) := by decide +kernel
theorem dX10_studyMultisets_8 : decode cX10_studyMultisets 8 = .ok (.if_icmp .lt 15, 3) := by decide +kernel
theorem dX10_studyMultisets_11 : decode cX10_studyMultisets 11 = .ok (.aload_n 0, 1) := by decide +kernel
theorem dX10_studyMultisets_12 : decode cX10_studyMultisets 12 = .ok (.getfield 26, 3) := by decide +kernel
theorem dX10_studyMultisets_15 : decode cX10_studyMultisets 15 = .ok (.invokevirtual 138, 3) := by decide +kernel
theorem dX10_studyMultisets_18 : decode cX10_studyMultisets 18 = .ok (.bipush 12, 2) := by decide +kernel
theorem dX10_studyMultisets_20 : decode cX10_studyMultisets 20 = .ok (.if_icmp .le 5, 3) := by decide +kernel
theorem dX10_studyMultisets_23 : decode cX10_studyMultisets 23 = .ok (.iconst 0, 1) := by decide +kernel
theorem dX10_studyMultisets_24 : decode cX10_studyMultisets 24 = .ok (.ireturn, 1) := by decide +kernel
theorem dX10_studyMultisets_25 : decode cX10_studyMultisets 25 = .ok (.aload_n 0, 1) := by decide +kernel
theorem dX10_studyMultisets_26 : decode cX10_studyMultisets 26 = .ok (.getfield 81, 3) := by decide +kernel
theorem dX10_studyMultisets_29 : decode cX10_studyMultisets 29 = .ok (.aload_n 0, 1) := by decide +kernel
theorem dX10_studyMultisets_30 : decode cX10_studyMultisets 30 = .ok (.getfield 26, 3) := by decide +kernel
theorem dX10_studyMultisets_33 : decode cX10_studyMultisets 33 = .ok (.invokevirtual 289, 3) := by decide +kernel
theorem dX10_studyMultisets_36 : decode cX10_studyMultisets 36 = .ok (.iconst 1, 1) := by decide +kernel
theorem dX10_studyMultisets_37 : decode cX10_studyMultisets 37 = .ok (.ireturn, 1) := by decide +kernel
theorem dX10_draw_0 : decode cX10_draw 0 = .ok (.aload_n 0, 1) := by decide +kernel
theorem dX10_draw_1 : decode cX10_draw 1 = .ok (.aload_n 0, 1) := by decide +kernel
theorem dX10_draw_2 : decode cX10_draw 2 = .ok (.getfield 85, 3) := by decide +kernel
theorem dX10_draw_5 : decode cX10_draw 5 = .ok (.ldc_w 292, 3) := by decide +kernel
theorem dX10_draw_8 : decode cX10_draw 8 = .ok (.imul, 1) := by decide +kernel
theorem dX10_draw_9 : decode cX10_draw 9 = .ok (.sipush 12345, 3) := by decide +kernel
theorem dX10_draw_12 : decode cX10_draw 12 = .ok (.iadd, 1) := by decide +kernel
theorem dX10_draw_13 : decode cX10_draw 13 = .ok (.putfield 85, 3) := by decide +kernel
theorem dX10_draw_16 : decode cX10_draw 16 = .ok (.iload_n 1, 1) := by decide +kernel
theorem dX10_draw_17 : decode cX10_draw 17 = .ok (.iconst 1, 1) := by decide +kernel
theorem dX10_draw_18 : decode cX10_draw 18 = .ok (.if_icmp .ge 7, 3) := by decide +kernel
theorem dX10_draw_21 : decode cX10_draw 21 = .ok (.iconst 0, 1) := by decide +kernel
theorem dX10_draw_22 : decode cX10_draw 22 = .ok (.goto 12, 3) := by decide +kernel
theorem dX10_draw_25 : decode cX10_draw 25 = .ok (.aload_n 0, 1) := by decide +kernel
theorem dX10_draw_26 : decode cX10_draw 26 = .ok (.getfield 85, 3) := by decide +kernel
theorem dX10_draw_29 : decode cX10_draw 29 = .ok (.bipush 8, 2) := by decide +kernel
theorem dX10_draw_31 : decode cX10_draw 31 = .ok (.iushr, 1) := by decide +kernel
theorem dX10_draw_32 : decode cX10_draw 32 = .ok (.iload_n 1, 1) := by decide +kernel
theorem dX10_draw_33 : decode cX10_draw 33 = .ok (.irem, 1) := by decide +kernel
theorem dX10_draw_34 : decode cX10_draw 34 = .ok (.ireturn, 1) := by decide +kernel
theorem dX10_doDrawnDeed_0 : decode cX10_doDrawnDeed 0 = .ok (.aload_n 0, 1) := by decide +kernel
theorem dX10_doDrawnDeed_1 : decode cX10_doDrawnDeed 1 = .ok (.iconst 4, 1) := by decide +kernel
theorem dX10_doDrawnDeed_2 : decode cX10_doDrawnDeed 2 = .ok (.invokevirtual 293, 3) := by decide +kernel
theorem dX10_doDrawnDeed_5 : decode cX10_doDrawnDeed 5 = .ok (.istore_n 1, 1) := by decide +kernel
theorem dX10_doDrawnDeed_6 : decode cX10_doDrawnDeed 6 = .ok (.aload_n 0, 1) := by decide +kernel
theorem dX10_doDrawnDeed_7 : decode cX10_doDrawnDeed 7 = .ok (.getfield 26, 3) := by decide +kernel
theorem dX10_doDrawnDeed_10 : decode cX10_doDrawnDeed 10 = .ok (.invokevirtual 138, 3) := by decide +kernel
theorem dX10_doDrawnDeed_13 : decode cX10_doDrawnDeed 13 = .ok (.ifCond .ne 5, 3) := by decide +kernel
theorem dX10_doDrawnDeed_16 : decode cX10_doDrawnDeed 16 = .ok (.iconst 0, 1) := by decide +kernel
theorem dX10_doDrawnDeed_17 : decode cX10_doDrawnDeed 17 = .ok (.ireturn, 1) := by decide +kernel
theorem dX10_doDrawnDeed_18 : decode cX10_doDrawnDeed 18 = .ok (.iload_n 1, 1) := by decide +kernel
theorem dX10_doDrawnDeed_19 : decode cX10_doDrawnDeed 19 = .ok (.ifCond .ne 40, 3) := by decide +kernel
theorem dX10_doDrawnDeed_22 : decode cX10_doDrawnDeed 22 = .ok (.aload_n 0, 1) := by decide +kernel
theorem dX10_doDrawnDeed_23 : decode cX10_doDrawnDeed 23 = .ok (.getfield 33, 3) := by decide +kernel
theorem dX10_doDrawnDeed_26 : decode cX10_doDrawnDeed 26 = .ok (.invokevirtual 144, 3) := by decide +kernel
theorem dX10_doDrawnDeed_29 : decode cX10_doDrawnDeed 29 = .ok (.ifCond .le 28, 3) := by decide +kernel
theorem dX10_doDrawnDeed_32 : decode cX10_doDrawnDeed 32 = .ok (.aload_n 0, 1) := by decide +kernel
theorem dX10_doDrawnDeed_33 : decode cX10_doDrawnDeed 33 = .ok (.getfield 33, 3) := by decide +kernel
theorem dX10_doDrawnDeed_36 : decode cX10_doDrawnDeed 36 = .ok (.aload_n 0, 1) := by decide +kernel
theorem dX10_doDrawnDeed_37 : decode cX10_doDrawnDeed 37 = .ok (.aload_n 0, 1) := by decide +kernel
theorem dX10_doDrawnDeed_38 : decode cX10_doDrawnDeed 38 = .ok (.getfield 33, 3) := by decide +kernel
theorem dX10_doDrawnDeed_41 : decode cX10_doDrawnDeed 41 = .ok (.invokevirtual 144, 3) := by decide +kernel
theorem dX10_doDrawnDeed_44 : decode cX10_doDrawnDeed 44 = .ok (.invokevirtual 293, 3) := by decide +kernel
theorem dX10_doDrawnDeed_47 : decode cX10_doDrawnDeed 47 = .ok (.invokevirtual 265, 3) := by decide +kernel
theorem dX10_doDrawnDeed_50 : decode cX10_doDrawnDeed 50 = .ok (.ifCond .eq 7, 3) := by decide +kernel
theorem dX10_doDrawnDeed_53 : decode cX10_doDrawnDeed 53 = .ok (.iconst 1, 1) := by decide +kernel
theorem dX10_doDrawnDeed_54 : decode cX10_doDrawnDeed 54 = .ok (.goto 4, 3) := by decide +kernel
theorem dX10_doDrawnDeed_57 : decode cX10_doDrawnDeed 57 = .ok (.iconst 0, 1) := by decide +kernel
theorem dX10_doDrawnDeed_58 : decode cX10_doDrawnDeed 58 = .ok (.ireturn, 1) := by decide +kernel
theorem dX10_doDrawnDeed_59 : decode cX10_doDrawnDeed 59 = .ok (.iload_n 1, 1) := by decide +kernel
theorem dX10_doDrawnDeed_60 : decode cX10_doDrawnDeed 60 = .ok (.iconst 1, 1) := by decide +kernel
theorem dX10_doDrawnDeed_61 : decode cX10_doDrawnDeed 61 = .ok (.if_icmp .ne 41, 3) := by decide +kernel
theorem dX10_doDrawnDeed_64 : decode cX10_doDrawnDeed 64 = .ok (.aload_n 0, 1) := by decide +kernel
theorem dX10_doDrawnDeed_65 : decode cX10_doDrawnDeed 65 = .ok (.aload_n 0, 1) := by decide +kernel
theorem dX10_doDrawnDeed_66 : decode cX10_doDrawnDeed 66 = .ok (.getfield 26, 3) := by decide +kernel
theorem dX10_doDrawnDeed_69 : decode cX10_doDrawnDeed 69 = .ok (.invokevirtual 141, 3) := by decide +kernel
theorem dX10_doDrawnDeed_72 : decode cX10_doDrawnDeed 72 = .ok (.invokevirtual 293, 3) := by decide +kernel
theorem dX10_doDrawnDeed_75 : decode cX10_doDrawnDeed 75 = .ok (.iconst 1, 1) := by decide +kernel
theorem dX10_doDrawnDeed_76 : decode cX10_doDrawnDeed 76 = .ok (.iadd, 1) := by decide +kernel
theorem dX10_doDrawnDeed_77 : decode cX10_doDrawnDeed 77 = .ok (.istore_n 2, 1) := by decide +kernel
theorem dX10_doDrawnDeed_78 : decode cX10_doDrawnDeed 78 = .ok (.aload_n 0, 1) := by decide +kernel
theorem dX10_doDrawnDeed_79 : decode cX10_doDrawnDeed 79 = .ok (.iload_n 2, 1) := by decide +kernel
theorem dX10_doDrawnDeed_80 : decode cX10_doDrawnDeed 80 = .ok (.invokevirtual 268, 3) := by decide +kernel
theorem dX10_doDrawnDeed_83 : decode cX10_doDrawnDeed 83 = .ok (.ifCond .ne 5, 3) := by decide +kernel
theorem dX10_doDrawnDeed_86 : decode cX10_doDrawnDeed 86 = .ok (.iconst 0, 1) := by decide +kernel
theorem dX10_doDrawnDeed_87 : decode cX10_doDrawnDeed 87 = .ok (.ireturn, 1) := by decide +kernel
theorem dX10_doDrawnDeed_88 : decode cX10_doDrawnDeed 88 = .ok (.aload_n 0, 1) := by decide +kernel
theorem dX10_doDrawnDeed_89 : decode cX10_doDrawnDeed 89 = .ok (.getfield 33, 3) := by decide +kernel
theorem dX10_doDrawnDeed_92 : decode cX10_doDrawnDeed 92 = .ok (.aload_n 0, 1) := by decide +kernel
theorem dX10_doDrawnDeed_93 : decode cX10_doDrawnDeed 93 = .ok (.getfield 26, 3) := by decide +kernel
theorem dX10_doDrawnDeed_96 : decode cX10_doDrawnDeed 96 = .ok (.iload_n 2, 1) := by decide +kernel
theorem dX10_doDrawnDeed_97 : decode cX10_doDrawnDeed 97 = .ok (.invokevirtual 239, 3) := by decide +kernel
theorem dX10_doDrawnDeed_100 : decode cX10_doDrawnDeed 100 = .ok (.iconst 1, 1) := by decide +kernel
theorem dX10_doDrawnDeed_101 : decode cX10_doDrawnDeed 101 = .ok (.ireturn, 1) := by decide +kernel
theorem dX10_doDrawnDeed_102 : decode cX10_doDrawnDeed 102 = .ok (.aload_n 0, 1) := by decide +kernel
theorem dX10_doDrawnDeed_103 : decode cX10_doDrawnDeed 103 = .ok (.getfield 33, 3) := by decide +kernel
theorem dX10_doDrawnDeed_106 : decode cX10_doDrawnDeed 106 = .ok (.aload_n 0, 1) := by decide +kernel
theorem dX10_doDrawnDeed_107 : decode cX10_doDrawnDeed 107 = .ok (.aload_n 0, 1) := by decide +kernel
theorem dX10_doDrawnDeed_108 : decode cX10_doDrawnDeed 108 = .ok (.getfield 26, 3) := by decide +kernel
theorem dX10_doDrawnDeed_111 : decode cX10_doDrawnDeed 111 = .ok (.invokevirtual 138, 3) := by decide +kernel
theorem dX10_doDrawnDeed_114 : decode cX10_doDrawnDeed 114 = .ok (.invokevirtual 293, 3) := by decide +kernel
theorem dX10_doDrawnDeed_117 : decode cX10_doDrawnDeed 117 = .ok (.invokevirtual 262, 3) := by decide +kernel
theorem dX10_doDrawnDeed_120 : decode cX10_doDrawnDeed 120 = .ok (.ireturn, 1) := by decide +kernel
theorem dX11_thrown_0 : decode cX11_thrown 0 = .ok (.aload_n 0, 1) := by decide +kernel
theorem dX11_thrown_1 : decode cX11_thrown 1 = .ok (.getfield 1, 3) := by decide +kernel
theorem dX11_thrown_4 : decode cX11_thrown 4 = .ok (.ireturn, 1) := by decide +kernel
theorem dX11_refuse_0 : decode cX11_refuse 0 = .ok (.aload_n 0, 1) := by decide +kernel
theorem dX11_refuse_1 : decode cX11_refuse 1 = .ok (.iconst 1, 1) := by decide +kernel
theorem dX11_refuse_2 : decode cX11_refuse 2 = .ok (.putfield 1, 3) := by decide +kernel
theorem dX11_refuse_5 : decode cX11_refuse 5 = .ok (.iconst 0, 1) := by decide +kernel
theorem dX11_refuse_6 : decode cX11_refuse 6 = .ok (.ireturn, 1) := by decide +kernel
theorem dX11_isIn_0 : decode cX11_isIn 0 = .ok (.iload_n 0, 1) := by decide +kernel
theorem dX11_isIn_1 : decode cX11_isIn 1 = .ok (.iload_n 1, 1) := by decide +kernel
theorem dX11_isIn_2 : decode cX11_isIn 2 = .ok (.if_icmp .lt 12, 3) := by decide +kernel
theorem dX11_isIn_5 : decode cX11_isIn 5 = .ok (.iload_n 0, 1) := by decide +kernel
theorem dX11_isIn_6 : decode cX11_isIn 6 = .ok (.iload_n 2, 1) := by decide +kernel
theorem dX11_isIn_7 : decode cX11_isIn 7 = .ok (.if_icmp .gt 7, 3) := by decide +kernel
theorem dX11_isIn_10 : decode cX11_isIn 10 = .ok (.iconst 1, 1) := by decide +kernel
theorem dX11_isIn_11 : decode cX11_isIn 11 = .ok (.goto 4, 3) := by decide +kernel
theorem dX11_isIn_14 : decode cX11_isIn 14 = .ok (.iconst 0, 1) := by decide +kernel
theorem dX11_isIn_15 : decode cX11_isIn 15 = .ok (.ireturn, 1) := by decide +kernel
theorem dX11_has_0 : decode cX11_has 0 = .ok (.iload_n 0, 1) := by decide +kernel
theorem dX11_has_1 : decode cX11_has 1 = .ok (.iload_n 1, 1) := by decide +kernel
theorem dX11_has_2 : decode cX11_has 2 = .ok (.ishr, 1) := by decide +kernel
theorem dX11_has_3 : decode cX11_has 3 = .ok (.iconst 1, 1) := by decide +kernel
theorem dX11_has_4 : decode cX11_has 4 = .ok (.iand, 1) := by decide +kernel
theorem dX11_has_5 : decode cX11_has 5 = .ok (.iconst 1, 1) := by decide +kernel
theorem dX11_has_6 : decode cX11_has 6 = .ok (.if_icmp .ne 7, 3) := by decide +kernel
theorem dX11_has_9 : decode cX11_has 9 = .ok (.iconst 1, 1) := by decide +kernel
theorem dX11_has_10 : decode cX11_has 10 = .ok (.goto 4, 3) := by decide +kernel
theorem dX11_has_13 : decode cX11_has 13 = .ok (.iconst 0, 1) := by decide +kernel
theorem dX11_has_14 : decode cX11_has 14 = .ok (.ireturn, 1) := by decide +kernel
theorem dX11_bits_0 : decode cX11_bits 0 = .ok (.iconst 0, 1) := by decide +kernel
theorem dX11_bits_1 : decode cX11_bits 1 = .ok (.istore_n 1, 1) := by decide +kernel
theorem dX11_bits_2 : decode cX11_bits 2 = .ok (.iload_n 0, 1) := by decide +kernel
theorem dX11_bits_3 : decode cX11_bits 3 = .ok (.istore_n 2, 1) := by decide +kernel
theorem dX11_bits_4 : decode cX11_bits 4 = .ok (.iload_n 2, 1) := by decide +kernel
theorem dX11_bits_5 : decode cX11_bits 5 = .ok (.ifCond .eq 15, 3) := by decide +kernel
theorem dX11_bits_8 : decode cX11_bits 8 = .ok (.iinc 1 1, 3) := by decide +kernel
theorem dX11_bits_11 : decode cX11_bits 11 = .ok (.iload_n 2, 1) := by decide +kernel
theorem dX11_bits_12 : decode cX11_bits 12 = .ok (.iload_n 2, 1) := by decide +kernel
theorem dX11_bits_13 : decode cX11_bits 13 = .ok (.iconst 1, 1) := by decide +kernel
theorem dX11_bits_14 : decode cX11_bits 14 = .ok (.isub, 1) := by decide +kernel
theorem dX11_bits_15 : decode cX11_bits 15 = .ok (.iand, 1) := by decide +kernel
theorem dX11_bits_16 : decode cX11_bits 16 = .ok (.istore_n 2, 1) := by decide +kernel
theorem dX11_bits_17 : decode cX11_bits 17 = .ok (.goto (-13), 3) := by decide +kernel
theorem dX11_bits_20 : decode cX11_bits 20 = .ok (.iload_n 1, 1) := by decide +kernel
theorem dX11_bits_21 : decode cX11_bits 21 = .ok (.ireturn, 1) := by decide +kernel
theorem dX11_least_0 : decode cX11_least 0 = .ok (.iconst 0, 1) := by decide +kernel
theorem dX11_least_1 : decode cX11_least 1 = .ok (.istore_n 1, 1) := by decide +kernel
theorem dX11_least_2 : decode cX11_least 2 = .ok (.iload_n 0, 1) := by decide +kernel
theorem dX11_least_3 : decode cX11_least 3 = .ok (.iload_n 1, 1) := by decide +kernel
theorem dX11_least_4 : decode cX11_least 4 = .ok (.invokestatic 7, 3) := by decide +kernel
theorem dX11_least_7 : decode cX11_least 7 = .ok (.ifCond .ne 9, 3) := by decide +kernel
theorem dX11_least_10 : decode cX11_least 10 = .ok (.iinc 1 1, 3) := by decide +kernel
theorem dX11_least_13 : decode cX11_least 13 = .ok (.goto (-11), 3) := by decide +kernel
theorem dX11_least_16 : decode cX11_least 16 = .ok (.iload_n 1, 1) := by decide +kernel
theorem dX11_least_17 : decode cX11_least 17 = .ok (.ireturn, 1) := by decide +kernel
theorem dX11_lay_0 : decode cX11_lay 0 = .ok (.bipush 24, 2) := by decide +kernel
theorem dX11_lay_2 : decode cX11_lay 2 = .ok (.istore_n 2, 1) := by decide +kernel
theorem dX11_lay_3 : decode cX11_lay 3 = .ok (.iload_n 2, 1) := by decide +kernel
theorem dX11_lay_4 : decode cX11_lay 4 = .ok (.ifCond .lt 35, 3) := by decide +kernel
theorem dX11_lay_7 : decode cX11_lay 7 = .ok (.aload_n 0, 1) := by decide +kernel
theorem dX11_lay_8 : decode cX11_lay 8 = .ok (.getfield 11, 3) := by decide +kernel
theorem dX11_lay_11 : decode cX11_lay 11 = .ok (.aload_n 0, 1) := by decide +kernel
theorem dX11_lay_12 : decode cX11_lay 12 = .ok (.getfield 15, 3) := by decide +kernel
theorem dX11_lay_15 : decode cX11_lay 15 = .ok (.iload_n 1, 1) := by decide +kernel
theorem dX11_lay_16 : decode cX11_lay 16 = .ok (.iload_n 2, 1) := by decide +kernel
theorem dX11_lay_17 : decode cX11_lay 17 = .ok (.iushr, 1) := by decide +kernel
theorem dX11_lay_18 : decode cX11_lay 18 = .ok (.sipush 255, 3) := by decide +kernel
theorem dX11_lay_21 : decode cX11_lay 21 = .ok (.iand, 1) := by decide +kernel
theorem dX11_lay_22 : decode cX11_lay 22 = .ok (.iastore, 1) := by decide +kernel
theorem dX11_lay_23 : decode cX11_lay 23 = .ok (.aload_n 0, 1) := by decide +kernel
theorem dX11_lay_24 : decode cX11_lay 24 = .ok (.dup, 1) := by decide +kernel
theorem dX11_lay_25 : decode cX11_lay 25 = .ok (.getfield 15, 3) := by decide +kernel
theorem dX11_lay_28 : decode cX11_lay 28 = .ok (.iconst 1, 1) := by decide +kernel
theorem dX11_lay_29 : decode cX11_lay 29 = .ok (.iadd, 1) := by decide +kernel
theorem dX11_lay_30 : decode cX11_lay 30 = .ok (.putfield 15, 3) := by decide +kernel
theorem dX11_lay_33 : decode cX11_lay 33 = .ok (.iinc 2 (-8), 3) := by decide +kernel
theorem dX11_lay_36 : decode cX11_lay 36 = .ok (.goto (-33), 3) := by decide +kernel
theorem dX11_lay_39 : decode cX11_lay 39 = .ok (.return_, 1) := by decide +kernel
theorem dX11_feed_0 : decode cX11_feed 0 = .ok (.aload_n 0, 1) := by decide +kernel
theorem dX11_feed_1 : decode cX11_feed 1 = .ok (.iconst 0, 1) := by decide +kernel
theorem dX11_feed_2 : decode cX11_feed 2 = .ok (.putfield 1, 3) := by decide +kernel
theorem dX11_feed_5 : decode cX11_feed 5 = .ok (.aload_n 0, 1) := by decide +kernel
theorem dX11_feed_6 : decode cX11_feed 6 = .ok (.getfield 15, 3) := by decide +kernel
theorem dX11_feed_9 : decode cX11_feed 9 = .ok (.bipush 20, 2) := by decide +kernel
theorem dX11_feed_11 : decode cX11_feed 11 = .ok (.iadd, 1) := by decide +kernel
theorem dX11_feed_12 : decode cX11_feed 12 = .ok (.sipush 340, 3) := by decide +kernel
theorem dX11_feed_15 : decode cX11_feed 15 = .ok (.if_icmp .le 5, 3) := by decide +kernel
theorem dX11_feed_18 : decode cX11_feed 18 = .ok (.iconst (-1), 1) := by decide +kernel
theorem dX11_feed_19 : decode cX11_feed 19 = .ok (.ireturn, 1) := by decide +kernel
theorem dX11_feed_20 : decode cX11_feed 20 = .ok (.aload_n 0, 1) := by decide +kernel
theorem dX11_feed_21 : decode cX11_feed 21 = .ok (.iload_n 1, 1) := by decide +kernel
theorem dX11_feed_22 : decode cX11_feed 22 = .ok (.invokevirtual 18, 3) := by decide +kernel
theorem dX11_feed_25 : decode cX11_feed 25 = .ok (.aload_n 0, 1) := by decide +kernel
theorem dX11_feed_26 : decode cX11_feed 26 = .ok (.iload_n 2, 1) := by decide +kernel
theorem dX11_feed_27 : decode cX11_feed 27 = .ok (.invokevirtual 18, 3) := by decide +kernel
theorem dX11_feed_30 : decode cX11_feed 30 = .ok (.aload_n 0, 1) := by decide +kernel
theorem dX11_feed_31 : decode cX11_feed 31 = .ok (.iload_n 3, 1) := by decide +kernel
theorem dX11_feed_32 : decode cX11_feed 32 = .ok (.invokevirtual 18, 3) := by decide +kernel
theorem dX11_feed_35 : decode cX11_feed 35 = .ok (.aload_n 0, 1) := by decide +kernel
theorem dX11_feed_36 : decode cX11_feed 36 = .ok (.iload 4, 2) := by decide +kernel
theorem dX11_feed_38 : decode cX11_feed 38 = .ok (.invokevirtual 18, 3) := by decide +kernel
theorem dX11_feed_41 : decode cX11_feed 41 = .ok (.aload_n 0, 1) := by decide +kernel
theorem dX11_feed_42 : decode cX11_feed 42 = .ok (.iload 5, 2) := by decide +kernel
theorem dX11_feed_44 : decode cX11_feed 44 = .ok (.invokevirtual 18, 3) := by decide +kernel
theorem dX11_feed_47 : decode cX11_feed 47 = .ok (.aload_n 0, 1) := by decide +kernel
theorem dX11_feed_48 : decode cX11_feed 48 = .ok (.getfield 15, 3) := by decide +kernel
theorem dX11_feed_51 : decode cX11_feed 51 = .ok (.ireturn, 1) := by decide +kernel
theorem dX11_end_0 : decode cX11_end 0 = .ok (.aload_n 0, 1) := by decide +kernel
theorem dX11_end_1 : decode cX11_end 1 = .ok (.iconst 0, 1) := by decide +kernel
theorem dX11_end_2 : decode cX11_end 2 = .ok (.putfield 1, 3) := by decide +kernel
theorem dX11_end_5 : decode cX11_end 5 = .ok (.iload_n 1, 1) := by decide +kernel
theorem dX11_end_6 : decode cX11_end 6 = .ok (.ifCond .lt 11, 3) := by decide +kernel
theorem dX11_end_9 : decode cX11_end 9 = .ok (.iload_n 1, 1) := by decide +kernel
theorem dX11_end_10 : decode cX11_end 10 = .ok (.aload_n 0, 1) := by decide +kernel
theorem dX11_end_11 : decode cX11_end 11 = .ok (.getfield 15, 3) := by decide +kernel
theorem dX11_end_14 : decode cX11_end 14 = .ok (.if_icmp .le 5, 3) := by decide +kernel
theorem dX11_end_17 : decode cX11_end 17 = .ok (.iconst 0, 1) := by decide +kernel
theorem dX11_end_18 : decode cX11_end 18 = .ok (.ireturn, 1) := by decide +kernel
theorem dX11_end_19 : decode cX11_end 19 = .ok (.aload_n 0, 1) := by decide +kernel
theorem dX11_end_20 : decode cX11_end 20 = .ok (.iload_n 1, 1) := by decide +kernel
theorem dX11_end_21 : decode cX11_end 21 = .ok (.putfield 15, 3) := by decide +kernel
theorem dX11_end_24 : decode cX11_end 24 = .ok (.iconst 1, 1) := by decide +kernel
theorem dX11_end_25 : decode cX11_end 25 = .ok (.ireturn, 1) := by decide +kernel
theorem dX11_tapeAt_0 : decode cX11_tapeAt 0 = .ok (.iload_n 1, 1) := by decide +kernel
theorem dX11_tapeAt_1 : decode cX11_tapeAt 1 = .ok (.aload_n 0, 1) := by decide +kernel
theorem dX11_tapeAt_2 : decode cX11_tapeAt 2 = .ok (.getfield 22, 3) := by decide +kernel
theorem dX11_tapeAt_5 : decode cX11_tapeAt 5 = .ok (.if_icmp .ge 12, 3) := by decide +kernel
theorem dX11_tapeAt_8 : decode cX11_tapeAt 8 = .ok (.aload_n 0, 1) := by decide +kernel
theorem dX11_tapeAt_9 : decode cX11_tapeAt 9 = .ok (.getfield 11, 3) := by decide +kernel
theorem dX11_tapeAt_12 : decode cX11_tapeAt 12 = .ok (.iload_n 1, 1) := by decide +kernel
theorem dX11_tapeAt_13 : decode cX11_tapeAt 13 = .ok (.iaload, 1) := by decide +kernel
theorem dX11_tapeAt_14 : decode cX11_tapeAt 14 = .ok (.goto 4, 3) := by decide +kernel
theorem dX11_tapeAt_17 : decode cX11_tapeAt 17 = .ok (.iconst 0, 1) := by decide +kernel
theorem dX11_tapeAt_18 : decode cX11_tapeAt 18 = .ok (.ireturn, 1) := by decide +kernel
theorem dX11_isDigit_0 : decode cX11_isDigit 0 = .ok (.iload_n 0, 1) := by decide +kernel
theorem dX11_isDigit_1 : decode cX11_isDigit 1 = .ok (.bipush 48, 2) := by decide +kernel
theorem dX11_isDigit_3 : decode cX11_isDigit 3 = .ok (.if_icmp .lt 13, 3) := by decide +kernel
theorem dX11_isDigit_6 : decode cX11_isDigit 6 = .ok (.iload_n 0, 1) := by decide +kernel
theorem dX11_isDigit_7 : decode cX11_isDigit 7 = .ok (.bipush 57, 2) := by decide +kernel
theorem dX11_isDigit_9 : decode cX11_isDigit 9 = .ok (.if_icmp .gt 7, 3) := by decide +kernel
theorem dX11_isDigit_12 : decode cX11_isDigit 12 = .ok (.iconst 1, 1) := by decide +kernel
theorem dX11_isDigit_13 : decode cX11_isDigit 13 = .ok (.goto 4, 3) := by decide +kernel
theorem dX11_isDigit_16 : decode cX11_isDigit 16 = .ok (.iconst 0, 1) := by decide +kernel
theorem dX11_isDigit_17 : decode cX11_isDigit 17 = .ok (.ireturn, 1) := by decide +kernel
theorem dX11_isLetter_0 : decode cX11_isLetter 0 = .ok (.iload_n 0, 1) := by decide +kernel
theorem dX11_isLetter_1 : decode cX11_isLetter 1 = .ok (.bipush 97, 2) := by decide +kernel
theorem dX11_isLetter_3 : decode cX11_isLetter 3 = .ok (.if_icmp .lt 13, 3) := by decide +kernel
theorem dX11_isLetter_6 : decode cX11_isLetter 6 = .ok (.iload_n 0, 1) := by decide +kernel
theorem dX11_isLetter_7 : decode cX11_isLetter 7 = .ok (.bipush 122, 2) := by decide +kernel
theorem dX11_isLetter_9 : decode cX11_isLetter 9 = .ok (.if_icmp .gt 7, 3) := by decide +kernel
theorem dX11_isLetter_12 : decode cX11_isLetter 12 = .ok (.iconst 1, 1) := by decide +kernel
theorem dX11_isLetter_13 : decode cX11_isLetter 13 = .ok (.goto 4, 3) := by decide +kernel
theorem dX11_isLetter_16 : decode cX11_isLetter 16 = .ok (.iconst 0, 1) := by decide +kernel
theorem dX11_isLetter_17 : decode cX11_isLetter 17 = .ok (.ireturn, 1) := by decide +kernel
theorem dX11_next_0 : decode cX11_next 0 = .ok (.aload_n 0, 1) := by decide +kernel
theorem dX11_next_1 : decode cX11_next 1 = .ok (.getfield 25, 3) := by decide +kernel
theorem dX11_next_4 : decode cX11_next 4 = .ok (.aload_n 0, 1) := by decide +kernel
theorem dX11_next_5 : decode cX11_next 5 = .ok (.getfield 22, 3) := by decide +kernel
theorem dX11_next_8 : decode cX11_next 8 = .ok (.if_icmp .ge 44, 3) := by decide +kernel
theorem dX11_next_11 : decode cX11_next 11 = .ok (.aload_n 0, 1) := by decide +kernel
theorem dX11_next_12 : decode cX11_next 12 = .ok (.getfield 11, 3) := by decide +kernel
theorem dX11_next_15 : decode cX11_next 15 = .ok (.aload_n 0, 1) := by decide +kernel
theorem dX11_next_16 : decode cX11_next 16 = .ok (.getfield 25, 3) := by decide +kernel
theorem dX11_next_19 : decode cX11_next 19 = .ok (.iaload, 1) := by decide +kernel
theorem dX11_next_20 : decode cX11_next 20 = .ok (.bipush 32, 2) := by decide +kernel
theorem dX11_next_22 : decode cX11_next 22 = .ok (.if_icmp .eq 17, 3) := by decide +kernel
theorem dX11_next_25 : decode cX11_next 25 = .ok (.aload_n 0, 1) := by decide +kernel
theorem dX11_next_26 : decode cX11_next 26 = .ok (.getfield 11, 3) := by decide +kernel
theorem dX11_next_29 : decode cX11_next 29 = .ok (.aload_n 0, 1) := by decide +kernel
theorem dX11_next_30 : decode cX11_next 30 = .ok (.getfield 25, 3) := by decide +kernel
theorem dX11_next_33 : decode cX11_next 33 = .ok (.iaload, 1) := by decide +kernel
theorem dX11_next_34 : decode cX11_next 34 = .ok (.bipush 10, 2) := by decide +kernel
theorem dX11_next_36 : decode cX11_next 36 = .ok (.if_icmp .ne 16, 3) := by decide +kernel
theorem dX11_next_39 : decode cX11_next 39 = .ok (.aload_n 0, 1) := by decide +kernel
theorem dX11_next_40 : decode cX11_next 40 = .ok (.dup, 1) := by decide +kernel
theorem dX11_next_41 : decode cX11_next 41 = .ok (.getfield 25, 3) := by decide +kernel
theorem dX11_next_44 : decode cX11_next 44 = .ok (.iconst 1, 1) := by decide +kernel
theorem dX11_next_45 : decode cX11_next 45 = .ok (.iadd, 1) := by decide +kernel
theorem dX11_next_46 : decode cX11_next 46 = .ok (.putfield 25, 3) := by decide +kernel
theorem dX11_next_49 : decode cX11_next 49 = .ok (.goto (-49), 3) := by decide +kernel
theorem dX11_next_52 : decode cX11_next 52 = .ok (.aload_n 0, 1) := by decide +kernel
theorem dX11_next_53 : decode cX11_next 53 = .ok (.aload_n 0, 1) := by decide +kernel
theorem dX11_next_54 : decode cX11_next 54 = .ok (.getfield 25, 3) := by decide +kernel
theorem dX11_next_57 : decode cX11_next 57 = .ok (.putfield 28, 3) := by decide +kernel
theorem dX11_next_60 : decode cX11_next 60 = .ok (.aload_n 0, 1) := by decide +kernel
theorem dX11_next_61 : decode cX11_next 61 = .ok (.getfield 22, 3) := by decide +kernel
theorem dX11_next_64 : decode cX11_next 64 = .ok (.sipush 300, 3) := by decide +kernel
theorem dX11_next_67 : decode cX11_next 67 = .ok (.if_icmp .le 26, 3) := by decide +kernel
theorem dX11_next_70 : decode cX11_next 70 = .ok (.aload_n 0, 1) := by decide +kernel
theorem dX11_next_71 : decode cX11_next 71 = .ok (.getfield 28, 3) := by decide +kernel
theorem dX11_next_74 : decode cX11_next 74 = .ok (.sipush 300, 3) := by decide +kernel
theorem dX11_next_77 : decode cX11_next 77 = .ok (.if_icmp .lt 16, 3) := by decide +kernel
theorem dX11_next_80 : decode cX11_next 80 = .ok (.aload_n 0, 1) := by decide +kernel
theorem dX11_next_81 : decode cX11_next 81 = .ok (.sipush 300, 3) := by decide +kernel
theorem dX11_next_84 : decode cX11_next 84 = .ok (.putfield 28, 3) := by decide +kernel
theorem dX11_next_87 : decode cX11_next 87 = .ok (.aload_n 0, 1) := by decide +kernel
theorem dX11_next_88 : decode cX11_next 88 = .ok (.iconst 1, 1) := by decide +kernel
theorem dX11_next_89 : decode cX11_next 89 = .ok (.putfield 31, 3) := by decide +kernel
theorem dX11_next_92 : decode cX11_next 92 = .ok (.return_, 1) := by decide +kernel
theorem dX11_next_93 : decode cX11_next 93 = .ok (.aload_n 0, 1) := by decide +kernel
theorem dX11_next_94 : decode cX11_next 94 = .ok (.getfield 25, 3) := by decide +kernel
theorem dX11_next_97 : decode cX11_next 97 = .ok (.aload_n 0, 1) := by decide +kernel
theorem dX11_next_98 : decode cX11_next 98 = .ok (.getfield 22, 3) := by decide +kernel
theorem dX11_next_101 : decode cX11_next 101 = .ok (.if_icmp .lt 9, 3) := by decide +kernel
theorem dX11_next_104 : decode cX11_next 104 = .ok (.aload_n 0, 1) := by decide +kernel
theorem dX11_next_105 : decode cX11_next 105 = .ok (.iconst 0, 1) := by decide +kernel
theorem dX11_next_106 : decode cX11_next 106 = .ok (.putfield 31, 3) := by decide +kernel
theorem dX11_next_109 : decode cX11_next 109 = .ok (.return_, 1) := by decide +kernel
theorem dX11_next_110 : decode cX11_next 110 = .ok (.aload_n 0, 1) := by decide +kernel
theorem dX11_next_111 : decode cX11_next 111 = .ok (.getfield 11, 3) := by decide +kernel
theorem dX11_next_114 : decode cX11_next 114 = .ok (.aload_n 0, 1) := by decide +kernel
theorem dX11_next_115 : decode cX11_next 115 = .ok (.getfield 25, 3) := by decide +kernel
theorem dX11_next_118 : decode cX11_next 118 = .ok (.iaload, 1) := by decide +kernel
theorem dX11_next_119 : decode cX11_next 119 = .ok (.istore_n 1, 1) := by decide +kernel
theorem dX11_next_120 : decode cX11_next 120 = .ok (.iload_n 1, 1) := by decide +kernel
theorem dX11_next_121 : decode cX11_next 121 = .ok (.invokestatic 34, 3) := by decide +kernel
theorem dX11_next_124 : decode cX11_next 124 = .ok (.ifCond .ne 36, 3) := by decide +kernel
theorem dX11_next_127 : decode cX11_next 127 = .ok (.iload_n 1, 1) := by decide +kernel
theorem dX11_next_128 : decode cX11_next 128 = .ok (.invokestatic 38, 3) := by decide +kernel
theorem dX11_next_131 : decode cX11_next 131 = .ok (.ifCond .ne 29, 3) := by decide +kernel
theorem dX11_next_134 : decode cX11_next 134 = .ok (.aload_n 0, 1) := by decide +kernel
theorem dX11_next_135 : decode cX11_next 135 = .ok (.iload_n 1, 1) := by decide +kernel
theorem dX11_next_136 : decode cX11_next 136 = .ok (.bipush 59, 2) := by decide +kernel
theorem dX11_next_138 : decode cX11_next 138 = .ok (.if_icmp .ne 7, 3) := by decide +kernel
theorem dX11_next_141 : decode cX11_next 141 = .ok (.iconst 4, 1) := by decide +kernel
theorem dX11_next_142 : decode cX11_next 142 = .ok (.goto 4, 3) := by decide +kernel
theorem dX11_next_145 : decode cX11_next 145 = .ok (.iconst 1, 1) := by decide +kernel
theorem dX11_next_146 : decode cX11_next 146 = .ok (.putfield 31, 3) := by decide +kernel
theorem dX11_next_149 : decode cX11_next 149 = .ok (.aload_n 0, 1) := by decide +kernel
theorem dX11_next_150 : decode cX11_next 150 = .ok (.dup, 1) := by decide +kernel
theorem dX11_next_151 : decode cX11_next 151 = .ok (.getfield 25, 3) := by decide +kernel
theorem dX11_next_154 : decode cX11_next 154 = .ok (.iconst 1, 1) := by decide +kernel
theorem dX11_next_155 : decode cX11_next 155 = .ok (.iadd, 1) := by decide +kernel
theorem dX11_next_156 : decode cX11_next 156 = .ok (.putfield 25, 3) := by decide +kernel
theorem dX11_next_159 : decode cX11_next 159 = .ok (.return_, 1) := by decide +kernel
theorem dX11_next_160 : decode cX11_next 160 = .ok (.iload_n 1, 1) := by decide +kernel
theorem dX11_next_161 : decode cX11_next 161 = .ok (.invokestatic 34, 3) := by decide +kernel
theorem dX11_next_164 : decode cX11_next 164 = .ok (.istore_n 2, 1) := by decide +kernel
theorem dX11_next_165 : decode cX11_next 165 = .ok (.iconst 1, 1) := by decide +kernel
theorem dX11_next_166 : decode cX11_next 166 = .ok (.istore_n 3, 1) := by decide +kernel
theorem dX11_next_167 : decode cX11_next 167 = .ok (.aload_n 0, 1) := by decide +kernel
theorem dX11_next_168 : decode cX11_next 168 = .ok (.lconst 0, 1) := by decide +kernel
theorem dX11_next_169 : decode cX11_next 169 = .ok (.putfield 41, 3) := by decide +kernel
theorem dX11_next_172 : decode cX11_next 172 = .ok (.aload_n 0, 1) := by decide +kernel
theorem dX11_next_173 : decode cX11_next 173 = .ok (.iconst 0, 1) := by decide +kernel
theorem dX11_next_174 : decode cX11_next 174 = .ok (.putfield 45, 3) := by decide +kernel
theorem dX11_next_177 : decode cX11_next 177 = .ok (.aload_n 0, 1) := by decide +kernel
theorem dX11_next_178 : decode cX11_next 178 = .ok (.aload_n 0, 1) := by decide +kernel
theorem dX11_next_179 : decode cX11_next 179 = .ok (.getfield 25, 3) := by decide +kernel
theorem dX11_next_182 : decode cX11_next 182 = .ok (.invokevirtual 48, 3) := by decide +kernel
theorem dX11_next_185 : decode cX11_next 185 = .ok (.invokestatic 34, 3) := by decide +kernel
theorem dX11_next_188 : decode cX11_next 188 = .ok (.ifCond .ne 17, 3) := by decide +kernel
theorem dX11_next_191 : decode cX11_next 191 = .ok (.aload_n 0, 1) := by decide +kernel
theorem dX11_next_192 : decode cX11_next 192 = .ok (.aload_n 0, 1) := by decide +kernel
theorem dX11_next_193 : decode cX11_next 193 = .ok (.getfield 25, 3) := by decide +kernel
theorem dX11_next_196 : decode cX11_next 196 = .ok (.invokevirtual 48, 3) := by decide +kernel
theorem dX11_next_199 : decode cX11_next 199 = .ok (.invokestatic 38, 3) := by decide +kernel
theorem dX11_next_202 : decode cX11_next 202 = .ok (.ifCond .eq 110, 3) := by decide +kernel
theorem dX11_next_205 : decode cX11_next 205 = .ok (.aload_n 0, 1) := by decide +kernel
theorem dX11_next_206 : decode cX11_next 206 = .ok (.getfield 11, 3) := by decide +kernel
theorem dX11_next_209 : decode cX11_next 209 = .ok (.aload_n 0, 1) := by decide +kernel
theorem dX11_next_210 : decode cX11_next 210 = .ok (.getfield 25, 3) := by decide +kernel
theorem dX11_next_213 : decode cX11_next 213 = .ok (.iaload, 1) := by decide +kernel
theorem dX11_next_214 : decode cX11_next 214 = .ok (.istore 4, 2) := by decide +kernel
theorem dX11_next_216 : decode cX11_next 216 = .ok (.iload_n 3, 1) := by decide +kernel
theorem dX11_next_217 : decode cX11_next 217 = .ok (.ifCond .eq 16, 3) := by decide +kernel
theorem dX11_next_220 : decode cX11_next 220 = .ok (.iload 4, 2) := by decide +kernel
theorem dX11_next_222 : decode cX11_next 222 = .ok (.invokestatic 34, 3) := by decide +kernel
theorem dX11_next_225 : decode cX11_next 225 = .ok (.iload_n 2, 1) := by decide +kernel
theorem dX11_next_226 : decode cX11_next 226 = .ok (.if_icmp .ne 7, 3) := by decide +kernel
theorem dX11_next_229 : decode cX11_next 229 = .ok (.iconst 1, 1) := by decide +kernel
theorem dX11_next_230 : decode cX11_next 230 = .ok (.goto 4, 3) := by decide +kernel
theorem dX11_next_233 : decode cX11_next 233 = .ok (.iconst 0, 1) := by decide +kernel
theorem dX11_next_234 : decode cX11_next 234 = .ok (.istore_n 3, 1) := by decide +kernel
theorem dX11_next_235 : decode cX11_next 235 = .ok (.aload_n 0, 1) := by decide +kernel
theorem dX11_next_236 : decode cX11_next 236 = .ok (.getfield 25, 3) := by decide +kernel
theorem dX11_next_239 : decode cX11_next 239 = .ok (.aload_n 0, 1) := by decide +kernel
theorem dX11_next_240 : decode cX11_next 240 = .ok (.getfield 28, 3) := by decide +kernel
theorem dX11_next_243 : decode cX11_next 243 = .ok (.isub, 1) := by decide +kernel
theorem dX11_next_244 : decode cX11_next 244 = .ok (.bipush 6, 2) := by decide +kernel
theorem dX11_next_246 : decode cX11_next 246 = .ok (.if_icmp .ge 23, 3) := by decide +kernel
theorem dX11_next_249 : decode cX11_next 249 = .ok (.aload_n 0, 1) := by decide +kernel
theorem dX11_next_250 : decode cX11_next 250 = .ok (.ldc2_w 52, 3) := by decide +kernel
theorem dX11_next_253 : decode cX11_next 253 = .ok (.aload_n 0, 1) := by decide +kernel
theorem dX11_next_254 : decode cX11_next 254 = .ok (.getfield 41, 3) := by decide +kernel
theorem dX11_next_257 : decode cX11_next 257 = .ok (.lmul, 1) := by decide +kernel
theorem dX11_next_258 : decode cX11_next 258 = .ok (.iload 4, 2) := by decide +kernel
theorem dX11_next_260 : decode cX11_next 260 = .ok (.i2l, 1) := by decide +kernel
theorem dX11_next_261 : decode cX11_next 261 = .ok (.ladd, 1) := by decide +kernel
theorem dX11_next_262 : decode cX11_next 262 = .ok (.ldc2_w 54, 3) := by decide +kernel
theorem dX11_next_265 : decode cX11_next 265 = .ok (.lsub, 1) := by decide +kernel
theorem dX11_next_266 : decode cX11_next 266 = .ok (.putfield 41, 3) := by decide +kernel
theorem dX11_next_269 : decode cX11_next 269 = .ok (.aload_n 0, 1) := by decide +kernel
theorem dX11_next_270 : decode cX11_next 270 = .ok (.getfield 25, 3) := by decide +kernel
theorem dX11_next_273 : decode cX11_next 273 = .ok (.aload_n 0, 1) := by decide +kernel
theorem dX11_next_274 : decode cX11_next 274 = .ok (.getfield 28, 3) := by decide +kernel
theorem dX11_next_277 : decode cX11_next 277 = .ok (.isub, 1) := by decide +kernel
theorem dX11_next_278 : decode cX11_next 278 = .ok (.iconst 2, 1) := by decide +kernel
theorem dX11_next_279 : decode cX11_next 279 = .ok (.if_icmp .ge 20, 3) := by decide +kernel
theorem dX11_next_282 : decode cX11_next 282 = .ok (.aload_n 0, 1) := by decide +kernel
theorem dX11_next_283 : decode cX11_next 283 = .ok (.bipush 10, 2) := by decide +kernel
theorem dX11_next_285 : decode cX11_next 285 = .ok (.aload_n 0, 1) := by decide +kernel
theorem dX11_next_286 : decode cX11_next 286 = .ok (.getfield 45, 3) := by decide +kernel
theorem dX11_next_289 : decode cX11_next 289 = .ok (.imul, 1) := by decide +kernel
theorem dX11_next_290 : decode cX11_next 290 = .ok (.iload 4, 2) := by decide +kernel
theorem dX11_next_292 : decode cX11_next 292 = .ok (.iadd, 1) := by decide +kernel
theorem dX11_next_293 : decode cX11_next 293 = .ok (.bipush 48, 2) := by decide +kernel
theorem dX11_next_295 : decode cX11_next 295 = .ok (.isub, 1) := by decide +kernel
theorem dX11_next_296 : decode cX11_next 296 = .ok (.putfield 45, 3) := by decide +kernel
theorem dX11_next_299 : decode cX11_next 299 = .ok (.aload_n 0, 1) := by decide +kernel
theorem dX11_next_300 : decode cX11_next 300 = .ok (.dup, 1) := by decide +kernel
theorem dX11_next_301 : decode cX11_next 301 = .ok (.getfield 25, 3) := by decide +kernel
theorem dX11_next_304 : decode cX11_next 304 = .ok (.iconst 1, 1) := by decide +kernel
theorem dX11_next_305 : decode cX11_next 305 = .ok (.iadd, 1) := by decide +kernel
theorem dX11_next_306 : decode cX11_next 306 = .ok (.putfield 25, 3) := by decide +kernel
theorem dX11_next_309 : decode cX11_next 309 = .ok (.goto (-132), 3) := by decide +kernel
theorem dX11_next_312 : decode cX11_next 312 = .ok (.aload_n 0, 1) := by decide +kernel
theorem dX11_next_313 : decode cX11_next 313 = .ok (.iload_n 3, 1) := by decide +kernel
theorem dX11_next_314 : decode cX11_next 314 = .ok (.ifCond .eq 20, 3) := by decide +kernel
theorem dX11_next_317 : decode cX11_next 317 = .ok (.iload_n 2, 1) := by decide +kernel
theorem dX11_next_318 : decode cX11_next 318 = .ok (.ifCond .ne 20, 3) := by decide +kernel
theorem dX11_next_321 : decode cX11_next 321 = .ok (.aload_n 0, 1) := by decide +kernel
theorem dX11_next_322 : decode cX11_next 322 = .ok (.getfield 25, 3) := by decide +kernel
theorem dX11_next_325 : decode cX11_next 325 = .ok (.aload_n 0, 1) := by decide +kernel
theorem dX11_next_326 : decode cX11_next 326 = .ok (.getfield 28, 3) := by decide +kernel
theorem dX11_next_329 : decode cX11_next 329 = .ok (.isub, 1) := by decide +kernel
theorem dX11_next_330 : decode cX11_next 330 = .ok (.iconst 2, 1) := by decide +kernel
theorem dX11_next_331 : decode cX11_next 331 = .ok (.if_icmp .le 7, 3) := by decide +kernel
theorem dX11_next_334 : decode cX11_next 334 = .ok (.iconst 1, 1) := by decide +kernel
theorem dX11_next_335 : decode cX11_next 335 = .ok (.goto 12, 3) := by decide +kernel
theorem dX11_next_338 : decode cX11_next 338 = .ok (.iload_n 2, 1) := by decide +kernel
theorem dX11_next_339 : decode cX11_next 339 = .ok (.ifCond .eq 7, 3) := by decide +kernel
theorem dX11_next_342 : decode cX11_next 342 = .ok (.iconst 2, 1) := by decide +kernel
theorem dX11_next_343 : decode cX11_next 343 = .ok (.goto 4, 3) := by decide +kernel
theorem dX11_next_346 : decode cX11_next 346 = .ok (.iconst 3, 1) := by decide +kernel
theorem dX11_next_347 : decode cX11_next 347 = .ok (.putfield 31, 3) := by decide +kernel
theorem dX11_next_350 : decode cX11_next 350 = .ok (.return_, 1) := by decide +kernel
theorem dX11_spelt_0 : decode cX11_spelt 0 = .ok (.ldc2_w 52, 3) := by decide +kernel
theorem dX11_spelt_3 : decode cX11_spelt 3 = .ok (.ldc2_w 52, 3) := by decide +kernel
theorem dX11_spelt_6 : decode cX11_spelt 6 = .ok (.iload_n 0, 1) := by decide +kernel
theorem dX11_spelt_7 : decode cX11_spelt 7 = .ok (.i2l, 1) := by decide +kernel
theorem dX11_spelt_8 : decode cX11_spelt 8 = .ok (.ldc2_w 54, 3) := by decide +kernel
theorem dX11_spelt_11 : decode cX11_spelt 11 = .ok (.lsub, 1) := by decide +kernel
theorem dX11_spelt_12 : decode cX11_spelt 12 = .ok (.lmul, 1) := by decide +kernel
theorem dX11_spelt_13 : decode cX11_spelt 13 = .ok (.iload_n 1, 1) := by decide +kernel
theorem dX11_spelt_14 : decode cX11_spelt 14 = .ok (.i2l, 1) := by decide +kernel
theorem dX11_spelt_15 : decode cX11_spelt 15 = .ok (.ladd, 1) := by decide +kernel
theorem dX11_spelt_16 : decode cX11_spelt 16 = .ok (.ldc2_w 54, 3) := by decide +kernel
theorem dX11_spelt_19 : decode cX11_spelt 19 = .ok (.lsub, 1) := by decide +kernel
theorem dX11_spelt_20 : decode cX11_spelt 20 = .ok (.lmul, 1) := by decide +kernel
theorem dX11_spelt_21 : decode cX11_spelt 21 = .ok (.iload_n 2, 1) := by decide +kernel
theorem dX11_spelt_22 : decode cX11_spelt 22 = .ok (.i2l, 1) := by decide +kernel
theorem dX11_spelt_23 : decode cX11_spelt 23 = .ok (.ladd, 1) := by decide +kernel
theorem dX11_spelt_24 : decode cX11_spelt 24 = .ok (.ldc2_w 54, 3) := by decide +kernel
theorem dX11_spelt_27 : decode cX11_spelt 27 = .ok (.lsub, 1) := by decide +kernel
theorem dX11_spelt_28 : decode cX11_spelt 28 = .ok (.lstore 5, 2) := by decide +kernel
theorem dX11_spelt_30 : decode cX11_spelt 30 = .ok (.iload_n 3, 1) := by decide +kernel
theorem dX11_spelt_31 : decode cX11_spelt 31 = .ok (.ifCond .le 18, 3) := by decide +kernel
theorem dX11_spelt_34 : decode cX11_spelt 34 = .ok (.ldc2_w 52, 3) := by decide +kernel
theorem dX11_spelt_37 : decode cX11_spelt 37 = .ok (.lload 5, 2) := by decide +kernel
theorem dX11_spelt_39 : decode cX11_spelt 39 = .ok (.lmul, 1) := by decide +kernel
theorem dX11_spelt_40 : decode cX11_spelt 40 = .ok (.iload_n 3, 1) := by decide +kernel
theorem dX11_spelt_41 : decode cX11_spelt 41 = .ok (.i2l, 1) := by decide +kernel
theorem dX11_spelt_42 : decode cX11_spelt 42 = .ok (.ladd, 1) := by decide +kernel
theorem dX11_spelt_43 : decode cX11_spelt 43 = .ok (.ldc2_w 54, 3) := by decide +kernel
theorem dX11_spelt_46 : decode cX11_spelt 46 = .ok (.lsub, 1) := by decide +kernel
theorem dX11_spelt_47 : decode cX11_spelt 47 = .ok (.lstore 5, 2) := by decide +kernel
theorem dX11_spelt_49 : decode cX11_spelt 49 = .ok (.iload 4, 2) := by decide +kernel
theorem dX11_spelt_51 : decode cX11_spelt 51 = .ok (.ifCond .le 20, 3) := by decide +kernel
theorem dX11_spelt_54 : decode cX11_spelt 54 = .ok (.ldc2_w 52, 3) := by decide +kernel
theorem dX11_spelt_57 : decode cX11_spelt 57 = .ok (.lload 5, 2) := by decide +kernel
theorem dX11_spelt_59 : decode cX11_spelt 59 = .ok (.lmul, 1) := by decide +kernel
theorem dX11_spelt_60 : decode cX11_spelt 60 = .ok (.iload 4, 2) := by decide +kernel
theorem dX11_spelt_62 : decode cX11_spelt 62 = .ok (.i2l, 1) := by decide +kernel
theorem dX11_spelt_63 : decode cX11_spelt 63 = .ok (.ladd, 1) := by decide +kernel
theorem dX11_spelt_64 : decode cX11_spelt 64 = .ok (.ldc2_w 54, 3) := by decide +kernel
theorem dX11_spelt_67 : decode cX11_spelt 67 = .ok (.lsub, 1) := by decide +kernel
theorem dX11_spelt_68 : decode cX11_spelt 68 = .ok (.goto 5, 3) := by decide +kernel
theorem dX11_spelt_71 : decode cX11_spelt 71 = .ok (.lload 5, 2) := by decide +kernel
theorem dX11_spelt_73 : decode cX11_spelt 73 = .ok (.lreturn, 1) := by decide +kernel
theorem dX11_isWord_0 : decode cX11_isWord 0 = .ok (.aload_n 0, 1) := by decide +kernel
theorem dX11_isWord_1 : decode cX11_isWord 1 = .ok (.getfield 31, 3) := by decide +kernel
theorem dX11_isWord_4 : decode cX11_isWord 4 = .ok (.iconst 2, 1) := by decide +kernel
theorem dX11_isWord_5 : decode cX11_isWord 5 = .ok (.if_icmp .ne 16, 3) := by decide +kernel
theorem dX11_isWord_8 : decode cX11_isWord 8 = .ok (.aload_n 0, 1) := by decide +kernel
theorem dX11_isWord_9 : decode cX11_isWord 9 = .ok (.getfield 41, 3) := by decide +kernel
theorem dX11_isWord_12 : decode cX11_isWord 12 = .ok (.lload_n 1, 1) := by decide +kernel
theorem dX11_isWord_13 : decode cX11_isWord 13 = .ok (.lcmp, 1) := by decide +kernel
theorem dX11_isWord_14 : decode cX11_isWord 14 = .ok (.ifCond .ne 7, 3) := by decide +kernel
theorem dX11_isWord_17 : decode cX11_isWord 17 = .ok (.iconst 1, 1) := by decide +kernel
theorem dX11_isWord_18 : decode cX11_isWord 18 = .ok (.goto 4, 3) := by decide +kernel
theorem dX11_isWord_21 : decode cX11_isWord 21 = .ok (.iconst 0, 1) := by decide +kernel
theorem dX11_isWord_22 : decode cX11_isWord 22 = .ok (.ireturn, 1) := by decide +kernel
theorem dX11_isGroup_0 : decode cX11_isGroup 0 = .ok (.aload_n 0, 1) := by decide +kernel
theorem dX11_isGroup_1 : decode cX11_isGroup 1 = .ok (.bipush 103, 2) := by decide +kernel
theorem dX11_isGroup_3 : decode cX11_isGroup 3 = .ok (.bipush 114, 2) := by decide +kernel
theorem dX11_isGroup_5 : decode cX11_isGroup 5 = .ok (.bipush 111, 2) := by decide +kernel
theorem dX11_isGroup_7 : decode cX11_isGroup 7 = .ok (.bipush 117, 2) := by decide +kernel
theorem dX11_isGroup_9 : decode cX11_isGroup 9 = .ok (.bipush 112, 2) := by decide +kernel
theorem dX11_isGroup_11 : decode cX11_isGroup 11 = .ok (.invokestatic 56, 3) := by decide +kernel
theorem dX11_isGroup_14 : decode cX11_isGroup 14 = .ok (.invokevirtual 60, 3) := by decide +kernel
theorem dX11_isGroup_17 : decode cX11_isGroup 17 = .ok (.ireturn, 1) := by decide +kernel
theorem dX11_isPut_0 : decode cX11_isPut 0 = .ok (.aload_n 0, 1) := by decide +kernel
theorem dX11_isPut_1 : decode cX11_isPut 1 = .ok (.bipush 112, 2) := by decide +kernel
theorem dX11_isPut_3 : decode cX11_isPut 3 = .ok (.bipush 117, 2) := by decide +kernel
theorem dX11_isPut_5 : decode cX11_isPut 5 = .ok (.bipush 116, 2) := by decide +kernel
theorem dX11_isPut_7 : decode cX11_isPut 7 = .ok (.iconst 0, 1) := by decide +kernel
theorem dX11_isPut_8 : decode cX11_isPut 8 = .ok (.iconst 0, 1) := by decide +kernel
theorem dX11_isPut_9 : decode cX11_isPut 9 = .ok (.invokestatic 56, 3) := by decide +kernel
theorem dX11_isPut_12 : decode cX11_isPut 12 = .ok (.invokevirtual 60, 3) := by decide +kernel
theorem dX11_isPut_15 : decode cX11_isPut 15 = .ok (.ireturn, 1) := by decide +kernel
theorem dX11_isTimes_0 : decode cX11_isTimes 0 = .ok (.aload_n 0, 1) := by decide +kernel
theorem dX11_isTimes_1 : decode cX11_isTimes 1 = .ok (.bipush 116, 2) := by decide +kernel
theorem dX11_isTimes_3 : decode cX11_isTimes 3 = .ok (.bipush 105, 2) := by decide +kernel
theorem dX11_isTimes_5 : decode cX11_isTimes 5 = .ok (.bipush 109, 2) := by decide +kernel
theorem dX11_isTimes_7 : decode cX11_isTimes 7 = .ok (.bipush 101, 2) := by decide +kernel
theorem dX11_isTimes_9 : decode cX11_isTimes 9 = .ok (.bipush 115, 2) := by decide +kernel
theorem dX11_isTimes_11 : decode cX11_isTimes 11 = .ok (.invokestatic 56, 3) := by decide +kernel
theorem dX11_isTimes_14 : decode cX11_isTimes 14 = .ok (.invokevirtual 60, 3) := by decide +kernel
theorem dX11_isTimes_17 : decode cX11_isTimes 17 = .ok (.ireturn, 1) := by decide +kernel
theorem dX11_badAt_0 : decode cX11_badAt 0 = .ok (.aload_n 0, 1) := by decide +kernel
theorem dX11_badAt_1 : decode cX11_badAt 1 = .ok (.iload_n 1, 1) := by decide +kernel
theorem dX11_badAt_2 : decode cX11_badAt 2 = .ok (.putfield 64, 3) := by decide +kernel
theorem dX11_badAt_5 : decode cX11_badAt 5 = .ok (.aload_n 0, 1) := by decide +kernel
theorem dX11_badAt_6 : decode cX11_badAt 6 = .ok (.iload_n 2, 1) := by decide +kernel
theorem dX11_badAt_7 : decode cX11_badAt 7 = .ok (.putfield 67, 3) := by decide +kernel
theorem dX11_badAt_10 : decode cX11_badAt 10 = .ok (.aload_n 0, 1) := by decide +kernel
theorem dX11_badAt_11 : decode cX11_badAt 11 = .ok (.aload_n 0, 1) := by decide +kernel
theorem dX11_badAt_12 : decode cX11_badAt 12 = .ok (.getfield 70, 3) := by decide +kernel
theorem dX11_badAt_15 : decode cX11_badAt 15 = .ok (.putfield 73, 3) := by decide +kernel
theorem dX11_badAt_18 : decode cX11_badAt 18 = .ok (.iconst 0, 1) := by decide +kernel
theorem dX11_badAt_19 : decode cX11_badAt 19 = .ok (.ireturn, 1) := by decide +kernel
theorem dX11_bad_0 : decode cX11_bad 0 = .ok (.aload_n 0, 1) := by decide +kernel
theorem dX11_bad_1 : decode cX11_bad 1 = .ok (.aload_n 0, 1) := by decide +kernel
theorem dX11_bad_2 : decode cX11_bad 2 = .ok (.getfield 31, 3) := by decide +kernel
theorem dX11_bad_5 : decode cX11_bad 5 = .ok (.iconst 1, 1) := by decide +kernel
theorem dX11_bad_6 : decode cX11_bad 6 = .ok (.if_icmp .ne 7, 3) := by decide +kernel
theorem dX11_bad_9 : decode cX11_bad 9 = .ok (.iconst 1, 1) := by decide +kernel
theorem dX11_bad_10 : decode cX11_bad 10 = .ok (.goto 4, 3) := by decide +kernel
theorem dX11_bad_13 : decode cX11_bad 13 = .ok (.iload_n 1, 1) := by decide +kernel
theorem dX11_bad_14 : decode cX11_bad 14 = .ok (.aload_n 0, 1) := by decide +kernel
theorem dX11_bad_15 : decode cX11_bad 15 = .ok (.getfield 28, 3) := by decide +kernel
theorem dX11_bad_18 : decode cX11_bad 18 = .ok (.invokevirtual 76, 3) := by decide +kernel
theorem dX11_bad_21 : decode cX11_bad 21 = .ok (.ireturn, 1) := by decide +kernel
theorem dX11_init_0 : decode cX11_init 0 = .ok (.aload_n 0, 1) := by decide +kernel
theorem dX11_init_1 : decode cX11_init 1 = .ok (.invokespecial 79, 3) := by decide +kernel
theorem dX11_init_4 : decode cX11_init 4 = .ok (.aload_n 0, 1) := by decide +kernel
theorem dX11_init_5 : decode cX11_init 5 = .ok (.sipush 340, 3) := by decide +kernel
theorem dX11_init_8 : decode cX11_init 8 = .ok (.newarray .int, 2) := by decide +kernel
theorem dX11_init_10 : decode cX11_init 10 = .ok (.putfield 11, 3) := by decide +kernel
theorem dX11_init_13 : decode cX11_init 13 = .ok (.aload_n 0, 1) := by decide +kernel
theorem dX11_init_14 : decode cX11_init 14 = .ok (.iconst (-1), 1) := by decide +kernel
theorem dX11_init_15 : decode cX11_init 15 = .ok (.putfield 73, 3) := by decide +kernel
theorem dX11_init_18 : decode cX11_init 18 = .ok (.aload_n 0, 1) := by decide +kernel
theorem dX11_init_19 : decode cX11_init 19 = .ok (.bipush 17, 2) := by decide +kernel
theorem dX11_init_21 : decode cX11_init 21 = .ok (.newarray .int, 2) := by decide +kernel
theorem dX11_init_23 : decode cX11_init 23 = .ok (.putfield 85, 3) := by decide +kernel
theorem dX11_init_26 : decode cX11_init 26 = .ok (.aload_n 0, 1) := by decide +kernel
theorem dX11_init_27 : decode cX11_init 27 = .ok (.bipush 17, 2) := by decide +kernel
theorem dX11_init_29 : decode cX11_init 29 = .ok (.newarray .int, 2) := by decide +kernel
theorem dX11_init_31 : decode cX11_init 31 = .ok (.putfield 88, 3) := by decide +kernel
theorem dX11_init_34 : decode cX11_init 34 = .ok (.aload_n 0, 1) := by decide +kernel
theorem dX11_init_35 : decode cX11_init 35 = .ok (.bipush 34, 2) := by decide +kernel
theorem dX11_init_37 : decode cX11_init 37 = .ok (.newarray .int, 2) := by decide +kernel
theorem dX11_init_39 : decode cX11_init 39 = .ok (.putfield 91, 3) := by decide +kernel
theorem dX11_init_42 : decode cX11_init 42 = .ok (.aload_n 0, 1) := by decide +kernel
theorem dX11_init_43 : decode cX11_init 43 = .ok (.sipush 136, 3) := by decide +kernel
theorem dX11_init_46 : decode cX11_init 46 = .ok (.newarray .int, 2) := by decide +kernel
theorem dX11_init_48 : decode cX11_init 48 = .ok (.putfield 94, 3) := by decide +kernel
theorem dX11_init_51 : decode cX11_init 51 = .ok (.aload_n 0, 1) := by decide +kernel
theorem dX11_init_52 : decode cX11_init 52 = .ok (.bipush 17, 2) := by decide +kernel
theorem dX11_init_54 : decode cX11_init 54 = .ok (.newarray .int, 2) := by decide +kernel
theorem dX11_init_56 : decode cX11_init 56 = .ok (.putfield 97, 3) := by decide +kernel
theorem dX11_init_59 : decode cX11_init 59 = .ok (.aload_n 0, 1) := by decide +kernel
theorem dX11_init_60 : decode cX11_init 60 = .ok (.bipush 17, 2) := by decide +kernel
theorem dX11_init_62 : decode cX11_init 62 = .ok (.newarray .int, 2) := by decide +kernel
theorem dX11_init_64 : decode cX11_init 64 = .ok (.putfield 100, 3) := by decide +kernel
theorem dX11_init_67 : decode cX11_init 67 = .ok (.aload_n 0, 1) := by decide +kernel
theorem dX11_init_68 : decode cX11_init 68 = .ok (.iconst 2, 1) := by decide +kernel
theorem dX11_init_69 : decode cX11_init 69 = .ok (.newarray .boolean, 2) := by decide +kernel
theorem dX11_init_71 : decode cX11_init 71 = .ok (.putfield 103, 3) := by decide +kernel
theorem dX11_init_74 : decode cX11_init 74 = .ok (.aload_n 0, 1) := by decide +kernel
theorem dX11_init_75 : decode cX11_init 75 = .ok (.sipush 4096, 3) := by decide +kernel
theorem dX11_init_78 : decode cX11_init 78 = .ok (.newarray .int, 2) := by decide +kernel
theorem dX11_init_80 : decode cX11_init 80 = .ok (.putfield 107, 3) := by decide +kernel
theorem dX11_init_83 : decode cX11_init 83 = .ok (.aload_n 0, 1) := by decide +kernel
theorem dX11_init_84 : decode cX11_init 84 = .ok (.sipush 4096, 3) := by decide +kernel
theorem dX11_init_87 : decode cX11_init 87 = .ok (.newarray .boolean, 2) := by decide +kernel
theorem dX11_init_89 : decode cX11_init 89 = .ok (.putfield 110, 3) := by decide +kernel
theorem dX11_init_92 : decode cX11_init 92 = .ok (.aload_n 0, 1) := by decide +kernel
theorem dX11_init_93 : decode cX11_init 93 = .ok (.sipush 4096, 3) := by decide +kernel
theorem dX11_init_96 : decode cX11_init 96 = .ok (.newarray .int, 2) := by decide +kernel
theorem dX11_init_98 : decode cX11_init 98 = .ok (.putfield 113, 3) := by decide +kernel
theorem dX11_init_101 : decode cX11_init 101 = .ok (.aload_n 0, 1) := by decide +kernel
theorem dX11_init_102 : decode cX11_init 102 = .ok (.sipush 4096, 3) := by decide +kernel
theorem dX11_init_105 : decode cX11_init 105 = .ok (.newarray .int, 2) := by decide +kernel
theorem dX11_init_107 : decode cX11_init 107 = .ok (.putfield 116, 3) := by decide +kernel
theorem dX11_init_110 : decode cX11_init 110 = .ok (.aload_n 0, 1) := by decide +kernel
theorem dX11_init_111 : decode cX11_init 111 = .ok (.sipush 325, 3) := by decide +kernel
theorem dX11_init_114 : decode cX11_init 114 = .ok (.newarray .int, 2) := by decide +kernel
theorem dX11_init_116 : decode cX11_init 116 = .ok (.putfield 119, 3) := by decide +kernel
theorem dX11_init_119 : decode cX11_init 119 = .ok (.aload_n 0, 1) := by decide +kernel
theorem dX11_init_120 : decode cX11_init 120 = .ok (.sipush 325, 3) := by decide +kernel
theorem dX11_init_123 : decode cX11_init 123 = .ok (.newarray .boolean, 2) := by decide +kernel
theorem dX11_init_125 : decode cX11_init 125 = .ok (.putfield 122, 3) := by decide +kernel
theorem dX11_init_128 : decode cX11_init 128 = .ok (.aload_n 0, 1) := by decide +kernel
theorem dX11_init_129 : decode cX11_init 129 = .ok (.bipush 12, 2) := by decide +kernel
theorem dX11_init_131 : decode cX11_init 131 = .ok (.newarray .int, 2) := by decide +kernel
theorem dX11_init_133 : decode cX11_init 133 = .ok (.putfield 125, 3) := by decide +kernel
theorem dX11_init_136 : decode cX11_init 136 = .ok (.aload_n 0, 1) := by decide +kernel
theorem dX11_init_137 : decode cX11_init 137 = .ok (.bipush 12, 2) := by decide +kernel
theorem dX11_init_139 : decode cX11_init 139 = .ok (.newarray .int, 2) := by decide +kernel
theorem dX11_init_141 : decode cX11_init 141 = .ok (.putfield 128, 3) := by decide +kernel
theorem dX11_init_144 : decode cX11_init 144 = .ok (.aload_n 0, 1) := by decide +kernel
theorem dX11_init_145 : decode cX11_init 145 = .ok (.bipush 13, 2) := by decide +kernel
theorem dX11_init_147 : decode cX11_init 147 = .ok (.newarray .int, 2) := by decide +kernel
theorem dX11_init_149 : decode cX11_init 149 = .ok (.putfield 131, 3) := by decide +kernel
theorem dX11_init_152 : decode cX11_init 152 = .ok (.aload_n 0, 1) := by decide +kernel
theorem dX11_init_153 : decode cX11_init 153 = .ok (.bipush 13, 2) := by decide +kernel
theorem dX11_init_155 : decode cX11_init 155 = .ok (.newarray .int, 2) := by decide +kernel
theorem dX11_init_157 : decode cX11_init 157 = .ok (.putfield 134, 3) := by decide +kernel
theorem dX11_init_160 : decode cX11_init 160 = .ok (.aload_n 0, 1) := by decide +kernel
theorem dX11_init_161 : decode cX11_init 161 = .ok (.bipush 13, 2) := by decide +kernel
theorem dX11_init_163 : decode cX11_init 163 = .ok (.newarray .int, 2) := by decide +kernel
theorem dX11_init_165 : decode cX11_init 165 = .ok (.putfield 137, 3) := by decide +kernel
theorem dX11_init_168 : decode cX11_init 168 = .ok (.aload_n 0, 1) := by decide +kernel
theorem dX11_init_169 : decode cX11_init 169 = .ok (.sipush 512, 3) := by decide +kernel
theorem dX11_init_172 : decode cX11_init 172 = .ok (.newarray .int, 2) := by decide +kernel
theorem dX11_init_174 : decode cX11_init 174 = .ok (.putfield 140, 3) := by decide +kernel
theorem dX11_init_177 : decode cX11_init 177 = .ok (.return_, 1) := by decide +kernel
theorem dX11_copy_0 : decode cX11_copy 0 = .ok (.iconst 0, 1) := by decide +kernel
theorem dX11_copy_1 : decode cX11_copy 1 = .ok (.istore 4, 2) := by decide +kernel
theorem dX11_copy_3 : decode cX11_copy 3 = .ok (.iload 4, 2) := by decide +kernel
theorem dX11_copy_5 : decode cX11_copy 5 = .ok (.bipush 17, 2) := by decide +kernel
theorem dX11_copy_7 : decode cX11_copy 7 = .ok (.if_icmp .ge 21, 3) := by decide +kernel
theorem dX11_copy_10 : decode cX11_copy 10 = .ok (.aload_n 2, 1) := by decide +kernel
theorem dX11_copy_11 : decode cX11_copy 11 = .ok (.iload_n 3, 1) := by decide +kernel
theorem dX11_copy_12 : decode cX11_copy 12 = .ok (.iload 4, 2) := by decide +kernel
theorem dX11_copy_14 : decode cX11_copy 14 = .ok (.iadd, 1) := by decide +kernel
theorem dX11_copy_15 : decode cX11_copy 15 = .ok (.aload_n 0, 1) := by decide +kernel
theorem dX11_copy_16 : decode cX11_copy 16 = .ok (.iload_n 1, 1) := by decide +kernel
theorem dX11_copy_17 : decode cX11_copy 17 = .ok (.iload 4, 2) := by decide +kernel
theorem dX11_copy_19 : decode cX11_copy 19 = .ok (.iadd, 1) := by decide +kernel
theorem dX11_copy_20 : decode cX11_copy 20 = .ok (.iaload, 1) := by decide +kernel
theorem dX11_copy_21 : decode cX11_copy 21 = .ok (.iastore, 1) := by decide +kernel
theorem dX11_copy_22 : decode cX11_copy 22 = .ok (.iinc 4 1, 3) := by decide +kernel
theorem dX11_copy_25 : decode cX11_copy 25 = .ok (.goto (-22), 3) := by decide +kernel
theorem dX11_copy_28 : decode cX11_copy 28 = .ok (.return_, 1) := by decide +kernel
theorem dX11_orderOf_0 : decode cX11_orderOf 0 = .ok (.aload_n 0, 1) := by decide +kernel
theorem dX11_orderOf_1 : decode cX11_orderOf 1 = .ok (.iconst 0, 1) := by decide +kernel
theorem dX11_orderOf_2 : decode cX11_orderOf 2 = .ok (.iaload, 1) := by decide +kernel
theorem dX11_orderOf_3 : decode cX11_orderOf 3 = .ok (.ifCond .ne 5, 3) := by decide +kernel
theorem dX11_orderOf_6 : decode cX11_orderOf 6 = .ok (.iconst 0, 1) := by decide +kernel
theorem dX11_orderOf_7 : decode cX11_orderOf 7 = .ok (.ireturn, 1) := by decide +kernel
theorem dX11_orderOf_8 : decode cX11_orderOf 8 = .ok (.iconst 1, 1) := by decide +kernel
theorem dX11_orderOf_9 : decode cX11_orderOf 9 = .ok (.istore_n 1, 1) := by decide +kernel
theorem dX11_orderOf_10 : decode cX11_orderOf 10 = .ok (.iconst 0, 1) := by decide +kernel
theorem dX11_orderOf_11 : decode cX11_orderOf 11 = .ok (.istore_n 2, 1) := by decide +kernel
theorem dX11_orderOf_12 : decode cX11_orderOf 12 = .ok (.iload_n 2, 1) := by decide +kernel
theorem dX11_orderOf_13 : decode cX11_orderOf 13 = .ok (.aload_n 0, 1) := by decide +kernel
theorem dX11_orderOf_14 : decode cX11_orderOf 14 = .ok (.iconst 0, 1) := by decide +kernel
theorem dX11_orderOf_15 : decode cX11_orderOf 15 = .ok (.iaload, 1) := by decide +kernel
theorem dX11_orderOf_16 : decode cX11_orderOf 16 = .ok (.if_icmp .ge 17, 3) := by decide +kernel
theorem dX11_orderOf_19 : decode cX11_orderOf 19 = .ok (.iload_n 1, 1) := by decide +kernel
theorem dX11_orderOf_20 : decode cX11_orderOf 20 = .ok (.aload_n 0, 1) := by decide +kernel
theorem dX11_orderOf_21 : decode cX11_orderOf 21 = .ok (.iconst 1, 1) := by decide +kernel
theorem dX11_orderOf_22 : decode cX11_orderOf 22 = .ok (.iload_n 2, 1) := by decide +kernel
theorem dX11_orderOf_23 : decode cX11_orderOf 23 = .ok (.iadd, 1) := by decide +kernel
theorem dX11_orderOf_24 : decode cX11_orderOf 24 = .ok (.iaload, 1) := by decide +kernel
theorem dX11_orderOf_25 : decode cX11_orderOf 25 = .ok (.imul, 1) := by decide +kernel
theorem dX11_orderOf_26 : decode cX11_orderOf 26 = .ok (.istore_n 1, 1) := by decide +kernel
theorem dX11_orderOf_27 : decode cX11_orderOf 27 = .ok (.iinc 2 1, 3) := by decide +kernel
theorem dX11_orderOf_30 : decode cX11_orderOf 30 = .ok (.goto (-18), 3) := by decide +kernel
theorem dX11_orderOf_33 : decode cX11_orderOf 33 = .ok (.iload_n 1, 1) := by decide +kernel
theorem dX11_orderOf_34 : decode cX11_orderOf 34 = .ok (.ireturn, 1) := by decide +kernel
theorem dX11_readGroup_0 : decode cX11_readGroup 0 = .ok (.aload_n 0, 1) := by decide +kernel
theorem dX11_readGroup_1 : decode cX11_readGroup 1 = .ok (.invokevirtual 143, 3) := by decide +kernel
theorem dX11_readGroup_4 : decode cX11_readGroup 4 = .ok (.aload_n 0, 1) := by decide +kernel
theorem dX11_readGroup_5 : decode cX11_readGroup 5 = .ok (.getfield 31, 3) := by decide +kernel
theorem dX11_readGroup_8 : decode cX11_readGroup 8 = .ok (.iconst 3, 1) := by decide +kernel
theorem dX11_readGroup_9 : decode cX11_readGroup 9 = .ok (.if_icmp .eq 9, 3) := by decide +kernel
theorem dX11_readGroup_12 : decode cX11_readGroup 12 = .ok (.aload_n 0, 1) := by decide +kernel
theorem dX11_readGroup_13 : decode cX11_readGroup 13 = .ok (.iconst 1, 1) := by decide +kernel
theorem dX11_readGroup_14 : decode cX11_readGroup 14 = .ok (.invokevirtual 146, 3) := by decide +kernel
theorem dX11_readGroup_17 : decode cX11_readGroup 17 = .ok (.ireturn, 1) := by decide +kernel
theorem dX11_readGroup_18 : decode cX11_readGroup 18 = .ok (.aload_n 0, 1) := by decide +kernel
theorem dX11_readGroup_19 : decode cX11_readGroup 19 = .ok (.getfield 31, 3) := by decide +kernel
theorem dX11_readGroup_22 : decode cX11_readGroup 22 = .ok (.iconst 3, 1) := by decide +kernel
theorem dX11_readGroup_23 : decode cX11_readGroup 23 = .ok (.if_icmp .ne 97, 3) := by decide +kernel
theorem dX11_readGroup_26 : decode cX11_readGroup 26 = .ok (.aload_n 0, 1) := by decide +kernel
theorem dX11_readGroup_27 : decode cX11_readGroup 27 = .ok (.getfield 88, 3) := by decide +kernel
theorem dX11_readGroup_30 : decode cX11_readGroup 30 = .ok (.iconst 0, 1) := by decide +kernel
theorem dX11_readGroup_31 : decode cX11_readGroup 31 = .ok (.iaload, 1) := by decide +kernel
theorem dX11_readGroup_32 : decode cX11_readGroup 32 = .ok (.iconst 3, 1) := by decide +kernel
theorem dX11_readGroup_33 : decode cX11_readGroup 33 = .ok (.if_icmp .ne 9, 3) := by decide +kernel
theorem dX11_readGroup_36 : decode cX11_readGroup 36 = .ok (.aload_n 0, 1) := by decide +kernel
theorem dX11_readGroup_37 : decode cX11_readGroup 37 = .ok (.iconst 1, 1) := by decide +kernel
theorem dX11_readGroup_38 : decode cX11_readGroup 38 = .ok (.invokevirtual 146, 3) := by decide +kernel
theorem dX11_readGroup_41 : decode cX11_readGroup 41 = .ok (.ireturn, 1) := by decide +kernel
theorem dX11_readGroup_42 : decode cX11_readGroup 42 = .ok (.aload_n 0, 1) := by decide +kernel
theorem dX11_readGroup_43 : decode cX11_readGroup 43 = .ok (.getfield 45, 3) := by decide +kernel
theorem dX11_readGroup_46 : decode cX11_readGroup 46 = .ok (.iconst 2, 1) := by decide +kernel
theorem dX11_readGroup_47 : decode cX11_readGroup 47 = .ok (.if_icmp .lt 33, 3) := by decide +kernel
theorem dX11_readGroup_50 : decode cX11_readGroup 50 = .ok (.aload_n 0, 1) := by decide +kernel
theorem dX11_readGroup_51 : decode cX11_readGroup 51 = .ok (.getfield 88, 3) := by decide +kernel
theorem dX11_readGroup_54 : decode cX11_readGroup 54 = .ok (.iconst 0, 1) := by decide +kernel
theorem dX11_readGroup_55 : decode cX11_readGroup 55 = .ok (.iaload, 1) := by decide +kernel
theorem dX11_readGroup_56 : decode cX11_readGroup 56 = .ok (.ifCond .ne 7, 3) := by decide +kernel
theorem dX11_readGroup_59 : decode cX11_readGroup 59 = .ok (.iconst 1, 1) := by decide +kernel
theorem dX11_readGroup_60 : decode cX11_readGroup 60 = .ok (.goto 10, 3) := by decide +kernel
theorem dX11_readGroup_63 : decode cX11_readGroup 63 = .ok (.aload_n 0, 1) := by decide +kernel
theorem dX11_readGroup_64 : decode cX11_readGroup 64 = .ok (.getfield 88, 3) := by decide +kernel
theorem dX11_readGroup_67 : decode cX11_readGroup 67 = .ok (.invokestatic 149, 3) := by decide +kernel
theorem dX11_readGroup_70 : decode cX11_readGroup 70 = .ok (.aload_n 0, 1) := by decide +kernel
theorem dX11_readGroup_71 : decode cX11_readGroup 71 = .ok (.getfield 45, 3) := by decide +kernel
theorem dX11_readGroup_74 : decode cX11_readGroup 74 = .ok (.imul, 1) := by decide +kernel
theorem dX11_readGroup_75 : decode cX11_readGroup 75 = .ok (.bipush 24, 2) := by decide +kernel
theorem dX11_readGroup_77 : decode cX11_readGroup 77 = .ok (.if_icmp .le 9, 3) := by decide +kernel
theorem dX11_readGroup_80 : decode cX11_readGroup 80 = .ok (.aload_n 0, 1) := by decide +kernel
theorem dX11_readGroup_81 : decode cX11_readGroup 81 = .ok (.iconst 2, 1) := by decide +kernel
theorem dX11_readGroup_82 : decode cX11_readGroup 82 = .ok (.invokevirtual 146, 3) := by decide +kernel
theorem dX11_readGroup_85 : decode cX11_readGroup 85 = .ok (.ireturn, 1) := by decide +kernel
theorem dX11_readGroup_86 : decode cX11_readGroup 86 = .ok (.aload_n 0, 1) := by decide +kernel
theorem dX11_readGroup_87 : decode cX11_readGroup 87 = .ok (.getfield 88, 3) := by decide +kernel
theorem dX11_readGroup_90 : decode cX11_readGroup 90 = .ok (.iconst 1, 1) := by decide +kernel
theorem dX11_readGroup_91 : decode cX11_readGroup 91 = .ok (.aload_n 0, 1) := by decide +kernel
theorem dX11_readGroup_92 : decode cX11_readGroup 92 = .ok (.getfield 88, 3) := by decide +kernel
theorem dX11_readGroup_95 : decode cX11_readGroup 95 = .ok (.iconst 0, 1) := by decide +kernel
theorem dX11_readGroup_96 : decode cX11_readGroup 96 = .ok (.iaload, 1) := by decide +kernel
theorem dX11_readGroup_97 : decode cX11_readGroup 97 = .ok (.iadd, 1) := by decide +kernel
theorem dX11_readGroup_98 : decode cX11_readGroup 98 = .ok (.aload_n 0, 1) := by decide +kernel
theorem dX11_readGroup_99 : decode cX11_readGroup 99 = .ok (.getfield 45, 3) := by decide +kernel
theorem dX11_readGroup_102 : decode cX11_readGroup 102 = .ok (.iastore, 1) := by decide +kernel
theorem dX11_readGroup_103 : decode cX11_readGroup 103 = .ok (.aload_n 0, 1) := by decide +kernel
theorem dX11_readGroup_104 : decode cX11_readGroup 104 = .ok (.getfield 88, 3) := by decide +kernel
theorem dX11_readGroup_107 : decode cX11_readGroup 107 = .ok (.iconst 0, 1) := by decide +kernel
theorem dX11_readGroup_108 : decode cX11_readGroup 108 = .ok (.dup2, 1) := by decide +kernel
theorem dX11_readGroup_109 : decode cX11_readGroup 109 = .ok (.iaload, 1) := by decide +kernel
theorem dX11_readGroup_110 : decode cX11_readGroup 110 = .ok (.iconst 1, 1) := by decide +kernel
theorem dX11_readGroup_111 : decode cX11_readGroup 111 = .ok (.iadd, 1) := by decide +kernel
theorem dX11_readGroup_112 : decode cX11_readGroup 112 = .ok (.iastore, 1) := by decide +kernel
theorem dX11_readGroup_113 : decode cX11_readGroup 113 = .ok (.aload_n 0, 1) := by decide +kernel
theorem dX11_readGroup_114 : decode cX11_readGroup 114 = .ok (.invokevirtual 143, 3) := by decide +kernel
theorem dX11_readGroup_117 : decode cX11_readGroup 117 = .ok (.goto (-99), 3) := by decide +kernel
theorem dX11_readGroup_120 : decode cX11_readGroup 120 = .ok (.iconst 1, 1) := by decide +kernel
theorem dX11_readGroup_121 : decode cX11_readGroup 121 = .ok (.ireturn, 1) := by decide +kernel
theorem dX11_readPut_0 : decode cX11_readPut 0 = .ok (.aload_n 0, 1) := by decide +kernel
theorem dX11_readPut_1 : decode cX11_readPut 1 = .ok (.getfield 28, 3) := by decide +kernel
theorem dX11_readPut_4 : decode cX11_readPut 4 = .ok (.istore_n 1, 1) := by decide +kernel
theorem dX11_readPut_5 : decode cX11_readPut 5 = .ok (.aload_n 0, 1) := by decide +kernel
theorem dX11_readPut_6 : decode cX11_readPut 6 = .ok (.invokevirtual 143, 3) := by decide +kernel
theorem dX11_readPut_9 : decode cX11_readPut 9 = .ok (.iconst 0, 1) := by decide +kernel
theorem dX11_readPut_10 : decode cX11_readPut 10 = .ok (.istore_n 2, 1) := by decide +kernel
theorem dX11_readPut_11 : decode cX11_readPut 11 = .ok (.iconst 0, 1) := by decide +kernel
theorem dX11_readPut_12 : decode cX11_readPut 12 = .ok (.istore_n 3, 1) := by decide +kernel
theorem dX11_readPut_13 : decode cX11_readPut 13 = .ok (.iload_n 3, 1) := by decide +kernel
theorem dX11_readPut_14 : decode cX11_readPut 14 = .ok (.aload_n 0, 1) := by decide +kernel
theorem dX11_readPut_15 : decode cX11_readPut 15 = .ok (.getfield 88, 3) := by decide +kernel
theorem dX11_readPut_18 : decode cX11_readPut 18 = .ok (.iconst 0, 1) := by decide +kernel
theorem dX11_readPut_19 : decode cX11_readPut 19 = .ok (.iaload, 1) := by decide +kernel
theorem dX11_readPut_20 : decode cX11_readPut 20 = .ok (.if_icmp .ge 64, 3) := by decide +kernel
theorem dX11_readPut_23 : decode cX11_readPut 23 = .ok (.aload_n 0, 1) := by decide +kernel
theorem dX11_readPut_24 : decode cX11_readPut 24 = .ok (.getfield 31, 3) := by decide +kernel
theorem dX11_readPut_27 : decode cX11_readPut 27 = .ok (.iconst 3, 1) := by decide +kernel
theorem dX11_readPut_28 : decode cX11_readPut 28 = .ok (.if_icmp .eq 9, 3) := by decide +kernel
theorem dX11_readPut_31 : decode cX11_readPut 31 = .ok (.aload_n 0, 1) := by decide +kernel
theorem dX11_readPut_32 : decode cX11_readPut 32 = .ok (.iconst 1, 1) := by decide +kernel
theorem dX11_readPut_33 : decode cX11_readPut 33 = .ok (.invokevirtual 146, 3) := by decide +kernel
theorem dX11_readPut_36 : decode cX11_readPut 36 = .ok (.ireturn, 1) := by decide +kernel
theorem dX11_readPut_37 : decode cX11_readPut 37 = .ok (.aload_n 0, 1) := by decide +kernel
theorem dX11_readPut_38 : decode cX11_readPut 38 = .ok (.getfield 45, 3) := by decide +kernel
theorem dX11_readPut_41 : decode cX11_readPut 41 = .ok (.aload_n 0, 1) := by decide +kernel
theorem dX11_readPut_42 : decode cX11_readPut 42 = .ok (.getfield 88, 3) := by decide +kernel
theorem dX11_readPut_45 : decode cX11_readPut 45 = .ok (.iconst 1, 1) := by decide +kernel
theorem dX11_readPut_46 : decode cX11_readPut 46 = .ok (.iload_n 3, 1) := by decide +kernel
theorem dX11_readPut_47 : decode cX11_readPut 47 = .ok (.iadd, 1) := by decide +kernel
theorem dX11_readPut_48 : decode cX11_readPut 48 = .ok (.iaload, 1) := by decide +kernel
theorem dX11_readPut_49 : decode cX11_readPut 49 = .ok (.if_icmp .lt 9, 3) := by decide +kernel
theorem dX11_readPut_52 : decode cX11_readPut 52 = .ok (.aload_n 0, 1) := by decide +kernel
theorem dX11_readPut_53 : decode cX11_readPut 53 = .ok (.iconst 2, 1) := by decide +kernel
theorem dX11_readPut_54 : decode cX11_readPut 54 = .ok (.invokevirtual 146, 3) := by decide +kernel
theorem dX11_readPut_57 : decode cX11_readPut 57 = .ok (.ireturn, 1) := by decide +kernel
theorem dX11_readPut_58 : decode cX11_readPut 58 = .ok (.iload_n 2, 1) := by decide +kernel
theorem dX11_readPut_59 : decode cX11_readPut 59 = .ok (.aload_n 0, 1) := by decide +kernel
theorem dX11_readPut_60 : decode cX11_readPut 60 = .ok (.getfield 88, 3) := by decide +kernel
theorem dX11_readPut_63 : decode cX11_readPut 63 = .ok (.iconst 1, 1) := by decide +kernel
theorem dX11_readPut_64 : decode cX11_readPut 64 = .ok (.iload_n 3, 1) := by decide +kernel
theorem dX11_readPut_65 : decode cX11_readPut 65 = .ok (.iadd, 1) := by decide +kernel
theorem dX11_readPut_66 : decode cX11_readPut 66 = .ok (.iaload, 1) := by decide +kernel
theorem dX11_readPut_67 : decode cX11_readPut 67 = .ok (.imul, 1) := by decide +kernel
theorem dX11_readPut_68 : decode cX11_readPut 68 = .ok (.aload_n 0, 1) := by decide +kernel
theorem dX11_readPut_69 : decode cX11_readPut 69 = .ok (.getfield 45, 3) := by decide +kernel
theorem dX11_readPut_72 : decode cX11_readPut 72 = .ok (.iadd, 1) := by decide +kernel
theorem dX11_readPut_73 : decode cX11_readPut 73 = .ok (.istore_n 2, 1) := by decide +kernel
theorem dX11_readPut_74 : decode cX11_readPut 74 = .ok (.aload_n 0, 1) := by decide +kernel
theorem dX11_readPut_75 : decode cX11_readPut 75 = .ok (.invokevirtual 143, 3) := by decide +kernel
theorem dX11_readPut_78 : decode cX11_readPut 78 = .ok (.iinc 3 1, 3) := by decide +kernel
theorem dX11_readPut_81 : decode cX11_readPut 81 = .ok (.goto (-68), 3) := by decide +kernel
theorem dX11_readPut_84 : decode cX11_readPut 84 = .ok (.iconst 1, 1) := by decide +kernel
theorem dX11_readPut_85 : decode cX11_readPut 85 = .ok (.istore_n 3, 1) := by decide +kernel
theorem dX11_readPut_86 : decode cX11_readPut 86 = .ok (.aload_n 0, 1) := by decide +kernel
theorem dX11_readPut_87 : decode cX11_readPut 87 = .ok (.invokevirtual 153, 3) := by decide +kernel
theorem dX11_readPut_90 : decode cX11_readPut 90 = .ok (.istore 4, 2) := by decide +kernel
theorem dX11_readPut_92 : decode cX11_readPut 92 = .ok (.iload 4, 2) := by decide +kernel
theorem dX11_readPut_94 : decode cX11_readPut 94 = .ok (.ifCond .eq 56, 3) := by decide +kernel
theorem dX11_readPut_97 : decode cX11_readPut 97 = .ok (.aload_n 0, 1) := by decide +kernel
theorem dX11_readPut_98 : decode cX11_readPut 98 = .ok (.invokevirtual 143, 3) := by decide +kernel
theorem dX11_readPut_101 : decode cX11_readPut 101 = .ok (.aload_n 0, 1) := by decide +kernel
theorem dX11_readPut_102 : decode cX11_readPut 102 = .ok (.getfield 31, 3) := by decide +kernel
theorem dX11_readPut_105 : decode cX11_readPut 105 = .ok (.iconst 3, 1) := by decide +kernel
theorem dX11_readPut_106 : decode cX11_readPut 106 = .ok (.if_icmp .eq 9, 3) := by decide +kernel
theorem dX11_readPut_109 : decode cX11_readPut 109 = .ok (.aload_n 0, 1) := by decide +kernel
theorem dX11_readPut_110 : decode cX11_readPut 110 = .ok (.iconst 1, 1) := by decide +kernel
theorem dX11_readPut_111 : decode cX11_readPut 111 = .ok (.invokevirtual 146, 3) := by decide +kernel
theorem dX11_readPut_114 : decode cX11_readPut 114 = .ok (.ireturn, 1) := by decide +kernel
theorem dX11_readPut_115 : decode cX11_readPut 115 = .ok (.aload_n 0, 1) := by decide +kernel
theorem dX11_readPut_116 : decode cX11_readPut 116 = .ok (.getfield 45, 3) := by decide +kernel
theorem dX11_readPut_119 : decode cX11_readPut 119 = .ok (.iconst 1, 1) := by decide +kernel
theorem dX11_readPut_120 : decode cX11_readPut 120 = .ok (.bipush 12, 2) := by decide +kernel
theorem dX11_readPut_122 : decode cX11_readPut 122 = .ok (.aload_n 0, 1) := by decide +kernel
theorem dX11_readPut_123 : decode cX11_readPut 123 = .ok (.getfield 88, 3) := by decide +kernel
theorem dX11_readPut_126 : decode cX11_readPut 126 = .ok (.iconst 4, 1) := by decide +kernel
theorem dX11_readPut_127 : decode cX11_readPut 127 = .ok (.iaload, 1) := by decide +kernel
theorem dX11_readPut_128 : decode cX11_readPut 128 = .ok (.isub, 1) := by decide +kernel
theorem dX11_readPut_129 : decode cX11_readPut 129 = .ok (.invokestatic 157, 3) := by decide +kernel
theorem dX11_readPut_132 : decode cX11_readPut 132 = .ok (.ifCond .ne 9, 3) := by decide +kernel
theorem dX11_readPut_135 : decode cX11_readPut 135 = .ok (.aload_n 0, 1) := by decide +kernel
theorem dX11_readPut_136 : decode cX11_readPut 136 = .ok (.iconst 2, 1) := by decide +kernel
theorem dX11_readPut_137 : decode cX11_readPut 137 = .ok (.invokevirtual 146, 3) := by decide +kernel
theorem dX11_readPut_140 : decode cX11_readPut 140 = .ok (.ireturn, 1) := by decide +kernel
theorem dX11_readPut_141 : decode cX11_readPut 141 = .ok (.aload_n 0, 1) := by decide +kernel
theorem dX11_readPut_142 : decode cX11_readPut 142 = .ok (.getfield 45, 3) := by decide +kernel
theorem dX11_readPut_145 : decode cX11_readPut 145 = .ok (.istore_n 3, 1) := by decide +kernel
theorem dX11_readPut_146 : decode cX11_readPut 146 = .ok (.aload_n 0, 1) := by decide +kernel
theorem dX11_readPut_147 : decode cX11_readPut 147 = .ok (.invokevirtual 143, 3) := by decide +kernel
theorem dX11_readPut_150 : decode cX11_readPut 150 = .ok (.aload_n 0, 1) := by decide +kernel
theorem dX11_readPut_151 : decode cX11_readPut 151 = .ok (.getfield 31, 3) := by decide +kernel
theorem dX11_readPut_154 : decode cX11_readPut 154 = .ok (.iconst 4, 1) := by decide +kernel
theorem dX11_readPut_155 : decode cX11_readPut 155 = .ok (.if_icmp .eq 9, 3) := by decide +kernel
theorem dX11_readPut_158 : decode cX11_readPut 158 = .ok (.aload_n 0, 1) := by decide +kernel
theorem dX11_readPut_159 : decode cX11_readPut 159 = .ok (.iconst 1, 1) := by decide +kernel
theorem dX11_readPut_160 : decode cX11_readPut 160 = .ok (.invokevirtual 146, 3) := by decide +kernel
theorem dX11_readPut_163 : decode cX11_readPut 163 = .ok (.ireturn, 1) := by decide +kernel
theorem dX11_readPut_164 : decode cX11_readPut 164 = .ok (.aload_n 0, 1) := by decide +kernel
theorem dX11_readPut_165 : decode cX11_readPut 165 = .ok (.getfield 88, 3) := by decide +kernel
theorem dX11_readPut_168 : decode cX11_readPut 168 = .ok (.iconst 4, 1) := by decide +kernel
theorem dX11_readPut_169 : decode cX11_readPut 169 = .ok (.iaload, 1) := by decide +kernel
theorem dX11_readPut_170 : decode cX11_readPut 170 = .ok (.iload_n 3, 1) := by decide +kernel
theorem dX11_readPut_171 : decode cX11_readPut 171 = .ok (.iadd, 1) := by decide +kernel
theorem dX11_readPut_172 : decode cX11_readPut 172 = .ok (.bipush 12, 2) := by decide +kernel
theorem dX11_readPut_174 : decode cX11_readPut 174 = .ok (.if_icmp .le 10, 3) := by decide +kernel
theorem dX11_readPut_177 : decode cX11_readPut 177 = .ok (.aload_n 0, 1) := by decide +kernel
theorem dX11_readPut_178 : decode cX11_readPut 178 = .ok (.iconst 3, 1) := by decide +kernel
theorem dX11_readPut_179 : decode cX11_readPut 179 = .ok (.iload_n 1, 1) := by decide +kernel
theorem dX11_readPut_180 : decode cX11_readPut 180 = .ok (.invokevirtual 76, 3) := by decide +kernel
theorem dX11_readPut_183 : decode cX11_readPut 183 = .ok (.ireturn, 1) := by decide +kernel
theorem dX11_readPut_184 : decode cX11_readPut 184 = .ok (.iconst 0, 1) := by decide +kernel
theorem dX11_readPut_185 : decode cX11_readPut 185 = .ok (.istore 5, 2) := by decide +kernel
theorem dX11_readPut_187 : decode cX11_readPut 187 = .ok (.iload 5, 2) := by decide +kernel
theorem dX11_readPut_189 : decode cX11_readPut 189 = .ok (.iload_n 3, 1) := by decide +kernel
theorem dX11_readPut_190 : decode cX11_readPut 190 = .ok (.if_icmp .ge 33, 3) := by decide +kernel
theorem dX11_readPut_193 : decode cX11_readPut 193 = .ok (.aload_n 0, 1) := by decide +kernel
theorem dX11_readPut_194 : decode cX11_readPut 194 = .ok (.getfield 88, 3) := by decide +kernel
theorem dX11_readPut_197 : decode cX11_readPut 197 = .ok (.iconst 5, 1) := by decide +kernel
theorem dX11_readPut_198 : decode cX11_readPut 198 = .ok (.aload_n 0, 1) := by decide +kernel
theorem dX11_readPut_199 : decode cX11_readPut 199 = .ok (.getfield 88, 3) := by decide +kernel
theorem dX11_readPut_202 : decode cX11_readPut 202 = .ok (.iconst 4, 1) := by decide +kernel
theorem dX11_readPut_203 : decode cX11_readPut 203 = .ok (.iaload, 1) := by decide +kernel
theorem dX11_readPut_204 : decode cX11_readPut 204 = .ok (.iadd, 1) := by decide +kernel
theorem dX11_readPut_205 : decode cX11_readPut 205 = .ok (.iload_n 2, 1) := by decide +kernel
theorem dX11_readPut_206 : decode cX11_readPut 206 = .ok (.iastore, 1) := by decide +kernel
theorem dX11_readPut_207 : decode cX11_readPut 207 = .ok (.aload_n 0, 1) := by decide +kernel
theorem dX11_readPut_208 : decode cX11_readPut 208 = .ok (.getfield 88, 3) := by decide +kernel
theorem dX11_readPut_211 : decode cX11_readPut 211 = .ok (.iconst 4, 1) := by decide +kernel
theorem dX11_readPut_212 : decode cX11_readPut 212 = .ok (.dup2, 1) := by decide +kernel
theorem dX11_readPut_213 : decode cX11_readPut 213 = .ok (.iaload, 1) := by decide +kernel
theorem dX11_readPut_214 : decode cX11_readPut 214 = .ok (.iconst 1, 1) := by decide +kernel
theorem dX11_readPut_215 : decode cX11_readPut 215 = .ok (.iadd, 1) := by decide +kernel
theorem dX11_readPut_216 : decode cX11_readPut 216 = .ok (.iastore, 1) := by decide +kernel
theorem dX11_readPut_217 : decode cX11_readPut 217 = .ok (.iinc 5 1, 3) := by decide +kernel
theorem dX11_readPut_220 : decode cX11_readPut 220 = .ok (.goto (-33), 3) := by decide +kernel
theorem dX11_readPut_223 : decode cX11_readPut 223 = .ok (.iconst 1, 1) := by decide +kernel
theorem dX11_readPut_224 : decode cX11_readPut 224 = .ok (.ireturn, 1) := by decide +kernel
theorem dX11_readRow_0 : decode cX11_readRow 0 = .ok (.aload_n 0, 1) := by decide +kernel
theorem dX11_readRow_1 : decode cX11_readRow 1 = .ok (.getfield 88, 3) := by decide +kernel
theorem dX11_readRow_4 : decode cX11_readRow 4 = .ok (.iconst 0, 1) := by decide +kernel
theorem dX11_readRow_5 : decode cX11_readRow 5 = .ok (.iaload, 1) := by decide +kernel
theorem dX11_readRow_6 : decode cX11_readRow 6 = .ok (.ifCond .ne 23, 3) := by decide +kernel
theorem dX11_readRow_9 : decode cX11_readRow 9 = .ok (.aload_n 0, 1) := by decide +kernel
theorem dX11_readRow_10 : decode cX11_readRow 10 = .ok (.invokevirtual 161, 3) := by decide +kernel
theorem dX11_readRow_13 : decode cX11_readRow 13 = .ok (.ifCond .eq 10, 3) := by decide +kernel
theorem dX11_readRow_16 : decode cX11_readRow 16 = .ok (.aload_n 0, 1) := by decide +kernel
theorem dX11_readRow_17 : decode cX11_readRow 17 = .ok (.invokevirtual 164, 3) := by decide +kernel
theorem dX11_readRow_20 : decode cX11_readRow 20 = .ok (.goto 8, 3) := by decide +kernel
theorem dX11_readRow_23 : decode cX11_readRow 23 = .ok (.aload_n 0, 1) := by decide +kernel
theorem dX11_readRow_24 : decode cX11_readRow 24 = .ok (.iconst 1, 1) := by decide +kernel
theorem dX11_readRow_25 : decode cX11_readRow 25 = .ok (.invokevirtual 146, 3) := by decide +kernel
theorem dX11_readRow_28 : decode cX11_readRow 28 = .ok (.ireturn, 1) := by decide +kernel
theorem dX11_readRow_29 : decode cX11_readRow 29 = .ok (.aload_n 0, 1) := by decide +kernel
theorem dX11_readRow_30 : decode cX11_readRow 30 = .ok (.invokevirtual 167, 3) := by decide +kernel
theorem dX11_readRow_33 : decode cX11_readRow 33 = .ok (.ifCond .eq 10, 3) := by decide +kernel
theorem dX11_readRow_36 : decode cX11_readRow 36 = .ok (.aload_n 0, 1) := by decide +kernel
theorem dX11_readRow_37 : decode cX11_readRow 37 = .ok (.invokevirtual 170, 3) := by decide +kernel
theorem dX11_readRow_40 : decode cX11_readRow 40 = .ok (.goto 8, 3) := by decide +kernel
theorem dX11_readRow_43 : decode cX11_readRow 43 = .ok (.aload_n 0, 1) := by decide +kernel
theorem dX11_readRow_44 : decode cX11_readRow 44 = .ok (.iconst 1, 1) := by decide +kernel
theorem dX11_readRow_45 : decode cX11_readRow 45 = .ok (.invokevirtual 146, 3) := by decide +kernel
theorem dX11_readRow_48 : decode cX11_readRow 48 = .ok (.ireturn, 1) := by decide +kernel
theorem dX11_readEnd_0 : decode cX11_readEnd 0 = .ok (.aload_n 0, 1) := by decide +kernel
theorem dX11_readEnd_1 : decode cX11_readEnd 1 = .ok (.getfield 31, 3) := by decide +kernel
theorem dX11_readEnd_4 : decode cX11_readEnd 4 = .ok (.iconst 4, 1) := by decide +kernel
theorem dX11_readEnd_5 : decode cX11_readEnd 5 = .ok (.if_icmp .eq 9, 3) := by decide +kernel
theorem dX11_readEnd_8 : decode cX11_readEnd 8 = .ok (.aload_n 0, 1) := by decide +kernel
theorem dX11_readEnd_9 : decode cX11_readEnd 9 = .ok (.iconst 1, 1) := by decide +kernel
theorem dX11_readEnd_10 : decode cX11_readEnd 10 = .ok (.invokevirtual 146, 3) := by decide +kernel
theorem dX11_readEnd_13 : decode cX11_readEnd 13 = .ok (.ireturn, 1) := by decide +kernel
theorem dX11_readEnd_14 : decode cX11_readEnd 14 = .ok (.aload_n 0, 1) := by decide +kernel
theorem dX11_readEnd_15 : decode cX11_readEnd 15 = .ok (.invokevirtual 143, 3) := by decide +kernel
theorem dX11_readEnd_18 : decode cX11_readEnd 18 = .ok (.iconst 1, 1) := by decide +kernel
theorem dX11_readEnd_19 : decode cX11_readEnd 19 = .ok (.ireturn, 1) := by decide +kernel
theorem dX11_text_0 : decode cX11_text 0 = .ok (.aload_n 0, 1) := by decide +kernel
theorem dX11_text_1 : decode cX11_text 1 = .ok (.iconst 0, 1) := by decide +kernel
theorem dX11_text_2 : decode cX11_text 2 = .ok (.putfield 1, 3) := by decide +kernel
theorem dX11_text_5 : decode cX11_text 5 = .ok (.aload_n 0, 1) := by decide +kernel
theorem dX11_text_6 : decode cX11_text 6 = .ok (.aload_n 0, 1) := by decide +kernel
theorem dX11_text_7 : decode cX11_text 7 = .ok (.getfield 15, 3) := by decide +kernel
theorem dX11_text_10 : decode cX11_text 10 = .ok (.putfield 22, 3) := by decide +kernel
theorem dX11_text_13 : decode cX11_text 13 = .ok (.aload_n 0, 1) := by decide +kernel
theorem dX11_text_14 : decode cX11_text 14 = .ok (.iconst 0, 1) := by decide +kernel
theorem dX11_text_15 : decode cX11_text 15 = .ok (.putfield 15, 3) := by decide +kernel
theorem dX11_text_18 : decode cX11_text 18 = .ok (.aload_n 0, 1) := by decide +kernel
theorem dX11_text_19 : decode cX11_text 19 = .ok (.iconst 0, 1) := by decide +kernel
theorem dX11_text_20 : decode cX11_text 20 = .ok (.putfield 64, 3) := by decide +kernel
theorem dX11_text_23 : decode cX11_text 23 = .ok (.aload_n 0, 1) := by decide +kernel
theorem dX11_text_24 : decode cX11_text 24 = .ok (.iconst (-1), 1) := by decide +kernel
theorem dX11_text_25 : decode cX11_text 25 = .ok (.putfield 73, 3) := by decide +kernel
theorem dX11_text_28 : decode cX11_text 28 = .ok (.aload_n 0, 1) := by decide +kernel
theorem dX11_text_29 : decode cX11_text 29 = .ok (.iconst 0, 1) := by decide +kernel
theorem dX11_text_30 : decode cX11_text 30 = .ok (.putfield 25, 3) := by decide +kernel
theorem dX11_text_33 : decode cX11_text 33 = .ok (.aload_n 0, 1) := by decide +kernel
theorem dX11_text_34 : decode cX11_text 34 = .ok (.iconst 0, 1) := by decide +kernel
theorem dX11_text_35 : decode cX11_text 35 = .ok (.putfield 70, 3) := by decide +kernel
theorem dX11_text_38 : decode cX11_text 38 = .ok (.iconst 0, 1) := by decide +kernel
theorem dX11_text_39 : decode cX11_text 39 = .ok (.istore_n 1, 1) := by decide +kernel
theorem dX11_text_40 : decode cX11_text 40 = .ok (.iload_n 1, 1) := by decide +kernel
theorem dX11_text_41 : decode cX11_text 41 = .ok (.bipush 17, 2) := by decide +kernel
theorem dX11_text_43 : decode cX11_text 43 = .ok (.if_icmp .ge 16, 3) := by decide +kernel
theorem dX11_text_46 : decode cX11_text 46 = .ok (.aload_n 0, 1) := by decide +kernel
theorem dX11_text_47 : decode cX11_text 47 = .ok (.getfield 88, 3) := by decide +kernel
theorem dX11_text_50 : decode cX11_text 50 = .ok (.iload_n 1, 1) := by decide +kernel
theorem dX11_text_51 : decode cX11_text 51 = .ok (.iconst 0, 1) := by decide +kernel
theorem dX11_text_52 : decode cX11_text 52 = .ok (.iastore, 1) := by decide +kernel
theorem dX11_text_53 : decode cX11_text 53 = .ok (.iinc 1 1, 3) := by decide +kernel
theorem dX11_text_56 : decode cX11_text 56 = .ok (.goto (-16), 3) := by decide +kernel
theorem dX11_text_59 : decode cX11_text 59 = .ok (.aload_n 0, 1) := by decide +kernel
theorem dX11_text_60 : decode cX11_text 60 = .ok (.invokevirtual 143, 3) := by decide +kernel
theorem dX11_text_63 : decode cX11_text 63 = .ok (.aload_n 0, 1) := by decide +kernel
theorem dX11_text_64 : decode cX11_text 64 = .ok (.getfield 31, 3) := by decide +kernel
theorem dX11_text_67 : decode cX11_text 67 = .ok (.ifCond .eq 37, 3) := by decide +kernel
theorem dX11_text_70 : decode cX11_text 70 = .ok (.aload_n 0, 1) := by decide +kernel
theorem dX11_text_71 : decode cX11_text 71 = .ok (.invokevirtual 173, 3) := by decide +kernel
theorem dX11_text_74 : decode cX11_text 74 = .ok (.ifCond .eq 10, 3) := by decide +kernel
theorem dX11_text_77 : decode cX11_text 77 = .ok (.aload_n 0, 1) := by decide +kernel
theorem dX11_text_78 : decode cX11_text 78 = .ok (.invokevirtual 176, 3) := by decide +kernel
theorem dX11_text_81 : decode cX11_text 81 = .ok (.ifCond .ne 10, 3) := by decide +kernel
theorem dX11_text_84 : decode cX11_text 84 = .ok (.iconst (-1), 1) := by decide +kernel
theorem dX11_text_85 : decode cX11_text 85 = .ok (.aload_n 0, 1) := by decide +kernel
theorem dX11_text_86 : decode cX11_text 86 = .ok (.getfield 67, 3) := by decide +kernel
theorem dX11_text_89 : decode cX11_text 89 = .ok (.isub, 1) := by decide +kernel
theorem dX11_text_90 : decode cX11_text 90 = .ok (.ireturn, 1) := by decide +kernel
theorem dX11_text_91 : decode cX11_text 91 = .ok (.aload_n 0, 1) := by decide +kernel
theorem dX11_text_92 : decode cX11_text 92 = .ok (.dup, 1) := by decide +kernel
theorem dX11_text_93 : decode cX11_text 93 = .ok (.getfield 70, 3) := by decide +kernel
theorem dX11_text_96 : decode cX11_text 96 = .ok (.iconst 1, 1) := by decide +kernel
theorem dX11_text_97 : decode cX11_text 97 = .ok (.iadd, 1) := by decide +kernel
theorem dX11_text_98 : decode cX11_text 98 = .ok (.putfield 70, 3) := by decide +kernel
theorem dX11_text_101 : decode cX11_text 101 = .ok (.goto (-38), 3) := by decide +kernel
theorem dX11_text_104 : decode cX11_text 104 = .ok (.aload_n 0, 1) := by decide +kernel
theorem dX11_text_105 : decode cX11_text 105 = .ok (.getfield 88, 3) := by decide +kernel
theorem dX11_text_108 : decode cX11_text 108 = .ok (.iconst 0, 1) := by decide +kernel
theorem dX11_text_109 : decode cX11_text 109 = .ok (.aload_n 0, 1) := by decide +kernel
theorem dX11_text_110 : decode cX11_text 110 = .ok (.getfield 85, 3) := by decide +kernel
theorem dX11_text_113 : decode cX11_text 113 = .ok (.iconst 0, 1) := by decide +kernel
theorem dX11_text_114 : decode cX11_text 114 = .ok (.invokestatic 179, 3) := by decide +kernel
theorem dX11_text_117 : decode cX11_text 117 = .ok (.aload_n 0, 1) := by decide +kernel
theorem dX11_text_118 : decode cX11_text 118 = .ok (.iconst 0, 1) := by decide +kernel
theorem dX11_text_119 : decode cX11_text 119 = .ok (.putfield 183, 3) := by decide +kernel
theorem dX11_text_122 : decode cX11_text 122 = .ok (.aload_n 0, 1) := by decide +kernel
theorem dX11_text_123 : decode cX11_text 123 = .ok (.getfield 70, 3) := by decide +kernel
theorem dX11_text_126 : decode cX11_text 126 = .ok (.ireturn, 1) := by decide +kernel
theorem dX11_fault_0 : decode cX11_fault 0 = .ok (.aload_n 0, 1) := by decide +kernel
theorem dX11_fault_1 : decode cX11_fault 1 = .ok (.iconst 0, 1) := by decide +kernel
theorem dX11_fault_2 : decode cX11_fault 2 = .ok (.putfield 1, 3) := by decide +kernel
theorem dX11_fault_5 : decode cX11_fault 5 = .ok (.iload_n 1, 1) := by decide +kernel
theorem dX11_fault_6 : decode cX11_fault 6 = .ok (.ifCond .ne 10, 3) := by decide +kernel
theorem dX11_fault_9 : decode cX11_fault 9 = .ok (.aload_n 0, 1) := by decide +kernel
theorem dX11_fault_10 : decode cX11_fault 10 = .ok (.getfield 64, 3) := by decide +kernel
theorem dX11_fault_13 : decode cX11_fault 13 = .ok (.goto 16, 3) := by decide +kernel
theorem dX11_fault_16 : decode cX11_fault 16 = .ok (.iload_n 1, 1) := by decide +kernel
theorem dX11_fault_17 : decode cX11_fault 17 = .ok (.iconst 1, 1) := by decide +kernel
theorem dX11_fault_18 : decode cX11_fault 18 = .ok (.if_icmp .ne 10, 3) := by decide +kernel
theorem dX11_fault_21 : decode cX11_fault 21 = .ok (.aload_n 0, 1) := by decide +kernel
theorem dX11_fault_22 : decode cX11_fault 22 = .ok (.getfield 73, 3) := by decide +kernel
theorem dX11_fault_25 : decode cX11_fault 25 = .ok (.goto 4, 3) := by decide +kernel
theorem dX11_fault_28 : decode cX11_fault 28 = .ok (.iconst (-1), 1) := by decide +kernel
theorem dX11_fault_29 : decode cX11_fault 29 = .ok (.ireturn, 1) := by decide +kernel
theorem dX11_order_0 : decode cX11_order 0 = .ok (.aload_n 0, 1) := by decide +kernel
theorem dX11_order_1 : decode cX11_order 1 = .ok (.getfield 85, 3) := by decide +kernel
theorem dX11_order_4 : decode cX11_order 4 = .ok (.invokestatic 149, 3) := by decide +kernel
theorem dX11_order_7 : decode cX11_order 7 = .ok (.ireturn, 1) := by decide +kernel
theorem dX11_isElement_0 : decode cX11_isElement 0 = .ok (.iload_n 1, 1) := by decide +kernel
theorem dX11_isElement_1 : decode cX11_isElement 1 = .ok (.iconst 0, 1) := by decide +kernel
theorem dX11_isElement_2 : decode cX11_isElement 2 = .ok (.aload_n 0, 1) := by decide +kernel
theorem dX11_isElement_3 : decode cX11_isElement 3 = .ok (.invokevirtual 186, 3) := by decide +kernel
theorem dX11_isElement_6 : decode cX11_isElement 6 = .ok (.iconst 1, 1) := by decide +kernel
theorem dX11_isElement_7 : decode cX11_isElement 7 = .ok (.isub, 1) := by decide +kernel
theorem dX11_isElement_8 : decode cX11_isElement 8 = .ok (.invokestatic 157, 3) := by decide +kernel
theorem dX11_isElement_11 : decode cX11_isElement 11 = .ok (.ireturn, 1) := by decide +kernel
theorem dX11_places_0 : decode cX11_places 0 = .ok (.aload_n 0, 1) := by decide +kernel
theorem dX11_places_1 : decode cX11_places 1 = .ok (.getfield 85, 3) := by decide +kernel
theorem dX11_places_4 : decode cX11_places 4 = .ok (.iconst 4, 1) := by decide +kernel
theorem dX11_places_5 : decode cX11_places 5 = .ok (.iaload, 1) := by decide +kernel
theorem dX11_places_6 : decode cX11_places 6 = .ok (.ireturn, 1) := by decide +kernel
theorem dX11_isPlace_0 : decode cX11_isPlace 0 = .ok (.iload_n 1, 1) := by decide +kernel
theorem dX11_isPlace_1 : decode cX11_isPlace 1 = .ok (.iconst 0, 1) := by decide +kernel
theorem dX11_isPlace_2 : decode cX11_isPlace 2 = .ok (.aload_n 0, 1) := by decide +kernel
theorem dX11_isPlace_3 : decode cX11_isPlace 3 = .ok (.invokevirtual 190, 3) := by decide +kernel
theorem dX11_isPlace_6 : decode cX11_isPlace 6 = .ok (.iconst 1, 1) := by decide +kernel
theorem dX11_isPlace_7 : decode cX11_isPlace 7 = .ok (.isub, 1) := by decide +kernel
theorem dX11_isPlace_8 : decode cX11_isPlace 8 = .ok (.invokestatic 157, 3) := by decide +kernel
theorem dX11_isPlace_11 : decode cX11_isPlace 11 = .ok (.ireturn, 1) := by decide +kernel
theorem dX11_mixed_0 : decode cX11_mixed 0 = .ok (.iload_n 1, 1) := by decide +kernel
theorem dX11_mixed_1 : decode cX11_mixed 1 = .ok (.istore 5, 2) := by decide +kernel
theorem dX11_mixed_3 : decode cX11_mixed 3 = .ok (.iload_n 3, 1) := by decide +kernel
theorem dX11_mixed_4 : decode cX11_mixed 4 = .ok (.istore 6, 2) := by decide +kernel
theorem dX11_mixed_6 : decode cX11_mixed 6 = .ok (.iconst 1, 1) := by decide +kernel
theorem dX11_mixed_7 : decode cX11_mixed 7 = .ok (.istore 7, 2) := by decide +kernel
theorem dX11_mixed_9 : decode cX11_mixed 9 = .ok (.iconst 0, 1) := by decide +kernel
theorem dX11_mixed_10 : decode cX11_mixed 10 = .ok (.istore 8, 2) := by decide +kernel
theorem dX11_mixed_12 : decode cX11_mixed 12 = .ok (.aload_n 0, 1) := by decide +kernel
theorem dX11_mixed_13 : decode cX11_mixed 13 = .ok (.getfield 85, 3) := by decide +kernel
theorem dX11_mixed_16 : decode cX11_mixed 16 = .ok (.iconst 0, 1) := by decide +kernel
theorem dX11_mixed_17 : decode cX11_mixed 17 = .ok (.iaload, 1) := by decide +kernel
theorem dX11_mixed_18 : decode cX11_mixed 18 = .ok (.iconst 1, 1) := by decide +kernel
theorem dX11_mixed_19 : decode cX11_mixed 19 = .ok (.isub, 1) := by decide +kernel
theorem dX11_mixed_20 : decode cX11_mixed 20 = .ok (.istore 9, 2) := by decide +kernel
theorem dX11_mixed_22 : decode cX11_mixed 22 = .ok (.iload 9, 2) := by decide +kernel
theorem dX11_mixed_24 : decode cX11_mixed 24 = .ok (.ifCond .lt 68, 3) := by decide +kernel
theorem dX11_mixed_27 : decode cX11_mixed 27 = .ok (.aload_n 0, 1) := by decide +kernel
theorem dX11_mixed_28 : decode cX11_mixed 28 = .ok (.getfield 85, 3) := by decide +kernel
theorem dX11_mixed_31 : decode cX11_mixed 31 = .ok (.iconst 1, 1) := by decide +kernel
theorem dX11_mixed_32 : decode cX11_mixed 32 = .ok (.iload 9, 2) := by decide +kernel
theorem dX11_mixed_34 : decode cX11_mixed 34 = .ok (.iadd, 1) := by decide +kernel
theorem dX11_mixed_35 : decode cX11_mixed 35 = .ok (.iaload, 1) := by decide +kernel
theorem dX11_mixed_36 : decode cX11_mixed 36 = .ok (.istore 10, 2) := by decide +kernel
theorem dX11_mixed_38 : decode cX11_mixed 38 = .ok (.iload 8, 2) := by decide +kernel
theorem dX11_mixed_40 : decode cX11_mixed 40 = .ok (.iload 7, 2) := by decide +kernel
theorem dX11_mixed_42 : decode cX11_mixed 42 = .ok (.iload 5, 2) := by decide +kernel
theorem dX11_mixed_44 : decode cX11_mixed 44 = .ok (.iload 10, 2) := by decide +kernel
theorem dX11_mixed_46 : decode cX11_mixed 46 = .ok (.irem, 1) := by decide +kernel
theorem dX11_mixed_47 : decode cX11_mixed 47 = .ok (.iload_n 2, 1) := by decide +kernel
theorem dX11_mixed_48 : decode cX11_mixed 48 = .ok (.imul, 1) := by decide +kernel
theorem dX11_mixed_49 : decode cX11_mixed 49 = .ok (.iload 6, 2) := by decide +kernel
theorem dX11_mixed_51 : decode cX11_mixed 51 = .ok (.iload 10, 2) := by decide +kernel
theorem dX11_mixed_53 : decode cX11_mixed 53 = .ok (.irem, 1) := by decide +kernel
theorem dX11_mixed_54 : decode cX11_mixed 54 = .ok (.iload 4, 2) := by decide +kernel
theorem dX11_mixed_56 : decode cX11_mixed 56 = .ok (.imul, 1) := by decide +kernel
theorem dX11_mixed_57 : decode cX11_mixed 57 = .ok (.iadd, 1) := by decide +kernel
theorem dX11_mixed_58 : decode cX11_mixed 58 = .ok (.iload 10, 2) := by decide +kernel
theorem dX11_mixed_60 : decode cX11_mixed 60 = .ok (.irem, 1) := by decide +kernel
theorem dX11_mixed_61 : decode cX11_mixed 61 = .ok (.imul, 1) := by decide +kernel
theorem dX11_mixed_62 : decode cX11_mixed 62 = .ok (.iadd, 1) := by decide +kernel
theorem dX11_mixed_63 : decode cX11_mixed 63 = .ok (.istore 8, 2) := by decide +kernel
theorem dX11_mixed_65 : decode cX11_mixed 65 = .ok (.iload 7, 2) := by decide +kernel
theorem dX11_mixed_67 : decode cX11_mixed 67 = .ok (.iload 10, 2) := by decide +kernel
theorem dX11_mixed_69 : decode cX11_mixed 69 = .ok (.imul, 1) := by decide +kernel
theorem dX11_mixed_70 : decode cX11_mixed 70 = .ok (.istore 7, 2) := by decide +kernel
theorem dX11_mixed_72 : decode cX11_mixed 72 = .ok (.iload 5, 2) := by decide +kernel
theorem dX11_mixed_74 : decode cX11_mixed 74 = .ok (.iload 10, 2) := by decide +kernel
theorem dX11_mixed_76 : decode cX11_mixed 76 = .ok (.idiv, 1) := by decide +kernel
theorem dX11_mixed_77 : decode cX11_mixed 77 = .ok (.istore 5, 2) := by decide +kernel
theorem dX11_mixed_79 : decode cX11_mixed 79 = .ok (.iload 6, 2) := by decide +kernel
theorem dX11_mixed_81 : decode cX11_mixed 81 = .ok (.iload 10, 2) := by decide +kernel
theorem dX11_mixed_83 : decode cX11_mixed 83 = .ok (.idiv, 1) := by decide +kernel
theorem dX11_mixed_84 : decode cX11_mixed 84 = .ok (.istore 6, 2) := by decide +kernel
theorem dX11_mixed_86 : decode cX11_mixed 86 = .ok (.iinc 9 (-1), 3) := by decide +kernel
theorem dX11_mixed_89 : decode cX11_mixed 89 = .ok (.goto (-67), 3) := by decide +kernel
theorem dX11_mixed_92 : decode cX11_mixed 92 = .ok (.iload 8, 2) := by decide +kernel
theorem dX11_mixed_94 : decode cX11_mixed 94 = .ok (.ireturn, 1) := by decide +kernel
theorem dX11_together_0 : decode cX11_together 0 = .ok (.aload_n 0, 1) := by decide +kernel
theorem dX11_together_1 : decode cX11_together 1 = .ok (.iload_n 1, 1) := by decide +kernel
theorem dX11_together_2 : decode cX11_together 2 = .ok (.iconst 1, 1) := by decide +kernel
theorem dX11_together_3 : decode cX11_together 3 = .ok (.iload_n 2, 1) := by decide +kernel
theorem dX11_together_4 : decode cX11_together 4 = .ok (.iconst 1, 1) := by decide +kernel
theorem dX11_together_5 : decode cX11_together 5 = .ok (.invokevirtual 193, 3) := by decide +kernel
theorem dX11_together_8 : decode cX11_together 8 = .ok (.ireturn, 1) := by decide +kernel
theorem dX11_often_0 : decode cX11_often 0 = .ok (.aload_n 0, 1) := by decide +kernel
theorem dX11_often_1 : decode cX11_often 1 = .ok (.iload_n 1, 1) := by decide +kernel
theorem dX11_often_2 : decode cX11_often 2 = .ok (.iload_n 2, 1) := by decide +kernel
theorem dX11_often_3 : decode cX11_often 3 = .ok (.iconst 0, 1) := by decide +kernel
theorem dX11_often_4 : decode cX11_often 4 = .ok (.iconst 0, 1) := by decide +kernel
theorem dX11_often_5 : decode cX11_often 5 = .ok (.invokevirtual 193, 3) := by decide +kernel
theorem dX11_often_8 : decode cX11_often 8 = .ok (.ireturn, 1) := by decide +kernel
theorem dX11_divisor_0 : decode cX11_divisor 0 = .ok (.iload_n 1, 1) := by decide +kernel
theorem dX11_divisor_1 : decode cX11_divisor 1 = .ok (.ifCond .ne 7, 3) := by decide +kernel
theorem dX11_divisor_4 : decode cX11_divisor 4 = .ok (.iload_n 0, 1) := by decide +kernel
theorem dX11_divisor_5 : decode cX11_divisor 5 = .ok (.goto 10, 3) := by decide +kernel
theorem dX11_divisor_8 : decode cX11_divisor 8 = .ok (.iload_n 1, 1) := by decide +kernel
theorem dX11_divisor_9 : decode cX11_divisor 9 = .ok (.iload_n 0, 1) := by decide +kernel
theorem dX11_divisor_10 : decode cX11_divisor 10 = .ok (.iload_n 1, 1) := by decide +kernel
theorem dX11_divisor_11 : decode cX11_divisor 11 = .ok (.irem, 1) := by decide +kernel
theorem dX11_divisor_12 : decode cX11_divisor 12 = .ok (.invokestatic 197, 3) := by decide +kernel
theorem dX11_divisor_15 : decode cX11_divisor 15 = .ok (.ireturn, 1) := by decide +kernel
theorem dX11_exponent_0 : decode cX11_exponent 0 = .ok (.aload_n 0, 1) := by decide +kernel
theorem dX11_exponent_1 : decode cX11_exponent 1 = .ok (.getfield 85, 3) := by decide +kernel
theorem dX11_exponent_4 : decode cX11_exponent 4 = .ok (.iconst 0, 1) := by decide +kernel
theorem dX11_exponent_5 : decode cX11_exponent 5 = .ok (.iaload, 1) := by decide +kernel
theorem dX11_exponent_6 : decode cX11_exponent 6 = .ok (.ifCond .ne 5, 3) := by decide +kernel
theorem dX11_exponent_9 : decode cX11_exponent 9 = .ok (.iconst 0, 1) := by decide +kernel
theorem dX11_exponent_10 : decode cX11_exponent 10 = .ok (.ireturn, 1) := by decide +kernel
theorem dX11_exponent_11 : decode cX11_exponent 11 = .ok (.iconst 1, 1) := by decide +kernel
theorem dX11_exponent_12 : decode cX11_exponent 12 = .ok (.istore_n 1, 1) := by decide +kernel
theorem dX11_exponent_13 : decode cX11_exponent 13 = .ok (.iconst 0, 1) := by decide +kernel
theorem dX11_exponent_14 : decode cX11_exponent 14 = .ok (.istore_n 2, 1) := by decide +kernel
theorem dX11_exponent_15 : decode cX11_exponent 15 = .ok (.iload_n 2, 1) := by decide +kernel
theorem dX11_exponent_16 : decode cX11_exponent 16 = .ok (.aload_n 0, 1) := by decide +kernel
theorem dX11_exponent_17 : decode cX11_exponent 17 = .ok (.getfield 85, 3) := by decide +kernel
theorem dX11_exponent_20 : decode cX11_exponent 20 = .ok (.iconst 0, 1) := by decide +kernel
theorem dX11_exponent_21 : decode cX11_exponent 21 = .ok (.iaload, 1) := by decide +kernel
theorem dX11_exponent_22 : decode cX11_exponent 22 = .ok (.if_icmp .ge 33, 3) := by decide +kernel
theorem dX11_exponent_25 : decode cX11_exponent 25 = .ok (.iload_n 1, 1) := by decide +kernel
theorem dX11_exponent_26 : decode cX11_exponent 26 = .ok (.iload_n 1, 1) := by decide +kernel
theorem dX11_exponent_27 : decode cX11_exponent 27 = .ok (.aload_n 0, 1) := by decide +kernel
theorem dX11_exponent_28 : decode cX11_exponent 28 = .ok (.getfield 85, 3) := by decide +kernel
theorem dX11_exponent_31 : decode cX11_exponent 31 = .ok (.iconst 1, 1) := by decide +kernel
theorem dX11_exponent_32 : decode cX11_exponent 32 = .ok (.iload_n 2, 1) := by decide +kernel
theorem dX11_exponent_33 : decode cX11_exponent 33 = .ok (.iadd, 1) := by decide +kernel
theorem dX11_exponent_34 : decode cX11_exponent 34 = .ok (.iaload, 1) := by decide +kernel
theorem dX11_exponent_35 : decode cX11_exponent 35 = .ok (.invokestatic 197, 3) := by decide +kernel
theorem dX11_exponent_38 : decode cX11_exponent 38 = .ok (.idiv, 1) := by decide +kernel
theorem dX11_exponent_39 : decode cX11_exponent 39 = .ok (.aload_n 0, 1) := by decide +kernel
theorem dX11_exponent_40 : decode cX11_exponent 40 = .ok (.getfield 85, 3) := by decide +kernel
theorem dX11_exponent_43 : decode cX11_exponent 43 = .ok (.iconst 1, 1) := by decide +kernel
theorem dX11_exponent_44 : decode cX11_exponent 44 = .ok (.iload_n 2, 1) := by decide +kernel
theorem dX11_exponent_45 : decode cX11_exponent 45 = .ok (.iadd, 1) := by decide +kernel
theorem dX11_exponent_46 : decode cX11_exponent 46 = .ok (.iaload, 1) := by decide +kernel
theorem dX11_exponent_47 : decode cX11_exponent 47 = .ok (.imul, 1) := by decide +kernel
theorem dX11_exponent_48 : decode cX11_exponent 48 = .ok (.istore_n 1, 1) := by decide +kernel
theorem dX11_exponent_49 : decode cX11_exponent 49 = .ok (.iinc 2 1, 3) := by decide +kernel
theorem dX11_exponent_52 : decode cX11_exponent 52 = .ok (.goto (-37), 3) := by decide +kernel
theorem dX11_exponent_55 : decode cX11_exponent 55 = .ok (.iload_n 1, 1) := by decide +kernel
theorem dX11_exponent_56 : decode cX11_exponent 56 = .ok (.ireturn, 1) := by decide +kernel
theorem dX11_shifted_0 : decode cX11_shifted 0 = .ok (.iconst 0, 1) := by decide +kernel
theorem dX11_shifted_1 : decode cX11_shifted 1 = .ok (.istore_n 3, 1) := by decide +kernel
theorem dX11_shifted_2 : decode cX11_shifted 2 = .ok (.iconst 0, 1) := by decide +kernel
theorem dX11_shifted_3 : decode cX11_shifted 3 = .ok (.istore 4, 2) := by decide +kernel
theorem dX11_shifted_5 : decode cX11_shifted 5 = .ok (.iload 4, 2) := by decide +kernel
theorem dX11_shifted_7 : decode cX11_shifted 7 = .ok (.aload_n 0, 1) := by decide +kernel
theorem dX11_shifted_8 : decode cX11_shifted 8 = .ok (.invokevirtual 186, 3) := by decide +kernel
theorem dX11_shifted_11 : decode cX11_shifted 11 = .ok (.if_icmp .ge 30, 3) := by decide +kernel
theorem dX11_shifted_14 : decode cX11_shifted 14 = .ok (.iload_n 1, 1) := by decide +kernel
theorem dX11_shifted_15 : decode cX11_shifted 15 = .ok (.iload 4, 2) := by decide +kernel
theorem dX11_shifted_17 : decode cX11_shifted 17 = .ok (.invokestatic 7, 3) := by decide +kernel
theorem dX11_shifted_20 : decode cX11_shifted 20 = .ok (.ifCond .eq 15, 3) := by decide +kernel
theorem dX11_shifted_23 : decode cX11_shifted 23 = .ok (.iload_n 3, 1) := by decide +kernel
theorem dX11_shifted_24 : decode cX11_shifted 24 = .ok (.iconst 1, 1) := by decide +kernel
theorem dX11_shifted_25 : decode cX11_shifted 25 = .ok (.aload_n 0, 1) := by decide +kernel
theorem dX11_shifted_26 : decode cX11_shifted 26 = .ok (.iload 4, 2) := by decide +kernel
theorem dX11_shifted_28 : decode cX11_shifted 28 = .ok (.iload_n 2, 1) := by decide +kernel
theorem dX11_shifted_29 : decode cX11_shifted 29 = .ok (.invokevirtual 201, 3) := by decide +kernel
theorem dX11_shifted_32 : decode cX11_shifted 32 = .ok (.ishl, 1) := by decide +kernel
theorem dX11_shifted_33 : decode cX11_shifted 33 = .ok (.ior, 1) := by decide +kernel
theorem dX11_shifted_34 : decode cX11_shifted 34 = .ok (.istore_n 3, 1) := by decide +kernel
theorem dX11_shifted_35 : decode cX11_shifted 35 = .ok (.iinc 4 1, 3) := by decide +kernel
theorem dX11_shifted_38 : decode cX11_shifted 38 = .ok (.goto (-33), 3) := by decide +kernel
theorem dX11_shifted_41 : decode cX11_shifted 41 = .ok (.iload_n 3, 1) := by decide +kernel
theorem dX11_shifted_42 : decode cX11_shifted 42 = .ok (.ireturn, 1) := by decide +kernel
theorem dX11_opposite_0 : decode cX11_opposite 0 = .ok (.iconst 0, 1) := by decide +kernel
theorem dX11_opposite_1 : decode cX11_opposite 1 = .ok (.istore_n 2, 1) := by decide +kernel
theorem dX11_opposite_2 : decode cX11_opposite 2 = .ok (.aload_n 0, 1) := by decide +kernel
theorem dX11_opposite_3 : decode cX11_opposite 3 = .ok (.iload_n 2, 1) := by decide +kernel
theorem dX11_opposite_4 : decode cX11_opposite 4 = .ok (.iload_n 1, 1) := by decide +kernel
theorem dX11_opposite_5 : decode cX11_opposite 5 = .ok (.invokevirtual 201, 3) := by decide +kernel
theorem dX11_opposite_8 : decode cX11_opposite 8 = .ok (.ifCond .eq 9, 3) := by decide +kernel
theorem dX11_opposite_11 : decode cX11_opposite 11 = .ok (.iinc 2 1, 3) := by decide +kernel
theorem dX11_opposite_14 : decode cX11_opposite 14 = .ok (.goto (-12), 3) := by decide +kernel
theorem dX11_opposite_17 : decode cX11_opposite 17 = .ok (.iload_n 2, 1) := by decide +kernel
theorem dX11_opposite_18 : decode cX11_opposite 18 = .ok (.ireturn, 1) := by decide +kernel
theorem dX11_all_0 : decode cX11_all 0 = .ok (.iconst 1, 1) := by decide +kernel
theorem dX11_all_1 : decode cX11_all 1 = .ok (.aload_n 0, 1) := by decide +kernel
theorem dX11_all_2 : decode cX11_all 2 = .ok (.invokevirtual 190, 3) := by decide +kernel
theorem dX11_all_5 : decode cX11_all 5 = .ok (.ishl, 1) := by decide +kernel
theorem dX11_all_6 : decode cX11_all 6 = .ok (.iconst 1, 1) := by decide +kernel
theorem dX11_all_7 : decode cX11_all 7 = .ok (.isub, 1) := by decide +kernel
theorem dX11_all_8 : decode cX11_all 8 = .ok (.ireturn, 1) := by decide +kernel
theorem dX11_laysSums_0 : decode cX11_laysSums 0 = .ok (.aload_n 0, 1) := by decide +kernel
theorem dX11_laysSums_1 : decode cX11_laysSums 1 = .ok (.getfield 107, 3) := by decide +kernel
theorem dX11_laysSums_4 : decode cX11_laysSums 4 = .ok (.iconst 0, 1) := by decide +kernel
theorem dX11_laysSums_5 : decode cX11_laysSums 5 = .ok (.iconst 0, 1) := by decide +kernel
theorem dX11_laysSums_6 : decode cX11_laysSums 6 = .ok (.iastore, 1) := by decide +kernel
theorem dX11_laysSums_7 : decode cX11_laysSums 7 = .ok (.iconst 1, 1) := by decide +kernel
theorem dX11_laysSums_8 : decode cX11_laysSums 8 = .ok (.istore_n 1, 1) := by decide +kernel
theorem dX11_laysSums_9 : decode cX11_laysSums 9 = .ok (.iload_n 1, 1) := by decide +kernel
theorem dX11_laysSums_10 : decode cX11_laysSums 10 = .ok (.aload_n 0, 1) := by decide +kernel
theorem dX11_laysSums_11 : decode cX11_laysSums 11 = .ok (.invokevirtual 204, 3) := by decide +kernel
theorem dX11_laysSums_14 : decode cX11_laysSums 14 = .ok (.if_icmp .gt 40, 3) := by decide +kernel
theorem dX11_laysSums_17 : decode cX11_laysSums 17 = .ok (.aload_n 0, 1) := by decide +kernel
theorem dX11_laysSums_18 : decode cX11_laysSums 18 = .ok (.getfield 107, 3) := by decide +kernel
theorem dX11_laysSums_21 : decode cX11_laysSums 21 = .ok (.iload_n 1, 1) := by decide +kernel
theorem dX11_laysSums_22 : decode cX11_laysSums 22 = .ok (.aload_n 0, 1) := by decide +kernel
theorem dX11_laysSums_23 : decode cX11_laysSums 23 = .ok (.aload_n 0, 1) := by decide +kernel
theorem dX11_laysSums_24 : decode cX11_laysSums 24 = .ok (.getfield 107, 3) := by decide +kernel
theorem dX11_laysSums_27 : decode cX11_laysSums 27 = .ok (.iload_n 1, 1) := by decide +kernel
theorem dX11_laysSums_28 : decode cX11_laysSums 28 = .ok (.iload_n 1, 1) := by decide +kernel
theorem dX11_laysSums_29 : decode cX11_laysSums 29 = .ok (.iconst 1, 1) := by decide +kernel
theorem dX11_laysSums_30 : decode cX11_laysSums 30 = .ok (.isub, 1) := by decide +kernel
theorem dX11_laysSums_31 : decode cX11_laysSums 31 = .ok (.iand, 1) := by decide +kernel
theorem dX11_laysSums_32 : decode cX11_laysSums 32 = .ok (.iaload, 1) := by decide +kernel
theorem dX11_laysSums_33 : decode cX11_laysSums 33 = .ok (.aload_n 0, 1) := by decide +kernel
theorem dX11_laysSums_34 : decode cX11_laysSums 34 = .ok (.getfield 85, 3) := by decide +kernel
theorem dX11_laysSums_37 : decode cX11_laysSums 37 = .ok (.iconst 5, 1) := by decide +kernel
theorem dX11_laysSums_38 : decode cX11_laysSums 38 = .ok (.iload_n 1, 1) := by decide +kernel
theorem dX11_laysSums_39 : decode cX11_laysSums 39 = .ok (.invokestatic 207, 3) := by decide +kernel
theorem dX11_laysSums_42 : decode cX11_laysSums 42 = .ok (.iadd, 1) := by decide +kernel
theorem dX11_laysSums_43 : decode cX11_laysSums 43 = .ok (.iaload, 1) := by decide +kernel
theorem dX11_laysSums_44 : decode cX11_laysSums 44 = .ok (.invokevirtual 201, 3) := by decide +kernel
theorem dX11_laysSums_47 : decode cX11_laysSums 47 = .ok (.iastore, 1) := by decide +kernel
theorem dX11_laysSums_48 : decode cX11_laysSums 48 = .ok (.iinc 1 1, 3) := by decide +kernel
theorem dX11_laysSums_51 : decode cX11_laysSums 51 = .ok (.goto (-42), 3) := by decide +kernel
theorem dX11_laysSums_54 : decode cX11_laysSums 54 = .ok (.return_, 1) := by decide +kernel
theorem dX11_now_0 : decode cX11_now 0 = .ok (.aload_n 0, 1) := by decide +kernel
theorem dX11_now_1 : decode cX11_now 1 = .ok (.iconst 0, 1) := by decide +kernel
theorem dX11_now_2 : decode cX11_now 2 = .ok (.putfield 1, 3) := by decide +kernel
theorem dX11_now_5 : decode cX11_now 5 = .ok (.iload_n 1, 1) := by decide +kernel
theorem dX11_now_6 : decode cX11_now 6 = .ok (.tableswitch 99 0 6 #[42, 49, 54, 59, 64, 89, 94], 42) := by decide +kernel
theorem dX11_now_48 : decode cX11_now 48 = .ok (.aload_n 0, 1) := by decide +kernel
theorem dX11_now_49 : decode cX11_now 49 = .ok (.getfield 85, 3) := by decide +kernel
theorem dX11_now_52 : decode cX11_now 52 = .ok (.iconst 0, 1) := by decide +kernel
theorem dX11_now_53 : decode cX11_now 53 = .ok (.iaload, 1) := by decide +kernel
theorem dX11_now_54 : decode cX11_now 54 = .ok (.ireturn, 1) := by decide +kernel
theorem dX11_now_55 : decode cX11_now 55 = .ok (.aload_n 0, 1) := by decide +kernel
theorem dX11_now_56 : decode cX11_now 56 = .ok (.invokevirtual 186, 3) := by decide +kernel
theorem dX11_now_59 : decode cX11_now 59 = .ok (.ireturn, 1) := by decide +kernel
theorem dX11_now_60 : decode cX11_now 60 = .ok (.aload_n 0, 1) := by decide +kernel
theorem dX11_now_61 : decode cX11_now 61 = .ok (.invokevirtual 210, 3) := by decide +kernel
theorem dX11_now_64 : decode cX11_now 64 = .ok (.ireturn, 1) := by decide +kernel
theorem dX11_now_65 : decode cX11_now 65 = .ok (.aload_n 0, 1) := by decide +kernel
theorem dX11_now_66 : decode cX11_now 66 = .ok (.invokevirtual 190, 3) := by decide +kernel
theorem dX11_now_69 : decode cX11_now 69 = .ok (.ireturn, 1) := by decide +kernel
theorem dX11_now_70 : decode cX11_now 70 = .ok (.aload_n 0, 1) := by decide +kernel
theorem dX11_now_71 : decode cX11_now 71 = .ok (.invokevirtual 213, 3) := by decide +kernel
theorem dX11_now_74 : decode cX11_now 74 = .ok (.aload_n 0, 1) := by decide +kernel
theorem dX11_now_75 : decode cX11_now 75 = .ok (.invokevirtual 190, 3) := by decide +kernel
theorem dX11_now_78 : decode cX11_now 78 = .ok (.ifCond .ne 7, 3) := by decide +kernel
theorem dX11_now_81 : decode cX11_now 81 = .ok (.iconst (-1), 1) := by decide +kernel
theorem dX11_now_82 : decode cX11_now 82 = .ok (.goto 12, 3) := by decide +kernel
theorem dX11_now_85 : decode cX11_now 85 = .ok (.aload_n 0, 1) := by decide +kernel
theorem dX11_now_86 : decode cX11_now 86 = .ok (.getfield 107, 3) := by decide +kernel
theorem dX11_now_89 : decode cX11_now 89 = .ok (.aload_n 0, 1) := by decide +kernel
theorem dX11_now_90 : decode cX11_now 90 = .ok (.invokevirtual 204, 3) := by decide +kernel
theorem dX11_now_93 : decode cX11_now 93 = .ok (.iaload, 1) := by decide +kernel
theorem dX11_now_94 : decode cX11_now 94 = .ok (.ireturn, 1) := by decide +kernel
theorem dX11_now_95 : decode cX11_now 95 = .ok (.aload_n 0, 1) := by decide +kernel
theorem dX11_now_96 : decode cX11_now 96 = .ok (.getfield 183, 3) := by decide +kernel
theorem dX11_now_99 : decode cX11_now 99 = .ok (.ireturn, 1) := by decide +kernel
theorem dX11_now_100 : decode cX11_now 100 = .ok (.aload_n 0, 1) := by decide +kernel
theorem dX11_now_101 : decode cX11_now 101 = .ok (.getfield 15, 3) := by decide +kernel
theorem dX11_now_104 : decode cX11_now 104 = .ok (.ireturn, 1) := by decide +kernel
theorem dX11_now_105 : decode cX11_now 105 = .ok (.iconst (-1), 1) := by decide +kernel
theorem dX11_now_106 : decode cX11_now 106 = .ok (.ireturn, 1) := by decide +kernel
theorem dX11_part_0 : decode cX11_part 0 = .ok (.aload_n 0, 1) := by decide +kernel
theorem dX11_part_1 : decode cX11_part 1 = .ok (.iconst 0, 1) := by decide +kernel
theorem dX11_part_2 : decode cX11_part 2 = .ok (.putfield 1, 3) := by decide +kernel
theorem dX11_part_5 : decode cX11_part 5 = .ok (.iload_n 1, 1) := by decide +kernel
theorem dX11_part_6 : decode cX11_part 6 = .ok (.iconst 0, 1) := by decide +kernel
theorem dX11_part_7 : decode cX11_part 7 = .ok (.aload_n 0, 1) := by decide +kernel
theorem dX11_part_8 : decode cX11_part 8 = .ok (.getfield 85, 3) := by decide +kernel
theorem dX11_part_11 : decode cX11_part 11 = .ok (.iconst 0, 1) := by decide +kernel
theorem dX11_part_12 : decode cX11_part 12 = .ok (.iaload, 1) := by decide +kernel
theorem dX11_part_13 : decode cX11_part 13 = .ok (.iconst 1, 1) := by decide +kernel
theorem dX11_part_14 : decode cX11_part 14 = .ok (.isub, 1) := by decide +kernel
theorem dX11_part_15 : decode cX11_part 15 = .ok (.invokestatic 157, 3) := by decide +kernel
theorem dX11_part_18 : decode cX11_part 18 = .ok (.ifCond .eq 14, 3) := by decide +kernel
theorem dX11_part_21 : decode cX11_part 21 = .ok (.aload_n 0, 1) := by decide +kernel
theorem dX11_part_22 : decode cX11_part 22 = .ok (.getfield 85, 3) := by decide +kernel
theorem dX11_part_25 : decode cX11_part 25 = .ok (.iconst 1, 1) := by decide +kernel
theorem dX11_part_26 : decode cX11_part 26 = .ok (.iload_n 1, 1) := by decide +kernel
theorem dX11_part_27 : decode cX11_part 27 = .ok (.iadd, 1) := by decide +kernel
theorem dX11_part_28 : decode cX11_part 28 = .ok (.iaload, 1) := by decide +kernel
theorem dX11_part_29 : decode cX11_part 29 = .ok (.goto 4, 3) := by decide +kernel
theorem dX11_part_32 : decode cX11_part 32 = .ok (.iconst (-1), 1) := by decide +kernel
theorem dX11_part_33 : decode cX11_part 33 = .ok (.ireturn, 1) := by decide +kernel
theorem dX11_at_0 : decode cX11_at 0 = .ok (.aload_n 0, 1) := by decide +kernel
theorem dX11_at_1 : decode cX11_at 1 = .ok (.iconst 0, 1) := by decide +kernel
theorem dX11_at_2 : decode cX11_at 2 = .ok (.putfield 1, 3) := by decide +kernel
theorem dX11_at_5 : decode cX11_at 5 = .ok (.aload_n 0, 1) := by decide +kernel
theorem dX11_at_6 : decode cX11_at 6 = .ok (.iload_n 1, 1) := by decide +kernel
theorem dX11_at_7 : decode cX11_at 7 = .ok (.invokevirtual 216, 3) := by decide +kernel
theorem dX11_at_10 : decode cX11_at 10 = .ok (.ifCond .eq 14, 3) := by decide +kernel
theorem dX11_at_13 : decode cX11_at 13 = .ok (.aload_n 0, 1) := by decide +kernel
theorem dX11_at_14 : decode cX11_at 14 = .ok (.getfield 85, 3) := by decide +kernel
theorem dX11_at_17 : decode cX11_at 17 = .ok (.iconst 5, 1) := by decide +kernel
theorem dX11_at_18 : decode cX11_at 18 = .ok (.iload_n 1, 1) := by decide +kernel
theorem dX11_at_19 : decode cX11_at 19 = .ok (.iadd, 1) := by decide +kernel
theorem dX11_at_20 : decode cX11_at 20 = .ok (.iaload, 1) := by decide +kernel
theorem dX11_at_21 : decode cX11_at 21 = .ok (.goto 4, 3) := by decide +kernel
theorem dX11_at_24 : decode cX11_at 24 = .ok (.iconst (-1), 1) := by decide +kernel
theorem dX11_at_25 : decode cX11_at 25 = .ok (.ireturn, 1) := by decide +kernel
theorem dX11_add_0 : decode cX11_add 0 = .ok (.aload_n 0, 1) := by decide +kernel
theorem dX11_add_1 : decode cX11_add 1 = .ok (.iconst 0, 1) := by decide +kernel
theorem dX11_add_2 : decode cX11_add 2 = .ok (.putfield 1, 3) := by decide +kernel
theorem dX11_add_5 : decode cX11_add 5 = .ok (.aload_n 0, 1) := by decide +kernel
theorem dX11_add_6 : decode cX11_add 6 = .ok (.iload_n 1, 1) := by decide +kernel
theorem dX11_add_7 : decode cX11_add 7 = .ok (.invokevirtual 219, 3) := by decide +kernel
theorem dX11_add_10 : decode cX11_add 10 = .ok (.ifCond .eq 20, 3) := by decide +kernel
theorem dX11_add_13 : decode cX11_add 13 = .ok (.aload_n 0, 1) := by decide +kernel
theorem dX11_add_14 : decode cX11_add 14 = .ok (.iload_n 2, 1) := by decide +kernel
theorem dX11_add_15 : decode cX11_add 15 = .ok (.invokevirtual 219, 3) := by decide +kernel
theorem dX11_add_18 : decode cX11_add 18 = .ok (.ifCond .eq 12, 3) := by decide +kernel
theorem dX11_add_21 : decode cX11_add 21 = .ok (.aload_n 0, 1) := by decide +kernel
theorem dX11_add_22 : decode cX11_add 22 = .ok (.iload_n 1, 1) := by decide +kernel
theorem dX11_add_23 : decode cX11_add 23 = .ok (.iload_n 2, 1) := by decide +kernel
theorem dX11_add_24 : decode cX11_add 24 = .ok (.invokevirtual 201, 3) := by decide +kernel
theorem dX11_add_27 : decode cX11_add 27 = .ok (.goto 4, 3) := by decide +kernel
theorem dX11_add_30 : decode cX11_add 30 = .ok (.iconst (-1), 1) := by decide +kernel
theorem dX11_add_31 : decode cX11_add 31 = .ok (.ireturn, 1) := by decide +kernel
theorem dX11_sum_0 : decode cX11_sum 0 = .ok (.aload_n 0, 1) := by decide +kernel
theorem dX11_sum_1 : decode cX11_sum 1 = .ok (.iconst 0, 1) := by decide +kernel
theorem dX11_sum_2 : decode cX11_sum 2 = .ok (.putfield 1, 3) := by decide +kernel
theorem dX11_sum_5 : decode cX11_sum 5 = .ok (.iload_n 1, 1) := by decide +kernel
theorem dX11_sum_6 : decode cX11_sum 6 = .ok (.iconst 1, 1) := by decide +kernel
theorem dX11_sum_7 : decode cX11_sum 7 = .ok (.aload_n 0, 1) := by decide +kernel
theorem dX11_sum_8 : decode cX11_sum 8 = .ok (.invokevirtual 204, 3) := by decide +kernel
theorem dX11_sum_11 : decode cX11_sum 11 = .ok (.invokestatic 157, 3) := by decide +kernel
theorem dX11_sum_14 : decode cX11_sum 14 = .ok (.ifCond .ne 8, 3) := by decide +kernel
theorem dX11_sum_17 : decode cX11_sum 17 = .ok (.aload_n 0, 1) := by decide +kernel
theorem dX11_sum_18 : decode cX11_sum 18 = .ok (.invokevirtual 222, 3) := by decide +kernel
theorem dX11_sum_21 : decode cX11_sum 21 = .ok (.ireturn, 1) := by decide +kernel
theorem dX11_sum_22 : decode cX11_sum 22 = .ok (.aload_n 0, 1) := by decide +kernel
theorem dX11_sum_23 : decode cX11_sum 23 = .ok (.invokevirtual 213, 3) := by decide +kernel
theorem dX11_sum_26 : decode cX11_sum 26 = .ok (.aload_n 0, 1) := by decide +kernel
theorem dX11_sum_27 : decode cX11_sum 27 = .ok (.getfield 107, 3) := by decide +kernel
theorem dX11_sum_30 : decode cX11_sum 30 = .ok (.iload_n 1, 1) := by decide +kernel
theorem dX11_sum_31 : decode cX11_sum 31 = .ok (.iaload, 1) := by decide +kernel
theorem dX11_sum_32 : decode cX11_sum 32 = .ok (.ireturn, 1) := by decide +kernel
theorem dX11_sums_0 : decode cX11_sums 0 = .ok (.aload_n 0, 1) := by decide +kernel
theorem dX11_sums_1 : decode cX11_sums 1 = .ok (.iconst 0, 1) := by decide +kernel
theorem dX11_sums_2 : decode cX11_sums 2 = .ok (.putfield 1, 3) := by decide +kernel
theorem dX11_sums_5 : decode cX11_sums 5 = .ok (.aload_n 0, 1) := by decide +kernel
theorem dX11_sums_6 : decode cX11_sums 6 = .ok (.invokevirtual 213, 3) := by decide +kernel
theorem dX11_sums_9 : decode cX11_sums 9 = .ok (.iconst 0, 1) := by decide +kernel
theorem dX11_sums_10 : decode cX11_sums 10 = .ok (.istore_n 1, 1) := by decide +kernel
theorem dX11_sums_11 : decode cX11_sums 11 = .ok (.iconst 1, 1) := by decide +kernel
theorem dX11_sums_12 : decode cX11_sums 12 = .ok (.istore_n 2, 1) := by decide +kernel
theorem dX11_sums_13 : decode cX11_sums 13 = .ok (.iload_n 2, 1) := by decide +kernel
theorem dX11_sums_14 : decode cX11_sums 14 = .ok (.aload_n 0, 1) := by decide +kernel
theorem dX11_sums_15 : decode cX11_sums 15 = .ok (.invokevirtual 204, 3) := by decide +kernel
theorem dX11_sums_18 : decode cX11_sums 18 = .ok (.if_icmp .gt 20, 3) := by decide +kernel
theorem dX11_sums_21 : decode cX11_sums 21 = .ok (.iload_n 1, 1) := by decide +kernel
theorem dX11_sums_22 : decode cX11_sums 22 = .ok (.iconst 1, 1) := by decide +kernel
theorem dX11_sums_23 : decode cX11_sums 23 = .ok (.aload_n 0, 1) := by decide +kernel
theorem dX11_sums_24 : decode cX11_sums 24 = .ok (.getfield 107, 3) := by decide +kernel
theorem dX11_sums_27 : decode cX11_sums 27 = .ok (.iload_n 2, 1) := by decide +kernel
theorem dX11_sums_28 : decode cX11_sums 28 = .ok (.iaload, 1) := by decide +kernel
theorem dX11_sums_29 : decode cX11_sums 29 = .ok (.ishl, 1) := by decide +kernel
theorem dX11_sums_30 : decode cX11_sums 30 = .ok (.ior, 1) := by decide +kernel
theorem dX11_sums_31 : decode cX11_sums 31 = .ok (.istore_n 1, 1) := by decide +kernel
theorem dX11_sums_32 : decode cX11_sums 32 = .ok (.iinc 2 1, 3) := by decide +kernel
theorem dX11_sums_35 : decode cX11_sums 35 = .ok (.goto (-22), 3) := by decide +kernel
theorem dX11_sums_38 : decode cX11_sums 38 = .ok (.iload_n 1, 1) := by decide +kernel
theorem dX11_sums_39 : decode cX11_sums 39 = .ok (.ireturn, 1) := by decide +kernel
theorem dX11_firstOf_0 : decode cX11_firstOf 0 = .ok (.iconst 1, 1) := by decide +kernel
theorem dX11_firstOf_1 : decode cX11_firstOf 1 = .ok (.istore_n 3, 1) := by decide +kernel
theorem dX11_firstOf_2 : decode cX11_firstOf 2 = .ok (.iload_n 3, 1) := by decide +kernel
theorem dX11_firstOf_3 : decode cX11_firstOf 3 = .ok (.aload_n 0, 1) := by decide +kernel
theorem dX11_firstOf_4 : decode cX11_firstOf 4 = .ok (.invokevirtual 204, 3) := by decide +kernel
theorem dX11_firstOf_7 : decode cX11_firstOf 7 = .ok (.if_icmp .gt 33, 3) := by decide +kernel
theorem dX11_firstOf_10 : decode cX11_firstOf 10 = .ok (.aload_n 0, 1) := by decide +kernel
theorem dX11_firstOf_11 : decode cX11_firstOf 11 = .ok (.getfield 107, 3) := by decide +kernel
theorem dX11_firstOf_14 : decode cX11_firstOf 14 = .ok (.iload_n 3, 1) := by decide +kernel
theorem dX11_firstOf_15 : decode cX11_firstOf 15 = .ok (.iaload, 1) := by decide +kernel
theorem dX11_firstOf_16 : decode cX11_firstOf 16 = .ok (.iload_n 1, 1) := by decide +kernel
theorem dX11_firstOf_17 : decode cX11_firstOf 17 = .ok (.if_icmp .ne 17, 3) := by decide +kernel
theorem dX11_firstOf_20 : decode cX11_firstOf 20 = .ok (.iload_n 2, 1) := by decide +kernel
theorem dX11_firstOf_21 : decode cX11_firstOf 21 = .ok (.ifCond .eq 11, 3) := by decide +kernel
theorem dX11_firstOf_24 : decode cX11_firstOf 24 = .ok (.iload_n 3, 1) := by decide +kernel
theorem dX11_firstOf_25 : decode cX11_firstOf 25 = .ok (.invokestatic 225, 3) := by decide +kernel
theorem dX11_firstOf_28 : decode cX11_firstOf 28 = .ok (.iload_n 2, 1) := by decide +kernel
theorem dX11_firstOf_29 : decode cX11_firstOf 29 = .ok (.if_icmp .ne 5, 3) := by decide +kernel
theorem dX11_firstOf_32 : decode cX11_firstOf 32 = .ok (.iload_n 3, 1) := by decide +kernel
theorem dX11_firstOf_33 : decode cX11_firstOf 33 = .ok (.ireturn, 1) := by decide +kernel
theorem dX11_firstOf_34 : decode cX11_firstOf 34 = .ok (.iinc 3 1, 3) := by decide +kernel
theorem dX11_firstOf_37 : decode cX11_firstOf 37 = .ok (.goto (-35), 3) := by decide +kernel
theorem dX11_firstOf_40 : decode cX11_firstOf 40 = .ok (.iconst 0, 1) := by decide +kernel
theorem dX11_firstOf_41 : decode cX11_firstOf 41 = .ok (.ireturn, 1) := by decide +kernel
theorem dX11_found_0 : decode cX11_found 0 = .ok (.aload_n 0, 1) := by decide +kernel
theorem dX11_found_1 : decode cX11_found 1 = .ok (.iconst 0, 1) := by decide +kernel
theorem dX11_found_2 : decode cX11_found 2 = .ok (.putfield 1, 3) := by decide +kernel
theorem dX11_found_5 : decode cX11_found 5 = .ok (.aload_n 0, 1) := by decide +kernel
theorem dX11_found_6 : decode cX11_found 6 = .ok (.iload_n 1, 1) := by decide +kernel
theorem dX11_found_7 : decode cX11_found 7 = .ok (.invokevirtual 219, 3) := by decide +kernel
theorem dX11_found_10 : decode cX11_found 10 = .ok (.ifCond .eq 12, 3) := by decide +kernel
theorem dX11_found_13 : decode cX11_found 13 = .ok (.iload_n 2, 1) := by decide +kernel
theorem dX11_found_14 : decode cX11_found 14 = .ok (.iconst 0, 1) := by decide +kernel
theorem dX11_found_15 : decode cX11_found 15 = .ok (.iconst 1, 1) := by decide +kernel
theorem dX11_found_16 : decode cX11_found 16 = .ok (.invokestatic 157, 3) := by decide +kernel
theorem dX11_found_19 : decode cX11_found 19 = .ok (.ifCond .ne 5, 3) := by decide +kernel
theorem dX11_found_22 : decode cX11_found 22 = .ok (.iconst (-1), 1) := by decide +kernel
theorem dX11_found_23 : decode cX11_found 23 = .ok (.ireturn, 1) := by decide +kernel
theorem dX11_found_24 : decode cX11_found 24 = .ok (.aload_n 0, 1) := by decide +kernel
theorem dX11_found_25 : decode cX11_found 25 = .ok (.invokevirtual 213, 3) := by decide +kernel
theorem dX11_found_28 : decode cX11_found 28 = .ok (.iconst 1, 1) := by decide +kernel
theorem dX11_found_29 : decode cX11_found 29 = .ok (.istore_n 3, 1) := by decide +kernel
theorem dX11_found_30 : decode cX11_found 30 = .ok (.iload_n 3, 1) := by decide +kernel
theorem dX11_found_31 : decode cX11_found 31 = .ok (.aload_n 0, 1) := by decide +kernel
theorem dX11_found_32 : decode cX11_found 32 = .ok (.invokevirtual 190, 3) := by decide +kernel
theorem dX11_found_35 : decode cX11_found 35 = .ok (.if_icmp .gt 33, 3) := by decide +kernel
theorem dX11_found_38 : decode cX11_found 38 = .ok (.aload_n 0, 1) := by decide +kernel
theorem dX11_found_39 : decode cX11_found 39 = .ok (.iload_n 1, 1) := by decide +kernel
theorem dX11_found_40 : decode cX11_found 40 = .ok (.iload_n 3, 1) := by decide +kernel
theorem dX11_found_41 : decode cX11_found 41 = .ok (.invokevirtual 228, 3) := by decide +kernel
theorem dX11_found_44 : decode cX11_found 44 = .ok (.ifCond .eq 18, 3) := by decide +kernel
theorem dX11_found_47 : decode cX11_found 47 = .ok (.iload_n 2, 1) := by decide +kernel
theorem dX11_found_48 : decode cX11_found 48 = .ok (.ifCond .ne 7, 3) := by decide +kernel
theorem dX11_found_51 : decode cX11_found 51 = .ok (.iload_n 3, 1) := by decide +kernel
theorem dX11_found_52 : decode cX11_found 52 = .ok (.goto 9, 3) := by decide +kernel
theorem dX11_found_55 : decode cX11_found 55 = .ok (.aload_n 0, 1) := by decide +kernel
theorem dX11_found_56 : decode cX11_found 56 = .ok (.iload_n 1, 1) := by decide +kernel
theorem dX11_found_57 : decode cX11_found 57 = .ok (.iload_n 3, 1) := by decide +kernel
theorem dX11_found_58 : decode cX11_found 58 = .ok (.invokevirtual 228, 3) := by decide +kernel
theorem dX11_found_61 : decode cX11_found 61 = .ok (.ireturn, 1) := by decide +kernel
theorem dX11_found_62 : decode cX11_found 62 = .ok (.iinc 3 1, 3) := by decide +kernel
theorem dX11_found_65 : decode cX11_found 65 = .ok (.goto (-35), 3) := by decide +kernel
theorem dX11_found_68 : decode cX11_found 68 = .ok (.iconst (-1), 1) := by decide +kernel
theorem dX11_found_69 : decode cX11_found 69 = .ok (.ireturn, 1) := by decide +kernel
theorem dX11_ways_0 : decode cX11_ways 0 = .ok (.aload_n 0, 1) := by decide +kernel
theorem dX11_ways_1 : decode cX11_ways 1 = .ok (.iconst 0, 1) := by decide +kernel
theorem dX11_ways_2 : decode cX11_ways 2 = .ok (.putfield 1, 3) := by decide +kernel
theorem dX11_ways_5 : decode cX11_ways 5 = .ok (.aload_n 0, 1) := by decide +kernel
theorem dX11_ways_6 : decode cX11_ways 6 = .ok (.iload_n 1, 1) := by decide +kernel
theorem dX11_ways_7 : decode cX11_ways 7 = .ok (.invokevirtual 219, 3) := by decide +kernel
theorem dX11_ways_10 : decode cX11_ways 10 = .ok (.ifCond .eq 15, 3) := by decide +kernel
theorem dX11_ways_13 : decode cX11_ways 13 = .ok (.iload_n 2, 1) := by decide +kernel
theorem dX11_ways_14 : decode cX11_ways 14 = .ok (.iconst 0, 1) := by decide +kernel
theorem dX11_ways_15 : decode cX11_ways 15 = .ok (.aload_n 0, 1) := by decide +kernel
theorem dX11_ways_16 : decode cX11_ways 16 = .ok (.invokevirtual 190, 3) := by decide +kernel
theorem dX11_ways_19 : decode cX11_ways 19 = .ok (.invokestatic 157, 3) := by decide +kernel
theorem dX11_ways_22 : decode cX11_ways 22 = .ok (.ifCond .ne 5, 3) := by decide +kernel
theorem dX11_ways_25 : decode cX11_ways 25 = .ok (.iconst (-1), 1) := by decide +kernel
theorem dX11_ways_26 : decode cX11_ways 26 = .ok (.ireturn, 1) := by decide +kernel
theorem dX11_ways_27 : decode cX11_ways 27 = .ok (.aload_n 0, 1) := by decide +kernel
theorem dX11_ways_28 : decode cX11_ways 28 = .ok (.invokevirtual 213, 3) := by decide +kernel
theorem dX11_ways_31 : decode cX11_ways 31 = .ok (.iconst 0, 1) := by decide +kernel
theorem dX11_ways_32 : decode cX11_ways 32 = .ok (.istore_n 3, 1) := by decide +kernel
theorem dX11_ways_33 : decode cX11_ways 33 = .ok (.iconst 1, 1) := by decide +kernel
theorem dX11_ways_34 : decode cX11_ways 34 = .ok (.istore 4, 2) := by decide +kernel
theorem dX11_ways_36 : decode cX11_ways 36 = .ok (.iload 4, 2) := by decide +kernel
theorem dX11_ways_38 : decode cX11_ways 38 = .ok (.aload_n 0, 1) := by decide +kernel
theorem dX11_ways_39 : decode cX11_ways 39 = .ok (.invokevirtual 204, 3) := by decide +kernel
theorem dX11_ways_42 : decode cX11_ways 42 = .ok (.if_icmp .gt 36, 3) := by decide +kernel
theorem dX11_ways_45 : decode cX11_ways 45 = .ok (.aload_n 0, 1) := by decide +kernel
theorem dX11_ways_46 : decode cX11_ways 46 = .ok (.getfield 107, 3) := by decide +kernel
theorem dX11_ways_49 : decode cX11_ways 49 = .ok (.iload 4, 2) := by decide +kernel
theorem dX11_ways_51 : decode cX11_ways 51 = .ok (.iaload, 1) := by decide +kernel
theorem dX11_ways_52 : decode cX11_ways 52 = .ok (.iload_n 1, 1) := by decide +kernel
theorem dX11_ways_53 : decode cX11_ways 53 = .ok (.if_icmp .ne 19, 3) := by decide +kernel
theorem dX11_ways_56 : decode cX11_ways 56 = .ok (.iload_n 2, 1) := by decide +kernel
theorem dX11_ways_57 : decode cX11_ways 57 = .ok (.ifCond .eq 12, 3) := by decide +kernel
theorem dX11_ways_60 : decode cX11_ways 60 = .ok (.iload 4, 2) := by decide +kernel
theorem dX11_ways_62 : decode cX11_ways 62 = .ok (.invokestatic 225, 3) := by decide +kernel
theorem dX11_ways_65 : decode cX11_ways 65 = .ok (.iload_n 2, 1) := by decide +kernel
theorem dX11_ways_66 : decode cX11_ways 66 = .ok (.if_icmp .ne 6, 3) := by decide +kernel
theorem dX11_ways_69 : decode cX11_ways 69 = .ok (.iinc 3 1, 3) := by decide +kernel
theorem dX11_ways_72 : decode cX11_ways 72 = .ok (.iinc 4 1, 3) := by decide +kernel
theorem dX11_ways_75 : decode cX11_ways 75 = .ok (.goto (-39), 3) := by decide +kernel
theorem dX11_ways_78 : decode cX11_ways 78 = .ok (.iload_n 3, 1) := by decide +kernel
theorem dX11_ways_79 : decode cX11_ways 79 = .ok (.ireturn, 1) := by decide +kernel
theorem dX11_exactly_0 : decode cX11_exactly 0 = .ok (.aload_n 0, 1) := by decide +kernel
theorem dX11_exactly_1 : decode cX11_exactly 1 = .ok (.iconst 0, 1) := by decide +kernel
theorem dX11_exactly_2 : decode cX11_exactly 2 = .ok (.putfield 1, 3) := by decide +kernel
theorem dX11_exactly_5 : decode cX11_exactly 5 = .ok (.aload_n 0, 1) := by decide +kernel
theorem dX11_exactly_6 : decode cX11_exactly 6 = .ok (.iload_n 1, 1) := by decide +kernel
theorem dX11_exactly_7 : decode cX11_exactly 7 = .ok (.invokevirtual 219, 3) := by decide +kernel
theorem dX11_exactly_10 : decode cX11_exactly 10 = .ok (.ifCond .eq 15, 3) := by decide +kernel
theorem dX11_exactly_13 : decode cX11_exactly 13 = .ok (.iload_n 2, 1) := by decide +kernel
theorem dX11_exactly_14 : decode cX11_exactly 14 = .ok (.iconst 1, 1) := by decide +kernel
theorem dX11_exactly_15 : decode cX11_exactly 15 = .ok (.aload_n 0, 1) := by decide +kernel
theorem dX11_exactly_16 : decode cX11_exactly 16 = .ok (.invokevirtual 190, 3) := by decide +kernel
theorem dX11_exactly_19 : decode cX11_exactly 19 = .ok (.invokestatic 157, 3) := by decide +kernel
theorem dX11_exactly_22 : decode cX11_exactly 22 = .ok (.ifCond .ne 5, 3) := by decide +kernel
theorem dX11_exactly_25 : decode cX11_exactly 25 = .ok (.iconst (-1), 1) := by decide +kernel
theorem dX11_exactly_26 : decode cX11_exactly 26 = .ok (.ireturn, 1) := by decide +kernel
theorem dX11_exactly_27 : decode cX11_exactly 27 = .ok (.aload_n 0, 1) := by decide +kernel
theorem dX11_exactly_28 : decode cX11_exactly 28 = .ok (.invokevirtual 213, 3) := by decide +kernel
theorem dX11_exactly_31 : decode cX11_exactly 31 = .ok (.aload_n 0, 1) := by decide +kernel
theorem dX11_exactly_32 : decode cX11_exactly 32 = .ok (.iload_n 1, 1) := by decide +kernel
theorem dX11_exactly_33 : decode cX11_exactly 33 = .ok (.iload_n 2, 1) := by decide +kernel
theorem dX11_exactly_34 : decode cX11_exactly 34 = .ok (.invokevirtual 228, 3) := by decide +kernel
theorem dX11_exactly_37 : decode cX11_exactly 37 = .ok (.ifCond .ne 7, 3) := by decide +kernel
theorem dX11_exactly_40 : decode cX11_exactly 40 = .ok (.iconst (-1), 1) := by decide +kernel
theorem dX11_exactly_41 : decode cX11_exactly 41 = .ok (.goto 9, 3) := by decide +kernel
theorem dX11_exactly_44 : decode cX11_exactly 44 = .ok (.aload_n 0, 1) := by decide +kernel
theorem dX11_exactly_45 : decode cX11_exactly 45 = .ok (.iload_n 1, 1) := by decide +kernel
theorem dX11_exactly_46 : decode cX11_exactly 46 = .ok (.iload_n 2, 1) := by decide +kernel
theorem dX11_exactly_47 : decode cX11_exactly 47 = .ok (.invokevirtual 228, 3) := by decide +kernel
theorem dX11_exactly_50 : decode cX11_exactly 50 = .ok (.ireturn, 1) := by decide +kernel
theorem dX11_run_0 : decode cX11_run 0 = .ok (.aload_n 0, 1) := by decide +kernel
theorem dX11_run_1 : decode cX11_run 1 = .ok (.iconst 0, 1) := by decide +kernel
theorem dX11_run_2 : decode cX11_run 2 = .ok (.putfield 1, 3) := by decide +kernel
theorem dX11_run_5 : decode cX11_run 5 = .ok (.aload_n 0, 1) := by decide +kernel
theorem dX11_run_6 : decode cX11_run 6 = .ok (.iload_n 1, 1) := by decide +kernel
theorem dX11_run_7 : decode cX11_run 7 = .ok (.invokevirtual 219, 3) := by decide +kernel
theorem dX11_run_10 : decode cX11_run 10 = .ok (.ifCond .eq 12, 3) := by decide +kernel
theorem dX11_run_13 : decode cX11_run 13 = .ok (.iload_n 2, 1) := by decide +kernel
theorem dX11_run_14 : decode cX11_run 14 = .ok (.iconst 0, 1) := by decide +kernel
theorem dX11_run_15 : decode cX11_run 15 = .ok (.iconst 1, 1) := by decide +kernel
theorem dX11_run_16 : decode cX11_run 16 = .ok (.invokestatic 157, 3) := by decide +kernel
theorem dX11_run_19 : decode cX11_run 19 = .ok (.ifCond .ne 5, 3) := by decide +kernel
theorem dX11_run_22 : decode cX11_run 22 = .ok (.iconst (-1), 1) := by decide +kernel
theorem dX11_run_23 : decode cX11_run 23 = .ok (.ireturn, 1) := by decide +kernel
theorem dX11_run_24 : decode cX11_run 24 = .ok (.iconst 0, 1) := by decide +kernel
theorem dX11_run_25 : decode cX11_run 25 = .ok (.istore_n 3, 1) := by decide +kernel
theorem dX11_run_26 : decode cX11_run 26 = .ok (.iload_n 3, 1) := by decide +kernel
theorem dX11_run_27 : decode cX11_run 27 = .ok (.aload_n 0, 1) := by decide +kernel
theorem dX11_run_28 : decode cX11_run 28 = .ok (.invokevirtual 190, 3) := by decide +kernel
theorem dX11_run_31 : decode cX11_run 31 = .ok (.if_icmp .ge 68, 3) := by decide +kernel
theorem dX11_run_34 : decode cX11_run 34 = .ok (.iconst 0, 1) := by decide +kernel
theorem dX11_run_35 : decode cX11_run 35 = .ok (.istore 4, 2) := by decide +kernel
theorem dX11_run_37 : decode cX11_run 37 = .ok (.iload_n 3, 1) := by decide +kernel
theorem dX11_run_38 : decode cX11_run 38 = .ok (.istore 5, 2) := by decide +kernel
theorem dX11_run_40 : decode cX11_run 40 = .ok (.iload 5, 2) := by decide +kernel
theorem dX11_run_42 : decode cX11_run 42 = .ok (.aload_n 0, 1) := by decide +kernel
theorem dX11_run_43 : decode cX11_run 43 = .ok (.invokevirtual 190, 3) := by decide +kernel
theorem dX11_run_46 : decode cX11_run 46 = .ok (.if_icmp .ge 47, 3) := by decide +kernel
theorem dX11_run_49 : decode cX11_run 49 = .ok (.aload_n 0, 1) := by decide +kernel
theorem dX11_run_50 : decode cX11_run 50 = .ok (.iload 4, 2) := by decide +kernel
theorem dX11_run_52 : decode cX11_run 52 = .ok (.aload_n 0, 1) := by decide +kernel
theorem dX11_run_53 : decode cX11_run 53 = .ok (.getfield 85, 3) := by decide +kernel
theorem dX11_run_56 : decode cX11_run 56 = .ok (.iconst 5, 1) := by decide +kernel
theorem dX11_run_57 : decode cX11_run 57 = .ok (.iload 5, 2) := by decide +kernel
theorem dX11_run_59 : decode cX11_run 59 = .ok (.iadd, 1) := by decide +kernel
theorem dX11_run_60 : decode cX11_run 60 = .ok (.iaload, 1) := by decide +kernel
theorem dX11_run_61 : decode cX11_run 61 = .ok (.invokevirtual 201, 3) := by decide +kernel
theorem dX11_run_64 : decode cX11_run 64 = .ok (.istore 4, 2) := by decide +kernel
theorem dX11_run_66 : decode cX11_run 66 = .ok (.iload 4, 2) := by decide +kernel
theorem dX11_run_68 : decode cX11_run 68 = .ok (.iload_n 1, 1) := by decide +kernel
theorem dX11_run_69 : decode cX11_run 69 = .ok (.if_icmp .ne 18, 3) := by decide +kernel
theorem dX11_run_72 : decode cX11_run 72 = .ok (.iload_n 2, 1) := by decide +kernel
theorem dX11_run_73 : decode cX11_run 73 = .ok (.ifCond .ne 7, 3) := by decide +kernel
theorem dX11_run_76 : decode cX11_run 76 = .ok (.iload_n 3, 1) := by decide +kernel
theorem dX11_run_77 : decode cX11_run 77 = .ok (.goto 9, 3) := by decide +kernel
theorem dX11_run_80 : decode cX11_run 80 = .ok (.iload 5, 2) := by decide +kernel
theorem dX11_run_82 : decode cX11_run 82 = .ok (.iload_n 3, 1) := by decide +kernel
theorem dX11_run_83 : decode cX11_run 83 = .ok (.isub, 1) := by decide +kernel
theorem dX11_run_84 : decode cX11_run 84 = .ok (.iconst 1, 1) := by decide +kernel
theorem dX11_run_85 : decode cX11_run 85 = .ok (.iadd, 1) := by decide +kernel
theorem dX11_run_86 : decode cX11_run 86 = .ok (.ireturn, 1) := by decide +kernel
theorem dX11_run_87 : decode cX11_run 87 = .ok (.iinc 5 1, 3) := by decide +kernel
theorem dX11_run_90 : decode cX11_run 90 = .ok (.goto (-50), 3) := by decide +kernel
theorem dX11_run_93 : decode cX11_run 93 = .ok (.iinc 3 1, 3) := by decide +kernel
theorem dX11_run_96 : decode cX11_run 96 = .ok (.goto (-70), 3) := by decide +kernel
theorem dX11_run_99 : decode cX11_run 99 = .ok (.iconst (-1), 1) := by decide +kernel
theorem dX11_run_100 : decode cX11_run 100 = .ok (.ireturn, 1) := by decide +kernel
theorem dX11_laysBears_0 : decode cX11_laysBears 0 = .ok (.aload_n 0, 1) := by decide +kernel
theorem dX11_laysBears_1 : decode cX11_laysBears 1 = .ok (.invokevirtual 213, 3) := by decide +kernel
theorem dX11_laysBears_4 : decode cX11_laysBears 4 = .ok (.aload_n 0, 1) := by decide +kernel
theorem dX11_laysBears_5 : decode cX11_laysBears 5 = .ok (.getfield 110, 3) := by decide +kernel
theorem dX11_laysBears_8 : decode cX11_laysBears 8 = .ok (.iconst 0, 1) := by decide +kernel
theorem dX11_laysBears_9 : decode cX11_laysBears 9 = .ok (.iconst 0, 1) := by decide +kernel
theorem dX11_laysBears_10 : decode cX11_laysBears 10 = .ok (.bastore, 1) := by decide +kernel
theorem dX11_laysBears_11 : decode cX11_laysBears 11 = .ok (.iconst 1, 1) := by decide +kernel
theorem dX11_laysBears_12 : decode cX11_laysBears 12 = .ok (.istore_n 1, 1) := by decide +kernel
theorem dX11_laysBears_13 : decode cX11_laysBears 13 = .ok (.iload_n 1, 1) := by decide +kernel
theorem dX11_laysBears_14 : decode cX11_laysBears 14 = .ok (.aload_n 0, 1) := by decide +kernel
theorem dX11_laysBears_15 : decode cX11_laysBears 15 = .ok (.invokevirtual 204, 3) := by decide +kernel
theorem dX11_laysBears_18 : decode cX11_laysBears 18 = .ok (.if_icmp .gt 75, 3) := by decide +kernel
theorem dX11_laysBears_21 : decode cX11_laysBears 21 = .ok (.aload_n 0, 1) := by decide +kernel
theorem dX11_laysBears_22 : decode cX11_laysBears 22 = .ok (.getfield 110, 3) := by decide +kernel
theorem dX11_laysBears_25 : decode cX11_laysBears 25 = .ok (.iload_n 1, 1) := by decide +kernel
theorem dX11_laysBears_26 : decode cX11_laysBears 26 = .ok (.aload_n 0, 1) := by decide +kernel
theorem dX11_laysBears_27 : decode cX11_laysBears 27 = .ok (.getfield 107, 3) := by decide +kernel
theorem dX11_laysBears_30 : decode cX11_laysBears 30 = .ok (.iload_n 1, 1) := by decide +kernel
theorem dX11_laysBears_31 : decode cX11_laysBears 31 = .ok (.iaload, 1) := by decide +kernel
theorem dX11_laysBears_32 : decode cX11_laysBears 32 = .ok (.ifCond .ne 7, 3) := by decide +kernel
theorem dX11_laysBears_35 : decode cX11_laysBears 35 = .ok (.iconst 1, 1) := by decide +kernel
theorem dX11_laysBears_36 : decode cX11_laysBears 36 = .ok (.goto 4, 3) := by decide +kernel
theorem dX11_laysBears_39 : decode cX11_laysBears 39 = .ok (.iconst 0, 1) := by decide +kernel
theorem dX11_laysBears_40 : decode cX11_laysBears 40 = .ok (.bastore, 1) := by decide +kernel
theorem dX11_laysBears_41 : decode cX11_laysBears 41 = .ok (.iconst 0, 1) := by decide +kernel
theorem dX11_laysBears_42 : decode cX11_laysBears 42 = .ok (.istore_n 2, 1) := by decide +kernel
theorem dX11_laysBears_43 : decode cX11_laysBears 43 = .ok (.iload_n 2, 1) := by decide +kernel
theorem dX11_laysBears_44 : decode cX11_laysBears 44 = .ok (.aload_n 0, 1) := by decide +kernel
theorem dX11_laysBears_45 : decode cX11_laysBears 45 = .ok (.invokevirtual 190, 3) := by decide +kernel
theorem dX11_laysBears_48 : decode cX11_laysBears 48 = .ok (.if_icmp .ge 39, 3) := by decide +kernel
theorem dX11_laysBears_51 : decode cX11_laysBears 51 = .ok (.iload_n 1, 1) := by decide +kernel
theorem dX11_laysBears_52 : decode cX11_laysBears 52 = .ok (.iload_n 2, 1) := by decide +kernel
theorem dX11_laysBears_53 : decode cX11_laysBears 53 = .ok (.invokestatic 7, 3) := by decide +kernel
theorem dX11_laysBears_56 : decode cX11_laysBears 56 = .ok (.ifCond .eq 25, 3) := by decide +kernel
theorem dX11_laysBears_59 : decode cX11_laysBears 59 = .ok (.aload_n 0, 1) := by decide +kernel
theorem dX11_laysBears_60 : decode cX11_laysBears 60 = .ok (.getfield 110, 3) := by decide +kernel
theorem dX11_laysBears_63 : decode cX11_laysBears 63 = .ok (.iload_n 1, 1) := by decide +kernel
theorem dX11_laysBears_64 : decode cX11_laysBears 64 = .ok (.iconst 1, 1) := by decide +kernel
theorem dX11_laysBears_65 : decode cX11_laysBears 65 = .ok (.iload_n 2, 1) := by decide +kernel
theorem dX11_laysBears_66 : decode cX11_laysBears 66 = .ok (.ishl, 1) := by decide +kernel
theorem dX11_laysBears_67 : decode cX11_laysBears 67 = .ok (.iconst (-1), 1) := by decide +kernel
theorem dX11_laysBears_68 : decode cX11_laysBears 68 = .ok (.ixor, 1) := by decide +kernel
theorem dX11_laysBears_69 : decode cX11_laysBears 69 = .ok (.iand, 1) := by decide +kernel
theorem dX11_laysBears_70 : decode cX11_laysBears 70 = .ok (.baload, 1) := by decide +kernel
theorem dX11_laysBears_71 : decode cX11_laysBears 71 = .ok (.ifCond .eq 10, 3) := by decide +kernel
theorem dX11_laysBears_74 : decode cX11_laysBears 74 = .ok (.aload_n 0, 1) := by decide +kernel
theorem dX11_laysBears_75 : decode cX11_laysBears 75 = .ok (.getfield 110, 3) := by decide +kernel
theorem dX11_laysBears_78 : decode cX11_laysBears 78 = .ok (.iload_n 1, 1) := by decide +kernel
theorem dX11_laysBears_79 : decode cX11_laysBears 79 = .ok (.iconst 1, 1) := by decide +kernel
theorem dX11_laysBears_80 : decode cX11_laysBears 80 = .ok (.bastore, 1) := by decide +kernel
theorem dX11_laysBears_81 : decode cX11_laysBears 81 = .ok (.iinc 2 1, 3) := by decide +kernel
theorem dX11_laysBears_84 : decode cX11_laysBears 84 = .ok (.goto (-41), 3) := by decide +kernel
theorem dX11_laysBears_87 : decode cX11_laysBears 87 = .ok (.iinc 1 1, 3) := by decide +kernel
theorem dX11_laysBears_90 : decode cX11_laysBears 90 = .ok (.goto (-77), 3) := by decide +kernel
theorem dX11_laysBears_93 : decode cX11_laysBears 93 = .ok (.return_, 1) := by decide +kernel
theorem dX11_isAtom_0 : decode cX11_isAtom 0 = .ok (.iload_n 1, 1) := by decide +kernel
theorem dX11_isAtom_1 : decode cX11_isAtom 1 = .ok (.ifCond .eq 12, 3) := by decide +kernel
theorem dX11_isAtom_4 : decode cX11_isAtom 4 = .ok (.aload_n 0, 1) := by decide +kernel
theorem dX11_isAtom_5 : decode cX11_isAtom 5 = .ok (.getfield 107, 3) := by decide +kernel
theorem dX11_isAtom_8 : decode cX11_isAtom 8 = .ok (.iload_n 1, 1) := by decide +kernel
theorem dX11_isAtom_9 : decode cX11_isAtom 9 = .ok (.iaload, 1) := by decide +kernel
theorem dX11_isAtom_10 : decode cX11_isAtom 10 = .ok (.ifCond .eq 5, 3) := by decide +kernel
theorem dX11_isAtom_13 : decode cX11_isAtom 13 = .ok (.iconst 0, 1) := by decide +kernel
theorem dX11_isAtom_14 : decode cX11_isAtom 14 = .ok (.ireturn, 1) := by decide +kernel
theorem dX11_isAtom_15 : decode cX11_isAtom 15 = .ok (.iconst 0, 1) := by decide +kernel
theorem dX11_isAtom_16 : decode cX11_isAtom 16 = .ok (.istore_n 2, 1) := by decide +kernel
theorem dX11_isAtom_17 : decode cX11_isAtom 17 = .ok (.iload_n 2, 1) := by decide +kernel
theorem dX11_isAtom_18 : decode cX11_isAtom 18 = .ok (.aload_n 0, 1) := by decide +kernel
theorem dX11_isAtom_19 : decode cX11_isAtom 19 = .ok (.invokevirtual 190, 3) := by decide +kernel
theorem dX11_isAtom_22 : decode cX11_isAtom 22 = .ok (.if_icmp .ge 34, 3) := by decide +kernel
theorem dX11_isAtom_25 : decode cX11_isAtom 25 = .ok (.iload_n 1, 1) := by decide +kernel
theorem dX11_isAtom_26 : decode cX11_isAtom 26 = .ok (.iload_n 2, 1) := by decide +kernel
theorem dX11_isAtom_27 : decode cX11_isAtom 27 = .ok (.invokestatic 7, 3) := by decide +kernel
theorem dX11_isAtom_30 : decode cX11_isAtom 30 = .ok (.ifCond .eq 20, 3) := by decide +kernel
theorem dX11_isAtom_33 : decode cX11_isAtom 33 = .ok (.aload_n 0, 1) := by decide +kernel
theorem dX11_isAtom_34 : decode cX11_isAtom 34 = .ok (.getfield 110, 3) := by decide +kernel
theorem dX11_isAtom_37 : decode cX11_isAtom 37 = .ok (.iload_n 1, 1) := by decide +kernel
theorem dX11_isAtom_38 : decode cX11_isAtom 38 = .ok (.iconst 1, 1) := by decide +kernel
theorem dX11_isAtom_39 : decode cX11_isAtom 39 = .ok (.iload_n 2, 1) := by decide +kernel
theorem dX11_isAtom_40 : decode cX11_isAtom 40 = .ok (.ishl, 1) := by decide +kernel
theorem dX11_isAtom_41 : decode cX11_isAtom 41 = .ok (.iconst (-1), 1) := by decide +kernel
theorem dX11_isAtom_42 : decode cX11_isAtom 42 = .ok (.ixor, 1) := by decide +kernel
theorem dX11_isAtom_43 : decode cX11_isAtom 43 = .ok (.iand, 1) := by decide +kernel
theorem dX11_isAtom_44 : decode cX11_isAtom 44 = .ok (.baload, 1) := by decide +kernel
theorem dX11_isAtom_45 : decode cX11_isAtom 45 = .ok (.ifCond .eq 5, 3) := by decide +kernel
theorem dX11_isAtom_48 : decode cX11_isAtom 48 = .ok (.iconst 0, 1) := by decide +kernel
theorem dX11_isAtom_49 : decode cX11_isAtom 49 = .ok (.ireturn, 1) := by decide +kernel
theorem dX11_isAtom_50 : decode cX11_isAtom 50 = .ok (.iinc 2 1, 3) := by decide +kernel
theorem dX11_isAtom_53 : decode cX11_isAtom 53 = .ok (.goto (-36), 3) := by decide +kernel
theorem dX11_isAtom_56 : decode cX11_isAtom 56 = .ok (.iconst 1, 1) := by decide +kernel
theorem dX11_isAtom_57 : decode cX11_isAtom 57 = .ok (.ireturn, 1) := by decide +kernel
theorem dX11_mayCome_0 : decode cX11_mayCome 0 = .ok (.aload_n 0, 1) := by decide +kernel
theorem dX11_mayCome_1 : decode cX11_mayCome 1 = .ok (.getfield 110, 3) := by decide +kernel
theorem dX11_mayCome_4 : decode cX11_mayCome 4 = .ok (.aload_n 0, 1) := by decide +kernel
theorem dX11_mayCome_5 : decode cX11_mayCome 5 = .ok (.invokevirtual 204, 3) := by decide +kernel
theorem dX11_mayCome_8 : decode cX11_mayCome 8 = .ok (.baload, 1) := by decide +kernel
theorem dX11_mayCome_9 : decode cX11_mayCome 9 = .ok (.ifCond .eq 5, 3) := by decide +kernel
theorem dX11_mayCome_12 : decode cX11_mayCome 12 = .ok (.iconst 0, 1) := by decide +kernel
theorem dX11_mayCome_13 : decode cX11_mayCome 13 = .ok (.ireturn, 1) := by decide +kernel
theorem dX11_mayCome_14 : decode cX11_mayCome 14 = .ok (.iconst 1, 1) := by decide +kernel
theorem dX11_mayCome_15 : decode cX11_mayCome 15 = .ok (.istore_n 1, 1) := by decide +kernel
theorem dX11_mayCome_16 : decode cX11_mayCome 16 = .ok (.iconst 1, 1) := by decide +kernel
theorem dX11_mayCome_17 : decode cX11_mayCome 17 = .ok (.istore_n 2, 1) := by decide +kernel
theorem dX11_mayCome_18 : decode cX11_mayCome 18 = .ok (.iload_n 2, 1) := by decide +kernel
theorem dX11_mayCome_19 : decode cX11_mayCome 19 = .ok (.aload_n 0, 1) := by decide +kernel
theorem dX11_mayCome_20 : decode cX11_mayCome 20 = .ok (.invokevirtual 204, 3) := by decide +kernel
theorem dX11_mayCome_23 : decode cX11_mayCome 23 = .ok (.if_icmp .gt 20, 3) := by decide +kernel
theorem dX11_mayCome_26 : decode cX11_mayCome 26 = .ok (.iload_n 1, 1) := by decide +kernel
theorem dX11_mayCome_27 : decode cX11_mayCome 27 = .ok (.iconst 1, 1) := by decide +kernel
theorem dX11_mayCome_28 : decode cX11_mayCome 28 = .ok (.aload_n 0, 1) := by decide +kernel
theorem dX11_mayCome_29 : decode cX11_mayCome 29 = .ok (.getfield 107, 3) := by decide +kernel
theorem dX11_mayCome_32 : decode cX11_mayCome 32 = .ok (.iload_n 2, 1) := by decide +kernel
theorem dX11_mayCome_33 : decode cX11_mayCome 33 = .ok (.iaload, 1) := by decide +kernel
theorem dX11_mayCome_34 : decode cX11_mayCome 34 = .ok (.ishl, 1) := by decide +kernel
theorem dX11_mayCome_35 : decode cX11_mayCome 35 = .ok (.ior, 1) := by decide +kernel
theorem dX11_mayCome_36 : decode cX11_mayCome 36 = .ok (.istore_n 1, 1) := by decide +kernel
theorem dX11_mayCome_37 : decode cX11_mayCome 37 = .ok (.iinc 2 1, 3) := by decide +kernel
theorem dX11_mayCome_40 : decode cX11_mayCome 40 = .ok (.goto (-22), 3) := by decide +kernel
theorem dX11_mayCome_43 : decode cX11_mayCome 43 = .ok (.iconst 0, 1) := by decide +kernel
theorem dX11_mayCome_44 : decode cX11_mayCome 44 = .ok (.istore_n 2, 1) := by decide +kernel
theorem dX11_mayCome_45 : decode cX11_mayCome 45 = .ok (.iconst 0, 1) := by decide +kernel
theorem dX11_mayCome_46 : decode cX11_mayCome 46 = .ok (.istore_n 3, 1) := by decide +kernel
theorem dX11_mayCome_47 : decode cX11_mayCome 47 = .ok (.iload_n 3, 1) := by decide +kernel
theorem dX11_mayCome_48 : decode cX11_mayCome 48 = .ok (.aload_n 0, 1) := by decide +kernel
theorem dX11_mayCome_49 : decode cX11_mayCome 49 = .ok (.invokevirtual 186, 3) := by decide +kernel
theorem dX11_mayCome_52 : decode cX11_mayCome 52 = .ok (.if_icmp .ge 27, 3) := by decide +kernel
theorem dX11_mayCome_55 : decode cX11_mayCome 55 = .ok (.iload_n 1, 1) := by decide +kernel
theorem dX11_mayCome_56 : decode cX11_mayCome 56 = .ok (.aload_n 0, 1) := by decide +kernel
theorem dX11_mayCome_57 : decode cX11_mayCome 57 = .ok (.iload_n 3, 1) := by decide +kernel
theorem dX11_mayCome_58 : decode cX11_mayCome 58 = .ok (.invokevirtual 231, 3) := by decide +kernel
theorem dX11_mayCome_61 : decode cX11_mayCome 61 = .ok (.invokestatic 7, 3) := by decide +kernel
theorem dX11_mayCome_64 : decode cX11_mayCome 64 = .ok (.ifCond .ne 9, 3) := by decide +kernel
theorem dX11_mayCome_67 : decode cX11_mayCome 67 = .ok (.iload_n 2, 1) := by decide +kernel
theorem dX11_mayCome_68 : decode cX11_mayCome 68 = .ok (.iconst 1, 1) := by decide +kernel
theorem dX11_mayCome_69 : decode cX11_mayCome 69 = .ok (.iload_n 3, 1) := by decide +kernel
theorem dX11_mayCome_70 : decode cX11_mayCome 70 = .ok (.ishl, 1) := by decide +kernel
theorem dX11_mayCome_71 : decode cX11_mayCome 71 = .ok (.ior, 1) := by decide +kernel
theorem dX11_mayCome_72 : decode cX11_mayCome 72 = .ok (.istore_n 2, 1) := by decide +kernel
theorem dX11_mayCome_73 : decode cX11_mayCome 73 = .ok (.iinc 3 1, 3) := by decide +kernel
theorem dX11_mayCome_76 : decode cX11_mayCome 76 = .ok (.goto (-29), 3) := by decide +kernel
theorem dX11_mayCome_79 : decode cX11_mayCome 79 = .ok (.iload_n 2, 1) := by decide +kernel
theorem dX11_mayCome_80 : decode cX11_mayCome 80 = .ok (.ireturn, 1) := by decide +kernel
theorem dX11_free_0 : decode cX11_free 0 = .ok (.aload_n 0, 1) := by decide +kernel
theorem dX11_free_1 : decode cX11_free 1 = .ok (.iconst 0, 1) := by decide +kernel
theorem dX11_free_2 : decode cX11_free 2 = .ok (.putfield 1, 3) := by decide +kernel
theorem dX11_free_5 : decode cX11_free 5 = .ok (.aload_n 0, 1) := by decide +kernel
theorem dX11_free_6 : decode cX11_free 6 = .ok (.invokevirtual 234, 3) := by decide +kernel
theorem dX11_free_9 : decode cX11_free 9 = .ok (.iload_n 1, 1) := by decide +kernel
theorem dX11_free_10 : decode cX11_free 10 = .ok (.tableswitch 66 0 2 #[26, 44, 61], 26) := by decide +kernel
theorem dX11_free_36 : decode cX11_free 36 = .ok (.aload_n 0, 1) := by decide +kernel
theorem dX11_free_37 : decode cX11_free 37 = .ok (.getfield 110, 3) := by decide +kernel
theorem dX11_free_40 : decode cX11_free 40 = .ok (.aload_n 0, 1) := by decide +kernel
theorem dX11_free_41 : decode cX11_free 41 = .ok (.invokevirtual 204, 3) := by decide +kernel
theorem dX11_free_44 : decode cX11_free 44 = .ok (.baload, 1) := by decide +kernel
theorem dX11_free_45 : decode cX11_free 45 = .ok (.ifCond .eq 7, 3) := by decide +kernel
theorem dX11_free_48 : decode cX11_free 48 = .ok (.iconst 0, 1) := by decide +kernel
theorem dX11_free_49 : decode cX11_free 49 = .ok (.goto 4, 3) := by decide +kernel
theorem dX11_free_52 : decode cX11_free 52 = .ok (.iconst 1, 1) := by decide +kernel
theorem dX11_free_53 : decode cX11_free 53 = .ok (.ireturn, 1) := by decide +kernel
theorem dX11_free_54 : decode cX11_free 54 = .ok (.aload_n 0, 1) := by decide +kernel
theorem dX11_free_55 : decode cX11_free 55 = .ok (.aload_n 0, 1) := by decide +kernel
theorem dX11_free_56 : decode cX11_free 56 = .ok (.invokevirtual 204, 3) := by decide +kernel
theorem dX11_free_59 : decode cX11_free 59 = .ok (.invokevirtual 237, 3) := by decide +kernel
theorem dX11_free_62 : decode cX11_free 62 = .ok (.ifCond .eq 7, 3) := by decide +kernel
theorem dX11_free_65 : decode cX11_free 65 = .ok (.iconst 1, 1) := by decide +kernel
theorem dX11_free_66 : decode cX11_free 66 = .ok (.goto 4, 3) := by decide +kernel
theorem dX11_free_69 : decode cX11_free 69 = .ok (.iconst 0, 1) := by decide +kernel
theorem dX11_free_70 : decode cX11_free 70 = .ok (.ireturn, 1) := by decide +kernel
theorem dX11_free_71 : decode cX11_free 71 = .ok (.aload_n 0, 1) := by decide +kernel
theorem dX11_free_72 : decode cX11_free 72 = .ok (.invokevirtual 240, 3) := by decide +kernel
theorem dX11_free_75 : decode cX11_free 75 = .ok (.ireturn, 1) := by decide +kernel
theorem dX11_free_76 : decode cX11_free 76 = .ok (.iconst (-1), 1) := by decide +kernel
theorem dX11_free_77 : decode cX11_free 77 = .ok (.ireturn, 1) := by decide +kernel
theorem dX11_laysAtoms_0 : decode cX11_laysAtoms 0 = .ok (.aload_n 0, 1) := by decide +kernel
theorem dX11_laysAtoms_1 : decode cX11_laysAtoms 1 = .ok (.invokevirtual 234, 3) := by decide +kernel
theorem dX11_laysAtoms_4 : decode cX11_laysAtoms 4 = .ok (.aload_n 0, 1) := by decide +kernel
theorem dX11_laysAtoms_5 : decode cX11_laysAtoms 5 = .ok (.getfield 113, 3) := by decide +kernel
theorem dX11_laysAtoms_8 : decode cX11_laysAtoms 8 = .ok (.iconst 0, 1) := by decide +kernel
theorem dX11_laysAtoms_9 : decode cX11_laysAtoms 9 = .ok (.iconst 0, 1) := by decide +kernel
theorem dX11_laysAtoms_10 : decode cX11_laysAtoms 10 = .ok (.iastore, 1) := by decide +kernel
theorem dX11_laysAtoms_11 : decode cX11_laysAtoms 11 = .ok (.aload_n 0, 1) := by decide +kernel
theorem dX11_laysAtoms_12 : decode cX11_laysAtoms 12 = .ok (.getfield 116, 3) := by decide +kernel
theorem dX11_laysAtoms_15 : decode cX11_laysAtoms 15 = .ok (.iconst 0, 1) := by decide +kernel
theorem dX11_laysAtoms_16 : decode cX11_laysAtoms 16 = .ok (.iconst 0, 1) := by decide +kernel
theorem dX11_laysAtoms_17 : decode cX11_laysAtoms 17 = .ok (.iastore, 1) := by decide +kernel
theorem dX11_laysAtoms_18 : decode cX11_laysAtoms 18 = .ok (.iconst 1, 1) := by decide +kernel
theorem dX11_laysAtoms_19 : decode cX11_laysAtoms 19 = .ok (.istore_n 1, 1) := by decide +kernel
theorem dX11_laysAtoms_20 : decode cX11_laysAtoms 20 = .ok (.iload_n 1, 1) := by decide +kernel
theorem dX11_laysAtoms_21 : decode cX11_laysAtoms 21 = .ok (.aload_n 0, 1) := by decide +kernel
theorem dX11_laysAtoms_22 : decode cX11_laysAtoms 22 = .ok (.invokevirtual 204, 3) := by decide +kernel
theorem dX11_laysAtoms_25 : decode cX11_laysAtoms 25 = .ok (.if_icmp .gt 174, 3) := by decide +kernel
theorem dX11_laysAtoms_28 : decode cX11_laysAtoms 28 = .ok (.aload_n 0, 1) := by decide +kernel
theorem dX11_laysAtoms_29 : decode cX11_laysAtoms 29 = .ok (.getfield 113, 3) := by decide +kernel
theorem dX11_laysAtoms_32 : decode cX11_laysAtoms 32 = .ok (.iload_n 1, 1) := by decide +kernel
theorem dX11_laysAtoms_33 : decode cX11_laysAtoms 33 = .ok (.iconst (-1), 1) := by decide +kernel
theorem dX11_laysAtoms_34 : decode cX11_laysAtoms 34 = .ok (.iastore, 1) := by decide +kernel
theorem dX11_laysAtoms_35 : decode cX11_laysAtoms 35 = .ok (.aload_n 0, 1) := by decide +kernel
theorem dX11_laysAtoms_36 : decode cX11_laysAtoms 36 = .ok (.getfield 116, 3) := by decide +kernel
theorem dX11_laysAtoms_39 : decode cX11_laysAtoms 39 = .ok (.iload_n 1, 1) := by decide +kernel
theorem dX11_laysAtoms_40 : decode cX11_laysAtoms 40 = .ok (.iconst (-1), 1) := by decide +kernel
theorem dX11_laysAtoms_41 : decode cX11_laysAtoms 41 = .ok (.iastore, 1) := by decide +kernel
theorem dX11_laysAtoms_42 : decode cX11_laysAtoms 42 = .ok (.aload_n 0, 1) := by decide +kernel
theorem dX11_laysAtoms_43 : decode cX11_laysAtoms 43 = .ok (.getfield 107, 3) := by decide +kernel
theorem dX11_laysAtoms_46 : decode cX11_laysAtoms 46 = .ok (.iload_n 1, 1) := by decide +kernel
theorem dX11_laysAtoms_47 : decode cX11_laysAtoms 47 = .ok (.iaload, 1) := by decide +kernel
theorem dX11_laysAtoms_48 : decode cX11_laysAtoms 48 = .ok (.ifCond .eq 6, 3) := by decide +kernel
theorem dX11_laysAtoms_51 : decode cX11_laysAtoms 51 = .ok (.goto 142, 3) := by decide +kernel
theorem dX11_laysAtoms_54 : decode cX11_laysAtoms 54 = .ok (.iload_n 1, 1) := by decide +kernel
theorem dX11_laysAtoms_55 : decode cX11_laysAtoms 55 = .ok (.iload_n 1, 1) := by decide +kernel
theorem dX11_laysAtoms_56 : decode cX11_laysAtoms 56 = .ok (.ineg, 1) := by decide +kernel
theorem dX11_laysAtoms_57 : decode cX11_laysAtoms 57 = .ok (.iand, 1) := by decide +kernel
theorem dX11_laysAtoms_58 : decode cX11_laysAtoms 58 = .ok (.istore_n 2, 1) := by decide +kernel
theorem dX11_laysAtoms_59 : decode cX11_laysAtoms 59 = .ok (.iload_n 1, 1) := by decide +kernel
theorem dX11_laysAtoms_60 : decode cX11_laysAtoms 60 = .ok (.iload_n 2, 1) := by decide +kernel
theorem dX11_laysAtoms_61 : decode cX11_laysAtoms 61 = .ok (.iconst (-1), 1) := by decide +kernel
theorem dX11_laysAtoms_62 : decode cX11_laysAtoms 62 = .ok (.ixor, 1) := by decide +kernel
theorem dX11_laysAtoms_63 : decode cX11_laysAtoms 63 = .ok (.iand, 1) := by decide +kernel
theorem dX11_laysAtoms_64 : decode cX11_laysAtoms 64 = .ok (.istore_n 3, 1) := by decide +kernel
theorem dX11_laysAtoms_65 : decode cX11_laysAtoms 65 = .ok (.iload_n 3, 1) := by decide +kernel
theorem dX11_laysAtoms_66 : decode cX11_laysAtoms 66 = .ok (.istore 4, 2) := by decide +kernel
theorem dX11_laysAtoms_68 : decode cX11_laysAtoms 68 = .ok (.iload_n 3, 1) := by decide +kernel
theorem dX11_laysAtoms_69 : decode cX11_laysAtoms 69 = .ok (.iload 4, 2) := by decide +kernel
theorem dX11_laysAtoms_71 : decode cX11_laysAtoms 71 = .ok (.iconst (-1), 1) := by decide +kernel
theorem dX11_laysAtoms_72 : decode cX11_laysAtoms 72 = .ok (.ixor, 1) := by decide +kernel
theorem dX11_laysAtoms_73 : decode cX11_laysAtoms 73 = .ok (.iand, 1) := by decide +kernel
theorem dX11_laysAtoms_74 : decode cX11_laysAtoms 74 = .ok (.istore 5, 2) := by decide +kernel
theorem dX11_laysAtoms_76 : decode cX11_laysAtoms 76 = .ok (.aload_n 0, 1) := by decide +kernel
theorem dX11_laysAtoms_77 : decode cX11_laysAtoms 77 = .ok (.iload 4, 2) := by decide +kernel
theorem dX11_laysAtoms_79 : decode cX11_laysAtoms 79 = .ok (.iload_n 2, 1) := by decide +kernel
theorem dX11_laysAtoms_80 : decode cX11_laysAtoms 80 = .ok (.ior, 1) := by decide +kernel
theorem dX11_laysAtoms_81 : decode cX11_laysAtoms 81 = .ok (.invokevirtual 237, 3) := by decide +kernel
theorem dX11_laysAtoms_84 : decode cX11_laysAtoms 84 = .ok (.ifCond .eq 90, 3) := by decide +kernel
theorem dX11_laysAtoms_87 : decode cX11_laysAtoms 87 = .ok (.aload_n 0, 1) := by decide +kernel
theorem dX11_laysAtoms_88 : decode cX11_laysAtoms 88 = .ok (.getfield 116, 3) := by decide +kernel
theorem dX11_laysAtoms_91 : decode cX11_laysAtoms 91 = .ok (.iload 5, 2) := by decide +kernel
theorem dX11_laysAtoms_93 : decode cX11_laysAtoms 93 = .ok (.iaload, 1) := by decide +kernel
theorem dX11_laysAtoms_94 : decode cX11_laysAtoms 94 = .ok (.iconst (-1), 1) := by decide +kernel
theorem dX11_laysAtoms_95 : decode cX11_laysAtoms 95 = .ok (.if_icmp .eq 79, 3) := by decide +kernel
theorem dX11_laysAtoms_98 : decode cX11_laysAtoms 98 = .ok (.aload_n 0, 1) := by decide +kernel
theorem dX11_laysAtoms_99 : decode cX11_laysAtoms 99 = .ok (.getfield 113, 3) := by decide +kernel
theorem dX11_laysAtoms_102 : decode cX11_laysAtoms 102 = .ok (.iload_n 1, 1) := by decide +kernel
theorem dX11_laysAtoms_103 : decode cX11_laysAtoms 103 = .ok (.iaload, 1) := by decide +kernel
theorem dX11_laysAtoms_104 : decode cX11_laysAtoms 104 = .ok (.iconst (-1), 1) := by decide +kernel
theorem dX11_laysAtoms_105 : decode cX11_laysAtoms 105 = .ok (.if_icmp .eq 21, 3) := by decide +kernel
theorem dX11_laysAtoms_108 : decode cX11_laysAtoms 108 = .ok (.aload_n 0, 1) := by decide +kernel
theorem dX11_laysAtoms_109 : decode cX11_laysAtoms 109 = .ok (.getfield 113, 3) := by decide +kernel
theorem dX11_laysAtoms_112 : decode cX11_laysAtoms 112 = .ok (.iload 5, 2) := by decide +kernel
theorem dX11_laysAtoms_114 : decode cX11_laysAtoms 114 = .ok (.iaload, 1) := by decide +kernel
theorem dX11_laysAtoms_115 : decode cX11_laysAtoms 115 = .ok (.iconst 1, 1) := by decide +kernel
theorem dX11_laysAtoms_116 : decode cX11_laysAtoms 116 = .ok (.iadd, 1) := by decide +kernel
theorem dX11_laysAtoms_117 : decode cX11_laysAtoms 117 = .ok (.aload_n 0, 1) := by decide +kernel
theorem dX11_laysAtoms_118 : decode cX11_laysAtoms 118 = .ok (.getfield 113, 3) := by decide +kernel
theorem dX11_laysAtoms_121 : decode cX11_laysAtoms 121 = .ok (.iload_n 1, 1) := by decide +kernel
theorem dX11_laysAtoms_122 : decode cX11_laysAtoms 122 = .ok (.iaload, 1) := by decide +kernel
theorem dX11_laysAtoms_123 : decode cX11_laysAtoms 123 = .ok (.if_icmp .ge 18, 3) := by decide +kernel
theorem dX11_laysAtoms_126 : decode cX11_laysAtoms 126 = .ok (.aload_n 0, 1) := by decide +kernel
theorem dX11_laysAtoms_127 : decode cX11_laysAtoms 127 = .ok (.getfield 113, 3) := by decide +kernel
theorem dX11_laysAtoms_130 : decode cX11_laysAtoms 130 = .ok (.iload_n 1, 1) := by decide +kernel
theorem dX11_laysAtoms_131 : decode cX11_laysAtoms 131 = .ok (.aload_n 0, 1) := by decide +kernel
theorem dX11_laysAtoms_132 : decode cX11_laysAtoms 132 = .ok (.getfield 113, 3) := by decide +kernel
theorem dX11_laysAtoms_135 : decode cX11_laysAtoms 135 = .ok (.iload 5, 2) := by decide +kernel
theorem dX11_laysAtoms_137 : decode cX11_laysAtoms 137 = .ok (.iaload, 1) := by decide +kernel
theorem dX11_laysAtoms_138 : decode cX11_laysAtoms 138 = .ok (.iconst 1, 1) := by decide +kernel
theorem dX11_laysAtoms_139 : decode cX11_laysAtoms 139 = .ok (.iadd, 1) := by decide +kernel
theorem dX11_laysAtoms_140 : decode cX11_laysAtoms 140 = .ok (.iastore, 1) := by decide +kernel
theorem dX11_laysAtoms_141 : decode cX11_laysAtoms 141 = .ok (.aload_n 0, 1) := by decide +kernel
theorem dX11_laysAtoms_142 : decode cX11_laysAtoms 142 = .ok (.getfield 116, 3) := by decide +kernel
theorem dX11_laysAtoms_145 : decode cX11_laysAtoms 145 = .ok (.iload 5, 2) := by decide +kernel
theorem dX11_laysAtoms_147 : decode cX11_laysAtoms 147 = .ok (.iaload, 1) := by decide +kernel
theorem dX11_laysAtoms_148 : decode cX11_laysAtoms 148 = .ok (.iconst 1, 1) := by decide +kernel
theorem dX11_laysAtoms_149 : decode cX11_laysAtoms 149 = .ok (.iadd, 1) := by decide +kernel
theorem dX11_laysAtoms_150 : decode cX11_laysAtoms 150 = .ok (.aload_n 0, 1) := by decide +kernel
theorem dX11_laysAtoms_151 : decode cX11_laysAtoms 151 = .ok (.getfield 116, 3) := by decide +kernel
theorem dX11_laysAtoms_154 : decode cX11_laysAtoms 154 = .ok (.iload_n 1, 1) := by decide +kernel
theorem dX11_laysAtoms_155 : decode cX11_laysAtoms 155 = .ok (.iaload, 1) := by decide +kernel
theorem dX11_laysAtoms_156 : decode cX11_laysAtoms 156 = .ok (.if_icmp .le 18, 3) := by decide +kernel
theorem dX11_laysAtoms_159 : decode cX11_laysAtoms 159 = .ok (.aload_n 0, 1) := by decide +kernel
theorem dX11_laysAtoms_160 : decode cX11_laysAtoms 160 = .ok (.getfield 116, 3) := by decide +kernel
theorem dX11_laysAtoms_163 : decode cX11_laysAtoms 163 = .ok (.iload_n 1, 1) := by decide +kernel
theorem dX11_laysAtoms_164 : decode cX11_laysAtoms 164 = .ok (.aload_n 0, 1) := by decide +kernel
theorem dX11_laysAtoms_165 : decode cX11_laysAtoms 165 = .ok (.getfield 116, 3) := by decide +kernel
theorem dX11_laysAtoms_168 : decode cX11_laysAtoms 168 = .ok (.iload 5, 2) := by decide +kernel
theorem dX11_laysAtoms_170 : decode cX11_laysAtoms 170 = .ok (.iaload, 1) := by decide +kernel
theorem dX11_laysAtoms_171 : decode cX11_laysAtoms 171 = .ok (.iconst 1, 1) := by decide +kernel
theorem dX11_laysAtoms_172 : decode cX11_laysAtoms 172 = .ok (.iadd, 1) := by decide +kernel
theorem dX11_laysAtoms_173 : decode cX11_laysAtoms 173 = .ok (.iastore, 1) := by decide +kernel
theorem dX11_laysAtoms_174 : decode cX11_laysAtoms 174 = .ok (.iload 4, 2) := by decide +kernel
theorem dX11_laysAtoms_176 : decode cX11_laysAtoms 176 = .ok (.ifCond .ne 6, 3) := by decide +kernel
theorem dX11_laysAtoms_179 : decode cX11_laysAtoms 179 = .ok (.goto 14, 3) := by decide +kernel
theorem dX11_laysAtoms_182 : decode cX11_laysAtoms 182 = .ok (.iload 4, 2) := by decide +kernel
theorem dX11_laysAtoms_184 : decode cX11_laysAtoms 184 = .ok (.iconst 1, 1) := by decide +kernel
theorem dX11_laysAtoms_185 : decode cX11_laysAtoms 185 = .ok (.isub, 1) := by decide +kernel
theorem dX11_laysAtoms_186 : decode cX11_laysAtoms 186 = .ok (.iload_n 3, 1) := by decide +kernel
theorem dX11_laysAtoms_187 : decode cX11_laysAtoms 187 = .ok (.iand, 1) := by decide +kernel
theorem dX11_laysAtoms_188 : decode cX11_laysAtoms 188 = .ok (.istore 4, 2) := by decide +kernel
theorem dX11_laysAtoms_190 : decode cX11_laysAtoms 190 = .ok (.goto (-122), 3) := by decide +kernel
theorem dX11_laysAtoms_193 : decode cX11_laysAtoms 193 = .ok (.iinc 1 1, 3) := by decide +kernel
theorem dX11_laysAtoms_196 : decode cX11_laysAtoms 196 = .ok (.goto (-176), 3) := by decide +kernel
theorem dX11_laysAtoms_199 : decode cX11_laysAtoms 199 = .ok (.return_, 1) := by decide +kernel
theorem dX11_atoms_0 : decode cX11_atoms 0 = .ok (.aload_n 0, 1) := by decide +kernel
theorem dX11_atoms_1 : decode cX11_atoms 1 = .ok (.iconst 0, 1) := by decide +kernel
theorem dX11_atoms_2 : decode cX11_atoms 2 = .ok (.putfield 1, 3) := by decide +kernel
theorem dX11_atoms_5 : decode cX11_atoms 5 = .ok (.iload_n 1, 1) := by decide +kernel
theorem dX11_atoms_6 : decode cX11_atoms 6 = .ok (.iconst 0, 1) := by decide +kernel
theorem dX11_atoms_7 : decode cX11_atoms 7 = .ok (.iconst 1, 1) := by decide +kernel
theorem dX11_atoms_8 : decode cX11_atoms 8 = .ok (.invokestatic 157, 3) := by decide +kernel
theorem dX11_atoms_11 : decode cX11_atoms 11 = .ok (.ifCond .eq 10, 3) := by decide +kernel
theorem dX11_atoms_14 : decode cX11_atoms 14 = .ok (.aload_n 0, 1) := by decide +kernel
theorem dX11_atoms_15 : decode cX11_atoms 15 = .ok (.invokevirtual 190, 3) := by decide +kernel
theorem dX11_atoms_18 : decode cX11_atoms 18 = .ok (.ifCond .ne 5, 3) := by decide +kernel
theorem dX11_atoms_21 : decode cX11_atoms 21 = .ok (.iconst (-1), 1) := by decide +kernel
theorem dX11_atoms_22 : decode cX11_atoms 22 = .ok (.ireturn, 1) := by decide +kernel
theorem dX11_atoms_23 : decode cX11_atoms 23 = .ok (.aload_n 0, 1) := by decide +kernel
theorem dX11_atoms_24 : decode cX11_atoms 24 = .ok (.invokevirtual 243, 3) := by decide +kernel
theorem dX11_atoms_27 : decode cX11_atoms 27 = .ok (.iload_n 1, 1) := by decide +kernel
theorem dX11_atoms_28 : decode cX11_atoms 28 = .ok (.ifCond .ne 15, 3) := by decide +kernel
theorem dX11_atoms_31 : decode cX11_atoms 31 = .ok (.aload_n 0, 1) := by decide +kernel
theorem dX11_atoms_32 : decode cX11_atoms 32 = .ok (.getfield 113, 3) := by decide +kernel
theorem dX11_atoms_35 : decode cX11_atoms 35 = .ok (.aload_n 0, 1) := by decide +kernel
theorem dX11_atoms_36 : decode cX11_atoms 36 = .ok (.invokevirtual 204, 3) := by decide +kernel
theorem dX11_atoms_39 : decode cX11_atoms 39 = .ok (.iaload, 1) := by decide +kernel
theorem dX11_atoms_40 : decode cX11_atoms 40 = .ok (.goto 12, 3) := by decide +kernel
theorem dX11_atoms_43 : decode cX11_atoms 43 = .ok (.aload_n 0, 1) := by decide +kernel
theorem dX11_atoms_44 : decode cX11_atoms 44 = .ok (.getfield 116, 3) := by decide +kernel
theorem dX11_atoms_47 : decode cX11_atoms 47 = .ok (.aload_n 0, 1) := by decide +kernel
theorem dX11_atoms_48 : decode cX11_atoms 48 = .ok (.invokevirtual 204, 3) := by decide +kernel
theorem dX11_atoms_51 : decode cX11_atoms 51 = .ok (.iaload, 1) := by decide +kernel
theorem dX11_atoms_52 : decode cX11_atoms 52 = .ok (.ireturn, 1) := by decide +kernel
theorem dX11_atom_0 : decode cX11_atom 0 = .ok (.aload_n 0, 1) := by decide +kernel
theorem dX11_atom_1 : decode cX11_atom 1 = .ok (.iconst 0, 1) := by decide +kernel
theorem dX11_atom_2 : decode cX11_atom 2 = .ok (.putfield 1, 3) := by decide +kernel
theorem dX11_atom_5 : decode cX11_atom 5 = .ok (.aload_n 0, 1) := by decide +kernel
theorem dX11_atom_6 : decode cX11_atom 6 = .ok (.invokevirtual 190, 3) := by decide +kernel
theorem dX11_atom_9 : decode cX11_atom 9 = .ok (.ifCond .ne 5, 3) := by decide +kernel
theorem dX11_atom_12 : decode cX11_atom 12 = .ok (.iconst (-1), 1) := by decide +kernel
theorem dX11_atom_13 : decode cX11_atom 13 = .ok (.ireturn, 1) := by decide +kernel
theorem dX11_atom_14 : decode cX11_atom 14 = .ok (.aload_n 0, 1) := by decide +kernel
theorem dX11_atom_15 : decode cX11_atom 15 = .ok (.invokevirtual 243, 3) := by decide +kernel
theorem dX11_atom_18 : decode cX11_atom 18 = .ok (.iload_n 1, 1) := by decide +kernel
theorem dX11_atom_19 : decode cX11_atom 19 = .ok (.iconst 0, 1) := by decide +kernel
theorem dX11_atom_20 : decode cX11_atom 20 = .ok (.aload_n 0, 1) := by decide +kernel
theorem dX11_atom_21 : decode cX11_atom 21 = .ok (.getfield 116, 3) := by decide +kernel
theorem dX11_atom_24 : decode cX11_atom 24 = .ok (.aload_n 0, 1) := by decide +kernel
theorem dX11_atom_25 : decode cX11_atom 25 = .ok (.invokevirtual 204, 3) := by decide +kernel
theorem dX11_atom_28 : decode cX11_atom 28 = .ok (.iaload, 1) := by decide +kernel
theorem dX11_atom_29 : decode cX11_atom 29 = .ok (.iconst 1, 1) := by decide +kernel
theorem dX11_atom_30 : decode cX11_atom 30 = .ok (.isub, 1) := by decide +kernel
theorem dX11_atom_31 : decode cX11_atom 31 = .ok (.invokestatic 157, 3) := by decide +kernel
theorem dX11_atom_34 : decode cX11_atom 34 = .ok (.ifCond .ne 5, 3) := by decide +kernel
theorem dX11_atom_37 : decode cX11_atom 37 = .ok (.iconst (-1), 1) := by decide +kernel
theorem dX11_atom_38 : decode cX11_atom 38 = .ok (.ireturn, 1) := by decide +kernel
theorem dX11_atom_39 : decode cX11_atom 39 = .ok (.aload_n 0, 1) := by decide +kernel
theorem dX11_atom_40 : decode cX11_atom 40 = .ok (.invokevirtual 204, 3) := by decide +kernel
theorem dX11_atom_43 : decode cX11_atom 43 = .ok (.istore_n 2, 1) := by decide +kernel
theorem dX11_atom_44 : decode cX11_atom 44 = .ok (.iconst 0, 1) := by decide +kernel
theorem dX11_atom_45 : decode cX11_atom 45 = .ok (.istore_n 3, 1) := by decide +kernel
theorem dX11_atom_46 : decode cX11_atom 46 = .ok (.iconst 0, 1) := by decide +kernel
theorem dX11_atom_47 : decode cX11_atom 47 = .ok (.istore 4, 2) := by decide +kernel
theorem dX11_atom_49 : decode cX11_atom 49 = .ok (.iload 4, 2) := by decide +kernel
theorem dX11_atom_51 : decode cX11_atom 51 = .ok (.iload_n 1, 1) := by decide +kernel
theorem dX11_atom_52 : decode cX11_atom 52 = .ok (.if_icmp .gt 74, 3) := by decide +kernel
theorem dX11_atom_55 : decode cX11_atom 55 = .ok (.iload_n 2, 1) := by decide +kernel
theorem dX11_atom_56 : decode cX11_atom 56 = .ok (.iload_n 2, 1) := by decide +kernel
theorem dX11_atom_57 : decode cX11_atom 57 = .ok (.ineg, 1) := by decide +kernel
theorem dX11_atom_58 : decode cX11_atom 58 = .ok (.iand, 1) := by decide +kernel
theorem dX11_atom_59 : decode cX11_atom 59 = .ok (.istore 5, 2) := by decide +kernel
theorem dX11_atom_61 : decode cX11_atom 61 = .ok (.iload 5, 2) := by decide +kernel
theorem dX11_atom_63 : decode cX11_atom 63 = .ok (.istore_n 3, 1) := by decide +kernel
theorem dX11_atom_64 : decode cX11_atom 64 = .ok (.iload_n 3, 1) := by decide +kernel
theorem dX11_atom_65 : decode cX11_atom 65 = .ok (.iload_n 2, 1) := by decide +kernel
theorem dX11_atom_66 : decode cX11_atom 66 = .ok (.iconst (-1), 1) := by decide +kernel
theorem dX11_atom_67 : decode cX11_atom 67 = .ok (.ixor, 1) := by decide +kernel
theorem dX11_atom_68 : decode cX11_atom 68 = .ok (.iand, 1) := by decide +kernel
theorem dX11_atom_69 : decode cX11_atom 69 = .ok (.ifCond .ne 39, 3) := by decide +kernel
theorem dX11_atom_72 : decode cX11_atom 72 = .ok (.iload_n 3, 1) := by decide +kernel
theorem dX11_atom_73 : decode cX11_atom 73 = .ok (.iload 5, 2) := by decide +kernel
theorem dX11_atom_75 : decode cX11_atom 75 = .ok (.iand, 1) := by decide +kernel
theorem dX11_atom_76 : decode cX11_atom 76 = .ok (.ifCond .eq 32, 3) := by decide +kernel
theorem dX11_atom_79 : decode cX11_atom 79 = .ok (.aload_n 0, 1) := by decide +kernel
theorem dX11_atom_80 : decode cX11_atom 80 = .ok (.iload_n 3, 1) := by decide +kernel
theorem dX11_atom_81 : decode cX11_atom 81 = .ok (.invokevirtual 237, 3) := by decide +kernel
theorem dX11_atom_84 : decode cX11_atom 84 = .ok (.ifCond .eq 24, 3) := by decide +kernel
theorem dX11_atom_87 : decode cX11_atom 87 = .ok (.aload_n 0, 1) := by decide +kernel
theorem dX11_atom_88 : decode cX11_atom 88 = .ok (.getfield 116, 3) := by decide +kernel
theorem dX11_atom_91 : decode cX11_atom 91 = .ok (.iload_n 2, 1) := by decide +kernel
theorem dX11_atom_92 : decode cX11_atom 92 = .ok (.iload_n 3, 1) := by decide +kernel
theorem dX11_atom_93 : decode cX11_atom 93 = .ok (.iconst (-1), 1) := by decide +kernel
theorem dX11_atom_94 : decode cX11_atom 94 = .ok (.ixor, 1) := by decide +kernel
theorem dX11_atom_95 : decode cX11_atom 95 = .ok (.iand, 1) := by decide +kernel
theorem dX11_atom_96 : decode cX11_atom 96 = .ok (.iaload, 1) := by decide +kernel
theorem dX11_atom_97 : decode cX11_atom 97 = .ok (.aload_n 0, 1) := by decide +kernel
theorem dX11_atom_98 : decode cX11_atom 98 = .ok (.getfield 116, 3) := by decide +kernel
theorem dX11_atom_101 : decode cX11_atom 101 = .ok (.iload_n 2, 1) := by decide +kernel
theorem dX11_atom_102 : decode cX11_atom 102 = .ok (.iaload, 1) := by decide +kernel
theorem dX11_atom_103 : decode cX11_atom 103 = .ok (.iconst 1, 1) := by decide +kernel
theorem dX11_atom_104 : decode cX11_atom 104 = .ok (.isub, 1) := by decide +kernel
theorem dX11_atom_105 : decode cX11_atom 105 = .ok (.if_icmp .eq 9, 3) := by decide +kernel
theorem dX11_atom_108 : decode cX11_atom 108 = .ok (.iinc 3 1, 3) := by decide +kernel
theorem dX11_atom_111 : decode cX11_atom 111 = .ok (.goto (-47), 3) := by decide +kernel
theorem dX11_atom_114 : decode cX11_atom 114 = .ok (.iload_n 2, 1) := by decide +kernel
theorem dX11_atom_115 : decode cX11_atom 115 = .ok (.iload_n 3, 1) := by decide +kernel
theorem dX11_atom_116 : decode cX11_atom 116 = .ok (.iconst (-1), 1) := by decide +kernel
theorem dX11_atom_117 : decode cX11_atom 117 = .ok (.ixor, 1) := by decide +kernel
theorem dX11_atom_118 : decode cX11_atom 118 = .ok (.iand, 1) := by decide +kernel
theorem dX11_atom_119 : decode cX11_atom 119 = .ok (.istore_n 2, 1) := by decide +kernel
theorem dX11_atom_120 : decode cX11_atom 120 = .ok (.iinc 4 1, 3) := by decide +kernel
theorem dX11_atom_123 : decode cX11_atom 123 = .ok (.goto (-74), 3) := by decide +kernel
theorem dX11_atom_126 : decode cX11_atom 126 = .ok (.iload_n 3, 1) := by decide +kernel
theorem dX11_atom_127 : decode cX11_atom 127 = .ok (.ireturn, 1) := by decide +kernel
theorem dX11_laysSigns_0 : decode cX11_laysSigns 0 = .ok (.aload_n 0, 1) := by decide +kernel
theorem dX11_laysSigns_1 : decode cX11_laysSigns 1 = .ok (.invokevirtual 190, 3) := by decide +kernel
theorem dX11_laysSigns_4 : decode cX11_laysSigns 4 = .ok (.istore_n 1, 1) := by decide +kernel
theorem dX11_laysSigns_5 : decode cX11_laysSigns 5 = .ok (.iconst 0, 1) := by decide +kernel
theorem dX11_laysSigns_6 : decode cX11_laysSigns 6 = .ok (.istore_n 2, 1) := by decide +kernel
theorem dX11_laysSigns_7 : decode cX11_laysSigns 7 = .ok (.iload_n 2, 1) := by decide +kernel
theorem dX11_laysSigns_8 : decode cX11_laysSigns 8 = .ok (.aload_n 0, 1) := by decide +kernel
theorem dX11_laysSigns_9 : decode cX11_laysSigns 9 = .ok (.invokevirtual 186, 3) := by decide +kernel
theorem dX11_laysSigns_12 : decode cX11_laysSigns 12 = .ok (.if_icmp .ge 41, 3) := by decide +kernel
theorem dX11_laysSigns_15 : decode cX11_laysSigns 15 = .ok (.aload_n 0, 1) := by decide +kernel
theorem dX11_laysSigns_16 : decode cX11_laysSigns 16 = .ok (.getfield 119, 3) := by decide +kernel
theorem dX11_laysSigns_19 : decode cX11_laysSigns 19 = .ok (.bipush 25, 2) := by decide +kernel
theorem dX11_laysSigns_21 : decode cX11_laysSigns 21 = .ok (.iload_n 1, 1) := by decide +kernel
theorem dX11_laysSigns_22 : decode cX11_laysSigns 22 = .ok (.imul, 1) := by decide +kernel
theorem dX11_laysSigns_23 : decode cX11_laysSigns 23 = .ok (.iload_n 2, 1) := by decide +kernel
theorem dX11_laysSigns_24 : decode cX11_laysSigns 24 = .ok (.iadd, 1) := by decide +kernel
theorem dX11_laysSigns_25 : decode cX11_laysSigns 25 = .ok (.iload_n 2, 1) := by decide +kernel
theorem dX11_laysSigns_26 : decode cX11_laysSigns 26 = .ok (.ifCond .ne 7, 3) := by decide +kernel
theorem dX11_laysSigns_29 : decode cX11_laysSigns 29 = .ok (.iconst 1, 1) := by decide +kernel
theorem dX11_laysSigns_30 : decode cX11_laysSigns 30 = .ok (.goto 4, 3) := by decide +kernel
theorem dX11_laysSigns_33 : decode cX11_laysSigns 33 = .ok (.iconst 0, 1) := by decide +kernel
theorem dX11_laysSigns_34 : decode cX11_laysSigns 34 = .ok (.iastore, 1) := by decide +kernel
theorem dX11_laysSigns_35 : decode cX11_laysSigns 35 = .ok (.aload_n 0, 1) := by decide +kernel
theorem dX11_laysSigns_36 : decode cX11_laysSigns 36 = .ok (.getfield 122, 3) := by decide +kernel
theorem dX11_laysSigns_39 : decode cX11_laysSigns 39 = .ok (.bipush 25, 2) := by decide +kernel
theorem dX11_laysSigns_41 : decode cX11_laysSigns 41 = .ok (.iload_n 1, 1) := by decide +kernel
theorem dX11_laysSigns_42 : decode cX11_laysSigns 42 = .ok (.imul, 1) := by decide +kernel
theorem dX11_laysSigns_43 : decode cX11_laysSigns 43 = .ok (.iload_n 2, 1) := by decide +kernel
theorem dX11_laysSigns_44 : decode cX11_laysSigns 44 = .ok (.iadd, 1) := by decide +kernel
theorem dX11_laysSigns_45 : decode cX11_laysSigns 45 = .ok (.iconst 0, 1) := by decide +kernel
theorem dX11_laysSigns_46 : decode cX11_laysSigns 46 = .ok (.bastore, 1) := by decide +kernel
theorem dX11_laysSigns_47 : decode cX11_laysSigns 47 = .ok (.iinc 2 1, 3) := by decide +kernel
theorem dX11_laysSigns_50 : decode cX11_laysSigns 50 = .ok (.goto (-43), 3) := by decide +kernel
theorem dX11_laysSigns_53 : decode cX11_laysSigns 53 = .ok (.iload_n 1, 1) := by decide +kernel
theorem dX11_laysSigns_54 : decode cX11_laysSigns 54 = .ok (.iconst 1, 1) := by decide +kernel
theorem dX11_laysSigns_55 : decode cX11_laysSigns 55 = .ok (.isub, 1) := by decide +kernel
theorem dX11_laysSigns_56 : decode cX11_laysSigns 56 = .ok (.istore_n 2, 1) := by decide +kernel
theorem dX11_laysSigns_57 : decode cX11_laysSigns 57 = .ok (.iload_n 2, 1) := by decide +kernel
theorem dX11_laysSigns_58 : decode cX11_laysSigns 58 = .ok (.ifCond .lt 169, 3) := by decide +kernel
theorem dX11_laysSigns_61 : decode cX11_laysSigns 61 = .ok (.aload_n 0, 1) := by decide +kernel
theorem dX11_laysSigns_62 : decode cX11_laysSigns 62 = .ok (.getfield 85, 3) := by decide +kernel
theorem dX11_laysSigns_65 : decode cX11_laysSigns 65 = .ok (.iconst 5, 1) := by decide +kernel
theorem dX11_laysSigns_66 : decode cX11_laysSigns 66 = .ok (.iload_n 2, 1) := by decide +kernel
theorem dX11_laysSigns_67 : decode cX11_laysSigns 67 = .ok (.iadd, 1) := by decide +kernel
theorem dX11_laysSigns_68 : decode cX11_laysSigns 68 = .ok (.iaload, 1) := by decide +kernel
theorem dX11_laysSigns_69 : decode cX11_laysSigns 69 = .ok (.istore_n 3, 1) := by decide +kernel
theorem dX11_laysSigns_70 : decode cX11_laysSigns 70 = .ok (.aload_n 0, 1) := by decide +kernel
theorem dX11_laysSigns_71 : decode cX11_laysSigns 71 = .ok (.iload_n 3, 1) := by decide +kernel
theorem dX11_laysSigns_72 : decode cX11_laysSigns 72 = .ok (.invokevirtual 231, 3) := by decide +kernel
theorem dX11_laysSigns_75 : decode cX11_laysSigns 75 = .ok (.istore 4, 2) := by decide +kernel
theorem dX11_laysSigns_77 : decode cX11_laysSigns 77 = .ok (.iconst 0, 1) := by decide +kernel
theorem dX11_laysSigns_78 : decode cX11_laysSigns 78 = .ok (.istore 5, 2) := by decide +kernel
theorem dX11_laysSigns_80 : decode cX11_laysSigns 80 = .ok (.iload 5, 2) := by decide +kernel
theorem dX11_laysSigns_82 : decode cX11_laysSigns 82 = .ok (.aload_n 0, 1) := by decide +kernel
theorem dX11_laysSigns_83 : decode cX11_laysSigns 83 = .ok (.invokevirtual 186, 3) := by decide +kernel
theorem dX11_laysSigns_86 : decode cX11_laysSigns 86 = .ok (.if_icmp .ge 135, 3) := by decide +kernel
theorem dX11_laysSigns_89 : decode cX11_laysSigns 89 = .ok (.bipush 25, 2) := by decide +kernel
theorem dX11_laysSigns_91 : decode cX11_laysSigns 91 = .ok (.iload_n 2, 1) := by decide +kernel
theorem dX11_laysSigns_92 : decode cX11_laysSigns 92 = .ok (.iconst 1, 1) := by decide +kernel
theorem dX11_laysSigns_93 : decode cX11_laysSigns 93 = .ok (.iadd, 1) := by decide +kernel
theorem dX11_laysSigns_94 : decode cX11_laysSigns 94 = .ok (.imul, 1) := by decide +kernel
theorem dX11_laysSigns_95 : decode cX11_laysSigns 95 = .ok (.iload 5, 2) := by decide +kernel
theorem dX11_laysSigns_97 : decode cX11_laysSigns 97 = .ok (.iadd, 1) := by decide +kernel
theorem dX11_laysSigns_98 : decode cX11_laysSigns 98 = .ok (.istore 6, 2) := by decide +kernel
theorem dX11_laysSigns_100 : decode cX11_laysSigns 100 = .ok (.bipush 25, 2) := by decide +kernel
theorem dX11_laysSigns_102 : decode cX11_laysSigns 102 = .ok (.iload_n 2, 1) := by decide +kernel
theorem dX11_laysSigns_103 : decode cX11_laysSigns 103 = .ok (.iconst 1, 1) := by decide +kernel
theorem dX11_laysSigns_104 : decode cX11_laysSigns 104 = .ok (.iadd, 1) := by decide +kernel
theorem dX11_laysSigns_105 : decode cX11_laysSigns 105 = .ok (.imul, 1) := by decide +kernel
theorem dX11_laysSigns_106 : decode cX11_laysSigns 106 = .ok (.aload_n 0, 1) := by decide +kernel
theorem dX11_laysSigns_107 : decode cX11_laysSigns 107 = .ok (.iload 5, 2) := by decide +kernel
theorem dX11_laysSigns_109 : decode cX11_laysSigns 109 = .ok (.iload 4, 2) := by decide +kernel
theorem dX11_laysSigns_111 : decode cX11_laysSigns 111 = .ok (.invokevirtual 201, 3) := by decide +kernel
theorem dX11_laysSigns_114 : decode cX11_laysSigns 114 = .ok (.iadd, 1) := by decide +kernel
theorem dX11_laysSigns_115 : decode cX11_laysSigns 115 = .ok (.istore 7, 2) := by decide +kernel
theorem dX11_laysSigns_117 : decode cX11_laysSigns 117 = .ok (.bipush 25, 2) := by decide +kernel
theorem dX11_laysSigns_119 : decode cX11_laysSigns 119 = .ok (.iload_n 2, 1) := by decide +kernel
theorem dX11_laysSigns_120 : decode cX11_laysSigns 120 = .ok (.iconst 1, 1) := by decide +kernel
theorem dX11_laysSigns_121 : decode cX11_laysSigns 121 = .ok (.iadd, 1) := by decide +kernel
theorem dX11_laysSigns_122 : decode cX11_laysSigns 122 = .ok (.imul, 1) := by decide +kernel
theorem dX11_laysSigns_123 : decode cX11_laysSigns 123 = .ok (.aload_n 0, 1) := by decide +kernel
theorem dX11_laysSigns_124 : decode cX11_laysSigns 124 = .ok (.iload 5, 2) := by decide +kernel
theorem dX11_laysSigns_126 : decode cX11_laysSigns 126 = .ok (.iload_n 3, 1) := by decide +kernel
theorem dX11_laysSigns_127 : decode cX11_laysSigns 127 = .ok (.invokevirtual 201, 3) := by decide +kernel
theorem dX11_laysSigns_130 : decode cX11_laysSigns 130 = .ok (.iadd, 1) := by decide +kernel
theorem dX11_laysSigns_131 : decode cX11_laysSigns 131 = .ok (.istore 8, 2) := by decide +kernel
theorem dX11_laysSigns_133 : decode cX11_laysSigns 133 = .ok (.aload_n 0, 1) := by decide +kernel
theorem dX11_laysSigns_134 : decode cX11_laysSigns 134 = .ok (.getfield 119, 3) := by decide +kernel
theorem dX11_laysSigns_137 : decode cX11_laysSigns 137 = .ok (.bipush 25, 2) := by decide +kernel
theorem dX11_laysSigns_139 : decode cX11_laysSigns 139 = .ok (.iload_n 2, 1) := by decide +kernel
theorem dX11_laysSigns_140 : decode cX11_laysSigns 140 = .ok (.imul, 1) := by decide +kernel
theorem dX11_laysSigns_141 : decode cX11_laysSigns 141 = .ok (.iload 5, 2) := by decide +kernel
theorem dX11_laysSigns_143 : decode cX11_laysSigns 143 = .ok (.iadd, 1) := by decide +kernel
theorem dX11_laysSigns_144 : decode cX11_laysSigns 144 = .ok (.aload_n 0, 1) := by decide +kernel
theorem dX11_laysSigns_145 : decode cX11_laysSigns 145 = .ok (.getfield 119, 3) := by decide +kernel
theorem dX11_laysSigns_148 : decode cX11_laysSigns 148 = .ok (.iload 6, 2) := by decide +kernel
theorem dX11_laysSigns_150 : decode cX11_laysSigns 150 = .ok (.iaload, 1) := by decide +kernel
theorem dX11_laysSigns_151 : decode cX11_laysSigns 151 = .ok (.aload_n 0, 1) := by decide +kernel
theorem dX11_laysSigns_152 : decode cX11_laysSigns 152 = .ok (.getfield 119, 3) := by decide +kernel
theorem dX11_laysSigns_155 : decode cX11_laysSigns 155 = .ok (.iload 7, 2) := by decide +kernel
theorem dX11_laysSigns_157 : decode cX11_laysSigns 157 = .ok (.iaload, 1) := by decide +kernel
theorem dX11_laysSigns_158 : decode cX11_laysSigns 158 = .ok (.iadd, 1) := by decide +kernel
theorem dX11_laysSigns_159 : decode cX11_laysSigns 159 = .ok (.aload_n 0, 1) := by decide +kernel
theorem dX11_laysSigns_160 : decode cX11_laysSigns 160 = .ok (.getfield 119, 3) := by decide +kernel
theorem dX11_laysSigns_163 : decode cX11_laysSigns 163 = .ok (.iload 8, 2) := by decide +kernel
theorem dX11_laysSigns_165 : decode cX11_laysSigns 165 = .ok (.iaload, 1) := by decide +kernel
theorem dX11_laysSigns_166 : decode cX11_laysSigns 166 = .ok (.iadd, 1) := by decide +kernel
theorem dX11_laysSigns_167 : decode cX11_laysSigns 167 = .ok (.iastore, 1) := by decide +kernel
theorem dX11_laysSigns_168 : decode cX11_laysSigns 168 = .ok (.aload_n 0, 1) := by decide +kernel
theorem dX11_laysSigns_169 : decode cX11_laysSigns 169 = .ok (.getfield 122, 3) := by decide +kernel
theorem dX11_laysSigns_172 : decode cX11_laysSigns 172 = .ok (.bipush 25, 2) := by decide +kernel
theorem dX11_laysSigns_174 : decode cX11_laysSigns 174 = .ok (.iload_n 2, 1) := by decide +kernel
theorem dX11_laysSigns_175 : decode cX11_laysSigns 175 = .ok (.imul, 1) := by decide +kernel
theorem dX11_laysSigns_176 : decode cX11_laysSigns 176 = .ok (.iload 5, 2) := by decide +kernel
theorem dX11_laysSigns_178 : decode cX11_laysSigns 178 = .ok (.iadd, 1) := by decide +kernel
theorem dX11_laysSigns_179 : decode cX11_laysSigns 179 = .ok (.aload_n 0, 1) := by decide +kernel
theorem dX11_laysSigns_180 : decode cX11_laysSigns 180 = .ok (.getfield 122, 3) := by decide +kernel
theorem dX11_laysSigns_183 : decode cX11_laysSigns 183 = .ok (.iload 6, 2) := by decide +kernel
theorem dX11_laysSigns_185 : decode cX11_laysSigns 185 = .ok (.baload, 1) := by decide +kernel
theorem dX11_laysSigns_186 : decode cX11_laysSigns 186 = .ok (.ifCond .ne 23, 3) := by decide +kernel
theorem dX11_laysSigns_189 : decode cX11_laysSigns 189 = .ok (.aload_n 0, 1) := by decide +kernel
theorem dX11_laysSigns_190 : decode cX11_laysSigns 190 = .ok (.getfield 119, 3) := by decide +kernel
theorem dX11_laysSigns_193 : decode cX11_laysSigns 193 = .ok (.iload 7, 2) := by decide +kernel
theorem dX11_laysSigns_195 : decode cX11_laysSigns 195 = .ok (.iaload, 1) := by decide +kernel
theorem dX11_laysSigns_196 : decode cX11_laysSigns 196 = .ok (.ifCond .gt 13, 3) := by decide +kernel
theorem dX11_laysSigns_199 : decode cX11_laysSigns 199 = .ok (.aload_n 0, 1) := by decide +kernel
theorem dX11_laysSigns_200 : decode cX11_laysSigns 200 = .ok (.getfield 119, 3) := by decide +kernel
theorem dX11_laysSigns_203 : decode cX11_laysSigns 203 = .ok (.iload 8, 2) := by decide +kernel
theorem dX11_laysSigns_205 : decode cX11_laysSigns 205 = .ok (.iaload, 1) := by decide +kernel
theorem dX11_laysSigns_206 : decode cX11_laysSigns 206 = .ok (.ifCond .le 7, 3) := by decide +kernel
theorem dX11_laysSigns_209 : decode cX11_laysSigns 209 = .ok (.iconst 1, 1) := by decide +kernel
theorem dX11_laysSigns_210 : decode cX11_laysSigns 210 = .ok (.goto 4, 3) := by decide +kernel
theorem dX11_laysSigns_213 : decode cX11_laysSigns 213 = .ok (.iconst 0, 1) := by decide +kernel
theorem dX11_laysSigns_214 : decode cX11_laysSigns 214 = .ok (.bastore, 1) := by decide +kernel
theorem dX11_laysSigns_215 : decode cX11_laysSigns 215 = .ok (.iinc 5 1, 3) := by decide +kernel
theorem dX11_laysSigns_218 : decode cX11_laysSigns 218 = .ok (.goto (-138), 3) := by decide +kernel
theorem dX11_laysSigns_221 : decode cX11_laysSigns 221 = .ok (.iinc 2 (-1), 3) := by decide +kernel
theorem dX11_laysSigns_224 : decode cX11_laysSigns 224 = .ok (.goto (-167), 3) := by decide +kernel
theorem dX11_laysSigns_227 : decode cX11_laysSigns 227 = .ok (.return_, 1) := by decide +kernel
theorem dX11_signed_0 : decode cX11_signed 0 = .ok (.aload_n 0, 1) := by decide +kernel
theorem dX11_signed_1 : decode cX11_signed 1 = .ok (.iconst 0, 1) := by decide +kernel
theorem dX11_signed_2 : decode cX11_signed 2 = .ok (.putfield 1, 3) := by decide +kernel
theorem dX11_signed_5 : decode cX11_signed 5 = .ok (.aload_n 0, 1) := by decide +kernel
theorem dX11_signed_6 : decode cX11_signed 6 = .ok (.iload_n 1, 1) := by decide +kernel
theorem dX11_signed_7 : decode cX11_signed 7 = .ok (.invokevirtual 219, 3) := by decide +kernel
theorem dX11_signed_10 : decode cX11_signed 10 = .ok (.ifCond .ne 5, 3) := by decide +kernel
theorem dX11_signed_13 : decode cX11_signed 13 = .ok (.iconst (-1), 1) := by decide +kernel
theorem dX11_signed_14 : decode cX11_signed 14 = .ok (.ireturn, 1) := by decide +kernel
theorem dX11_signed_15 : decode cX11_signed 15 = .ok (.aload_n 0, 1) := by decide +kernel
theorem dX11_signed_16 : decode cX11_signed 16 = .ok (.invokevirtual 246, 3) := by decide +kernel
theorem dX11_signed_19 : decode cX11_signed 19 = .ok (.aload_n 0, 1) := by decide +kernel
theorem dX11_signed_20 : decode cX11_signed 20 = .ok (.getfield 119, 3) := by decide +kernel
theorem dX11_signed_23 : decode cX11_signed 23 = .ok (.iload_n 1, 1) := by decide +kernel
theorem dX11_signed_24 : decode cX11_signed 24 = .ok (.iaload, 1) := by decide +kernel
theorem dX11_signed_25 : decode cX11_signed 25 = .ok (.iload_n 1, 1) := by decide +kernel
theorem dX11_signed_26 : decode cX11_signed 26 = .ok (.ifCond .ne 7, 3) := by decide +kernel
theorem dX11_signed_29 : decode cX11_signed 29 = .ok (.iconst 1, 1) := by decide +kernel
theorem dX11_signed_30 : decode cX11_signed 30 = .ok (.goto 4, 3) := by decide +kernel
theorem dX11_signed_33 : decode cX11_signed 33 = .ok (.iconst 0, 1) := by decide +kernel
theorem dX11_signed_34 : decode cX11_signed 34 = .ok (.isub, 1) := by decide +kernel
theorem dX11_signed_35 : decode cX11_signed 35 = .ok (.ireturn, 1) := by decide +kernel
theorem dX11_sign_0 : decode cX11_sign 0 = .ok (.aload_n 0, 1) := by decide +kernel
theorem dX11_sign_1 : decode cX11_sign 1 = .ok (.iconst 0, 1) := by decide +kernel
theorem dX11_sign_2 : decode cX11_sign 2 = .ok (.putfield 1, 3) := by decide +kernel
theorem dX11_sign_5 : decode cX11_sign 5 = .ok (.aload_n 0, 1) := by decide +kernel
theorem dX11_sign_6 : decode cX11_sign 6 = .ok (.iload_n 1, 1) := by decide +kernel
theorem dX11_sign_7 : decode cX11_sign 7 = .ok (.invokevirtual 219, 3) := by decide +kernel
theorem dX11_sign_10 : decode cX11_sign 10 = .ok (.ifCond .eq 11, 3) := by decide +kernel
theorem dX11_sign_13 : decode cX11_sign 13 = .ok (.aload_n 0, 1) := by decide +kernel
theorem dX11_sign_14 : decode cX11_sign 14 = .ok (.iload_n 2, 1) := by decide +kernel
theorem dX11_sign_15 : decode cX11_sign 15 = .ok (.invokevirtual 216, 3) := by decide +kernel
theorem dX11_sign_18 : decode cX11_sign 18 = .ok (.ifCond .ne 5, 3) := by decide +kernel
theorem dX11_sign_21 : decode cX11_sign 21 = .ok (.iconst (-1), 1) := by decide +kernel
theorem dX11_sign_22 : decode cX11_sign 22 = .ok (.ireturn, 1) := by decide +kernel
theorem dX11_sign_23 : decode cX11_sign 23 = .ok (.aload_n 0, 1) := by decide +kernel
theorem dX11_sign_24 : decode cX11_sign 24 = .ok (.invokevirtual 246, 3) := by decide +kernel
theorem dX11_sign_27 : decode cX11_sign 27 = .ok (.aload_n 0, 1) := by decide +kernel
theorem dX11_sign_28 : decode cX11_sign 28 = .ok (.getfield 122, 3) := by decide +kernel
theorem dX11_sign_31 : decode cX11_sign 31 = .ok (.iload_n 1, 1) := by decide +kernel
theorem dX11_sign_32 : decode cX11_sign 32 = .ok (.baload, 1) := by decide +kernel
theorem dX11_sign_33 : decode cX11_sign 33 = .ok (.ifCond .ne 5, 3) := by decide +kernel
theorem dX11_sign_36 : decode cX11_sign 36 = .ok (.iconst (-1), 1) := by decide +kernel
theorem dX11_sign_37 : decode cX11_sign 37 = .ok (.ireturn, 1) := by decide +kernel
theorem dX11_sign_38 : decode cX11_sign 38 = .ok (.iload_n 1, 1) := by decide +kernel
theorem dX11_sign_39 : decode cX11_sign 39 = .ok (.istore_n 3, 1) := by decide +kernel
theorem dX11_sign_40 : decode cX11_sign 40 = .ok (.iconst 0, 1) := by decide +kernel
theorem dX11_sign_41 : decode cX11_sign 41 = .ok (.istore 4, 2) := by decide +kernel
theorem dX11_sign_43 : decode cX11_sign 43 = .ok (.iconst 0, 1) := by decide +kernel
theorem dX11_sign_44 : decode cX11_sign 44 = .ok (.istore 5, 2) := by decide +kernel
theorem dX11_sign_46 : decode cX11_sign 46 = .ok (.iconst 0, 1) := by decide +kernel
theorem dX11_sign_47 : decode cX11_sign 47 = .ok (.istore 6, 2) := by decide +kernel
theorem dX11_sign_49 : decode cX11_sign 49 = .ok (.iload 6, 2) := by decide +kernel
theorem dX11_sign_51 : decode cX11_sign 51 = .ok (.iload_n 2, 1) := by decide +kernel
theorem dX11_sign_52 : decode cX11_sign 52 = .ok (.if_icmp .gt 119, 3) := by decide +kernel
theorem dX11_sign_55 : decode cX11_sign 55 = .ok (.aload_n 0, 1) := by decide +kernel
theorem dX11_sign_56 : decode cX11_sign 56 = .ok (.getfield 85, 3) := by decide +kernel
theorem dX11_sign_59 : decode cX11_sign 59 = .ok (.iconst 5, 1) := by decide +kernel
theorem dX11_sign_60 : decode cX11_sign 60 = .ok (.iload 6, 2) := by decide +kernel
theorem dX11_sign_62 : decode cX11_sign 62 = .ok (.iadd, 1) := by decide +kernel
theorem dX11_sign_63 : decode cX11_sign 63 = .ok (.iaload, 1) := by decide +kernel
theorem dX11_sign_64 : decode cX11_sign 64 = .ok (.istore 7, 2) := by decide +kernel
theorem dX11_sign_66 : decode cX11_sign 66 = .ok (.aload_n 0, 1) := by decide +kernel
theorem dX11_sign_67 : decode cX11_sign 67 = .ok (.iload_n 3, 1) := by decide +kernel
theorem dX11_sign_68 : decode cX11_sign 68 = .ok (.aload_n 0, 1) := by decide +kernel
theorem dX11_sign_69 : decode cX11_sign 69 = .ok (.iload 7, 2) := by decide +kernel
theorem dX11_sign_71 : decode cX11_sign 71 = .ok (.invokevirtual 231, 3) := by decide +kernel
theorem dX11_sign_74 : decode cX11_sign 74 = .ok (.invokevirtual 201, 3) := by decide +kernel
theorem dX11_sign_77 : decode cX11_sign 77 = .ok (.istore 8, 2) := by decide +kernel
theorem dX11_sign_79 : decode cX11_sign 79 = .ok (.bipush 25, 2) := by decide +kernel
theorem dX11_sign_81 : decode cX11_sign 81 = .ok (.iload 6, 2) := by decide +kernel
theorem dX11_sign_83 : decode cX11_sign 83 = .ok (.iconst 1, 1) := by decide +kernel
theorem dX11_sign_84 : decode cX11_sign 84 = .ok (.iadd, 1) := by decide +kernel
theorem dX11_sign_85 : decode cX11_sign 85 = .ok (.imul, 1) := by decide +kernel
theorem dX11_sign_86 : decode cX11_sign 86 = .ok (.istore 9, 2) := by decide +kernel
theorem dX11_sign_88 : decode cX11_sign 88 = .ok (.iload 5, 2) := by decide +kernel
theorem dX11_sign_90 : decode cX11_sign 90 = .ok (.ifCond .eq 18, 3) := by decide +kernel
theorem dX11_sign_93 : decode cX11_sign 93 = .ok (.aload_n 0, 1) := by decide +kernel
theorem dX11_sign_94 : decode cX11_sign 94 = .ok (.getfield 119, 3) := by decide +kernel
theorem dX11_sign_97 : decode cX11_sign 97 = .ok (.iload 9, 2) := by decide +kernel
theorem dX11_sign_99 : decode cX11_sign 99 = .ok (.iload_n 3, 1) := by decide +kernel
theorem dX11_sign_100 : decode cX11_sign 100 = .ok (.iadd, 1) := by decide +kernel
theorem dX11_sign_101 : decode cX11_sign 101 = .ok (.iaload, 1) := by decide +kernel
theorem dX11_sign_102 : decode cX11_sign 102 = .ok (.ifCond .le 24, 3) := by decide +kernel
theorem dX11_sign_105 : decode cX11_sign 105 = .ok (.goto 15, 3) := by decide +kernel
theorem dX11_sign_108 : decode cX11_sign 108 = .ok (.aload_n 0, 1) := by decide +kernel
theorem dX11_sign_109 : decode cX11_sign 109 = .ok (.getfield 122, 3) := by decide +kernel
theorem dX11_sign_112 : decode cX11_sign 112 = .ok (.iload 9, 2) := by decide +kernel
theorem dX11_sign_114 : decode cX11_sign 114 = .ok (.iload_n 3, 1) := by decide +kernel
theorem dX11_sign_115 : decode cX11_sign 115 = .ok (.iadd, 1) := by decide +kernel
theorem dX11_sign_116 : decode cX11_sign 116 = .ok (.baload, 1) := by decide +kernel
theorem dX11_sign_117 : decode cX11_sign 117 = .ok (.ifCond .eq 9, 3) := by decide +kernel
theorem dX11_sign_120 : decode cX11_sign 120 = .ok (.iconst 0, 1) := by decide +kernel
theorem dX11_sign_121 : decode cX11_sign 121 = .ok (.istore 4, 2) := by decide +kernel
theorem dX11_sign_123 : decode cX11_sign 123 = .ok (.goto 42, 3) := by decide +kernel
theorem dX11_sign_126 : decode cX11_sign 126 = .ok (.aload_n 0, 1) := by decide +kernel
theorem dX11_sign_127 : decode cX11_sign 127 = .ok (.getfield 119, 3) := by decide +kernel
theorem dX11_sign_130 : decode cX11_sign 130 = .ok (.iload 9, 2) := by decide +kernel
theorem dX11_sign_132 : decode cX11_sign 132 = .ok (.iload 8, 2) := by decide +kernel
theorem dX11_sign_134 : decode cX11_sign 134 = .ok (.iadd, 1) := by decide +kernel
theorem dX11_sign_135 : decode cX11_sign 135 = .ok (.iaload, 1) := by decide +kernel
theorem dX11_sign_136 : decode cX11_sign 136 = .ok (.ifCond .le 15, 3) := by decide +kernel
theorem dX11_sign_139 : decode cX11_sign 139 = .ok (.iconst 1, 1) := by decide +kernel
theorem dX11_sign_140 : decode cX11_sign 140 = .ok (.istore 4, 2) := by decide +kernel
theorem dX11_sign_142 : decode cX11_sign 142 = .ok (.iload 8, 2) := by decide +kernel
theorem dX11_sign_144 : decode cX11_sign 144 = .ok (.istore_n 3, 1) := by decide +kernel
theorem dX11_sign_145 : decode cX11_sign 145 = .ok (.iconst 1, 1) := by decide +kernel
theorem dX11_sign_146 : decode cX11_sign 146 = .ok (.istore 5, 2) := by decide +kernel
theorem dX11_sign_148 : decode cX11_sign 148 = .ok (.goto 17, 3) := by decide +kernel
theorem dX11_sign_151 : decode cX11_sign 151 = .ok (.iconst 2, 1) := by decide +kernel
theorem dX11_sign_152 : decode cX11_sign 152 = .ok (.istore 4, 2) := by decide +kernel
theorem dX11_sign_154 : decode cX11_sign 154 = .ok (.aload_n 0, 1) := by decide +kernel
theorem dX11_sign_155 : decode cX11_sign 155 = .ok (.iload_n 3, 1) := by decide +kernel
theorem dX11_sign_156 : decode cX11_sign 156 = .ok (.iload 7, 2) := by decide +kernel
theorem dX11_sign_158 : decode cX11_sign 158 = .ok (.invokevirtual 201, 3) := by decide +kernel
theorem dX11_sign_161 : decode cX11_sign 161 = .ok (.istore_n 3, 1) := by decide +kernel
theorem dX11_sign_162 : decode cX11_sign 162 = .ok (.iconst 1, 1) := by decide +kernel
theorem dX11_sign_163 : decode cX11_sign 163 = .ok (.istore 5, 2) := by decide +kernel
theorem dX11_sign_165 : decode cX11_sign 165 = .ok (.iinc 6 1, 3) := by decide +kernel
theorem dX11_sign_168 : decode cX11_sign 168 = .ok (.goto (-119), 3) := by decide +kernel
theorem dX11_sign_171 : decode cX11_sign 171 = .ok (.iload 4, 2) := by decide +kernel
theorem dX11_sign_173 : decode cX11_sign 173 = .ok (.ireturn, 1) := by decide +kernel
theorem dX11_sorts_0 : decode cX11_sorts 0 = .ok (.iconst 1, 1) := by decide +kernel
theorem dX11_sorts_1 : decode cX11_sorts 1 = .ok (.istore_n 2, 1) := by decide +kernel
theorem dX11_sorts_2 : decode cX11_sorts 2 = .ok (.iload_n 2, 1) := by decide +kernel
theorem dX11_sorts_3 : decode cX11_sorts 3 = .ok (.iload_n 1, 1) := by decide +kernel
theorem dX11_sorts_4 : decode cX11_sorts 4 = .ok (.if_icmp .ge 52, 3) := by decide +kernel
theorem dX11_sorts_7 : decode cX11_sorts 7 = .ok (.aload_n 0, 1) := by decide +kernel
theorem dX11_sorts_8 : decode cX11_sorts 8 = .ok (.iload_n 2, 1) := by decide +kernel
theorem dX11_sorts_9 : decode cX11_sorts 9 = .ok (.iaload, 1) := by decide +kernel
theorem dX11_sorts_10 : decode cX11_sorts 10 = .ok (.istore_n 3, 1) := by decide +kernel
theorem dX11_sorts_11 : decode cX11_sorts 11 = .ok (.iload_n 2, 1) := by decide +kernel
theorem dX11_sorts_12 : decode cX11_sorts 12 = .ok (.istore 4, 2) := by decide +kernel
theorem dX11_sorts_14 : decode cX11_sorts 14 = .ok (.iload 4, 2) := by decide +kernel
theorem dX11_sorts_16 : decode cX11_sorts 16 = .ok (.ifCond .le 29, 3) := by decide +kernel
theorem dX11_sorts_19 : decode cX11_sorts 19 = .ok (.aload_n 0, 1) := by decide +kernel
theorem dX11_sorts_20 : decode cX11_sorts 20 = .ok (.iload 4, 2) := by decide +kernel
theorem dX11_sorts_22 : decode cX11_sorts 22 = .ok (.iconst 1, 1) := by decide +kernel
theorem dX11_sorts_23 : decode cX11_sorts 23 = .ok (.isub, 1) := by decide +kernel
theorem dX11_sorts_24 : decode cX11_sorts 24 = .ok (.iaload, 1) := by decide +kernel
theorem dX11_sorts_25 : decode cX11_sorts 25 = .ok (.iload_n 3, 1) := by decide +kernel
theorem dX11_sorts_26 : decode cX11_sorts 26 = .ok (.if_icmp .le 19, 3) := by decide +kernel
theorem dX11_sorts_29 : decode cX11_sorts 29 = .ok (.aload_n 0, 1) := by decide +kernel
theorem dX11_sorts_30 : decode cX11_sorts 30 = .ok (.iload 4, 2) := by decide +kernel
theorem dX11_sorts_32 : decode cX11_sorts 32 = .ok (.aload_n 0, 1) := by decide +kernel
theorem dX11_sorts_33 : decode cX11_sorts 33 = .ok (.iload 4, 2) := by decide +kernel
theorem dX11_sorts_35 : decode cX11_sorts 35 = .ok (.iconst 1, 1) := by decide +kernel
theorem dX11_sorts_36 : decode cX11_sorts 36 = .ok (.isub, 1) := by decide +kernel
theorem dX11_sorts_37 : decode cX11_sorts 37 = .ok (.iaload, 1) := by decide +kernel
theorem dX11_sorts_38 : decode cX11_sorts 38 = .ok (.iastore, 1) := by decide +kernel
theorem dX11_sorts_39 : decode cX11_sorts 39 = .ok (.iinc 4 (-1), 3) := by decide +kernel
theorem dX11_sorts_42 : decode cX11_sorts 42 = .ok (.goto (-28), 3) := by decide +kernel
theorem dX11_sorts_45 : decode cX11_sorts 45 = .ok (.aload_n 0, 1) := by decide +kernel
theorem dX11_sorts_46 : decode cX11_sorts 46 = .ok (.iload 4, 2) := by decide +kernel
theorem dX11_sorts_48 : decode cX11_sorts 48 = .ok (.iload_n 3, 1) := by decide +kernel
theorem dX11_sorts_49 : decode cX11_sorts 49 = .ok (.iastore, 1) := by decide +kernel
theorem dX11_sorts_50 : decode cX11_sorts 50 = .ok (.iinc 2 1, 3) := by decide +kernel
theorem dX11_sorts_53 : decode cX11_sorts 53 = .ok (.goto (-51), 3) := by decide +kernel
theorem dX11_sorts_56 : decode cX11_sorts 56 = .ok (.return_, 1) := by decide +kernel
theorem dX11_isLess_0 : decode cX11_isLess 0 = .ok (.iconst 0, 1) := by decide +kernel
theorem dX11_isLess_1 : decode cX11_isLess 1 = .ok (.istore_n 1, 1) := by decide +kernel
theorem dX11_isLess_2 : decode cX11_isLess 2 = .ok (.iload_n 1, 1) := by decide +kernel
theorem dX11_isLess_3 : decode cX11_isLess 3 = .ok (.aload_n 0, 1) := by decide +kernel
theorem dX11_isLess_4 : decode cX11_isLess 4 = .ok (.invokevirtual 190, 3) := by decide +kernel
theorem dX11_isLess_7 : decode cX11_isLess 7 = .ok (.if_icmp .ge 24, 3) := by decide +kernel
theorem dX11_isLess_10 : decode cX11_isLess 10 = .ok (.aload_n 0, 1) := by decide +kernel
theorem dX11_isLess_11 : decode cX11_isLess 11 = .ok (.getfield 128, 3) := by decide +kernel
theorem dX11_isLess_14 : decode cX11_isLess 14 = .ok (.iload_n 1, 1) := by decide +kernel
theorem dX11_isLess_15 : decode cX11_isLess 15 = .ok (.iaload, 1) := by decide +kernel
theorem dX11_isLess_16 : decode cX11_isLess 16 = .ok (.aload_n 0, 1) := by decide +kernel
theorem dX11_isLess_17 : decode cX11_isLess 17 = .ok (.getfield 125, 3) := by decide +kernel
theorem dX11_isLess_20 : decode cX11_isLess 20 = .ok (.iload_n 1, 1) := by decide +kernel
theorem dX11_isLess_21 : decode cX11_isLess 21 = .ok (.iaload, 1) := by decide +kernel
theorem dX11_isLess_22 : decode cX11_isLess 22 = .ok (.if_icmp .ne 9, 3) := by decide +kernel
theorem dX11_isLess_25 : decode cX11_isLess 25 = .ok (.iinc 1 1, 3) := by decide +kernel
theorem dX11_isLess_28 : decode cX11_isLess 28 = .ok (.goto (-26), 3) := by decide +kernel
theorem dX11_isLess_31 : decode cX11_isLess 31 = .ok (.iload_n 1, 1) := by decide +kernel
theorem dX11_isLess_32 : decode cX11_isLess 32 = .ok (.aload_n 0, 1) := by decide +kernel
theorem dX11_isLess_33 : decode cX11_isLess 33 = .ok (.invokevirtual 190, 3) := by decide +kernel
theorem dX11_isLess_36 : decode cX11_isLess 36 = .ok (.if_icmp .ge 22, 3) := by decide +kernel
theorem dX11_isLess_39 : decode cX11_isLess 39 = .ok (.aload_n 0, 1) := by decide +kernel
theorem dX11_isLess_40 : decode cX11_isLess 40 = .ok (.getfield 128, 3) := by decide +kernel
theorem dX11_isLess_43 : decode cX11_isLess 43 = .ok (.iload_n 1, 1) := by decide +kernel
theorem dX11_isLess_44 : decode cX11_isLess 44 = .ok (.iaload, 1) := by decide +kernel
theorem dX11_isLess_45 : decode cX11_isLess 45 = .ok (.aload_n 0, 1) := by decide +kernel
theorem dX11_isLess_46 : decode cX11_isLess 46 = .ok (.getfield 125, 3) := by decide +kernel
theorem dX11_isLess_49 : decode cX11_isLess 49 = .ok (.iload_n 1, 1) := by decide +kernel
theorem dX11_isLess_50 : decode cX11_isLess 50 = .ok (.iaload, 1) := by decide +kernel
theorem dX11_isLess_51 : decode cX11_isLess 51 = .ok (.if_icmp .ge 7, 3) := by decide +kernel
theorem dX11_isLess_54 : decode cX11_isLess 54 = .ok (.iconst 1, 1) := by decide +kernel
theorem dX11_isLess_55 : decode cX11_isLess 55 = .ok (.goto 4, 3) := by decide +kernel
theorem dX11_isLess_58 : decode cX11_isLess 58 = .ok (.iconst 0, 1) := by decide +kernel
theorem dX11_isLess_59 : decode cX11_isLess 59 = .ok (.ireturn, 1) := by decide +kernel
theorem dX11_like_0 : decode cX11_like 0 = .ok (.aload_n 0, 1) := by decide +kernel
theorem dX11_like_1 : decode cX11_like 1 = .ok (.iconst 0, 1) := by decide +kernel
theorem dX11_like_2 : decode cX11_like 2 = .ok (.putfield 1, 3) := by decide +kernel
theorem dX11_like_5 : decode cX11_like 5 = .ok (.aload_n 0, 1) := by decide +kernel
theorem dX11_like_6 : decode cX11_like 6 = .ok (.iload_n 1, 1) := by decide +kernel
theorem dX11_like_7 : decode cX11_like 7 = .ok (.invokevirtual 216, 3) := by decide +kernel
theorem dX11_like_10 : decode cX11_like 10 = .ok (.ifCond .ne 5, 3) := by decide +kernel
theorem dX11_like_13 : decode cX11_like 13 = .ok (.iconst (-1), 1) := by decide +kernel
theorem dX11_like_14 : decode cX11_like 14 = .ok (.ireturn, 1) := by decide +kernel
theorem dX11_like_15 : decode cX11_like 15 = .ok (.iconst 1, 1) := by decide +kernel
theorem dX11_like_16 : decode cX11_like 16 = .ok (.istore_n 2, 1) := by decide +kernel
theorem dX11_like_17 : decode cX11_like 17 = .ok (.iload_n 2, 1) := by decide +kernel
theorem dX11_like_18 : decode cX11_like 18 = .ok (.aload_n 0, 1) := by decide +kernel
theorem dX11_like_19 : decode cX11_like 19 = .ok (.invokevirtual 210, 3) := by decide +kernel
theorem dX11_like_22 : decode cX11_like 22 = .ok (.if_icmp .gt 113, 3) := by decide +kernel
theorem dX11_like_25 : decode cX11_like 25 = .ok (.iload_n 2, 1) := by decide +kernel
theorem dX11_like_26 : decode cX11_like 26 = .ok (.aload_n 0, 1) := by decide +kernel
theorem dX11_like_27 : decode cX11_like 27 = .ok (.invokevirtual 210, 3) := by decide +kernel
theorem dX11_like_30 : decode cX11_like 30 = .ok (.invokestatic 197, 3) := by decide +kernel
theorem dX11_like_33 : decode cX11_like 33 = .ok (.iconst 1, 1) := by decide +kernel
theorem dX11_like_34 : decode cX11_like 34 = .ok (.if_icmp .eq 6, 3) := by decide +kernel
theorem dX11_like_37 : decode cX11_like 37 = .ok (.goto 92, 3) := by decide +kernel
theorem dX11_like_40 : decode cX11_like 40 = .ok (.iconst 0, 1) := by decide +kernel
theorem dX11_like_41 : decode cX11_like 41 = .ok (.istore_n 3, 1) := by decide +kernel
theorem dX11_like_42 : decode cX11_like 42 = .ok (.iload_n 3, 1) := by decide +kernel
theorem dX11_like_43 : decode cX11_like 43 = .ok (.aload_n 0, 1) := by decide +kernel
theorem dX11_like_44 : decode cX11_like 44 = .ok (.invokevirtual 190, 3) := by decide +kernel
theorem dX11_like_47 : decode cX11_like 47 = .ok (.if_icmp .ge 28, 3) := by decide +kernel
theorem dX11_like_50 : decode cX11_like 50 = .ok (.aload_n 0, 1) := by decide +kernel
theorem dX11_like_51 : decode cX11_like 51 = .ok (.getfield 128, 3) := by decide +kernel
theorem dX11_like_54 : decode cX11_like 54 = .ok (.iload_n 3, 1) := by decide +kernel
theorem dX11_like_55 : decode cX11_like 55 = .ok (.aload_n 0, 1) := by decide +kernel
theorem dX11_like_56 : decode cX11_like 56 = .ok (.aload_n 0, 1) := by decide +kernel
theorem dX11_like_57 : decode cX11_like 57 = .ok (.getfield 85, 3) := by decide +kernel
theorem dX11_like_60 : decode cX11_like 60 = .ok (.iconst 5, 1) := by decide +kernel
theorem dX11_like_61 : decode cX11_like 61 = .ok (.iload_n 3, 1) := by decide +kernel
theorem dX11_like_62 : decode cX11_like 62 = .ok (.iadd, 1) := by decide +kernel
theorem dX11_like_63 : decode cX11_like 63 = .ok (.iaload, 1) := by decide +kernel
theorem dX11_like_64 : decode cX11_like 64 = .ok (.iload_n 2, 1) := by decide +kernel
theorem dX11_like_65 : decode cX11_like 65 = .ok (.invokevirtual 249, 3) := by decide +kernel
theorem dX11_like_68 : decode cX11_like 68 = .ok (.iastore, 1) := by decide +kernel
theorem dX11_like_69 : decode cX11_like 69 = .ok (.iinc 3 1, 3) := by decide +kernel
theorem dX11_like_72 : decode cX11_like 72 = .ok (.goto (-30), 3) := by decide +kernel
theorem dX11_like_75 : decode cX11_like 75 = .ok (.aload_n 0, 1) := by decide +kernel
theorem dX11_like_76 : decode cX11_like 76 = .ok (.getfield 128, 3) := by decide +kernel
theorem dX11_like_79 : decode cX11_like 79 = .ok (.aload_n 0, 1) := by decide +kernel
theorem dX11_like_80 : decode cX11_like 80 = .ok (.invokevirtual 190, 3) := by decide +kernel
theorem dX11_like_83 : decode cX11_like 83 = .ok (.invokestatic 252, 3) := by decide +kernel
theorem dX11_like_86 : decode cX11_like 86 = .ok (.iload_n 2, 1) := by decide +kernel
theorem dX11_like_87 : decode cX11_like 87 = .ok (.iconst 1, 1) := by decide +kernel
theorem dX11_like_88 : decode cX11_like 88 = .ok (.if_icmp .le 13, 3) := by decide +kernel
theorem dX11_like_91 : decode cX11_like 91 = .ok (.aload_n 0, 1) := by decide +kernel
theorem dX11_like_92 : decode cX11_like 92 = .ok (.invokevirtual 256, 3) := by decide +kernel
theorem dX11_like_95 : decode cX11_like 95 = .ok (.ifCond .ne 6, 3) := by decide +kernel
theorem dX11_like_98 : decode cX11_like 98 = .ok (.goto 31, 3) := by decide +kernel
theorem dX11_like_101 : decode cX11_like 101 = .ok (.iconst 0, 1) := by decide +kernel
theorem dX11_like_102 : decode cX11_like 102 = .ok (.istore_n 3, 1) := by decide +kernel
theorem dX11_like_103 : decode cX11_like 103 = .ok (.iload_n 3, 1) := by decide +kernel
theorem dX11_like_104 : decode cX11_like 104 = .ok (.aload_n 0, 1) := by decide +kernel
theorem dX11_like_105 : decode cX11_like 105 = .ok (.invokevirtual 190, 3) := by decide +kernel
theorem dX11_like_108 : decode cX11_like 108 = .ok (.if_icmp .ge 21, 3) := by decide +kernel
theorem dX11_like_111 : decode cX11_like 111 = .ok (.aload_n 0, 1) := by decide +kernel
theorem dX11_like_112 : decode cX11_like 112 = .ok (.getfield 125, 3) := by decide +kernel
theorem dX11_like_115 : decode cX11_like 115 = .ok (.iload_n 3, 1) := by decide +kernel
theorem dX11_like_116 : decode cX11_like 116 = .ok (.aload_n 0, 1) := by decide +kernel
theorem dX11_like_117 : decode cX11_like 117 = .ok (.getfield 128, 3) := by decide +kernel
theorem dX11_like_120 : decode cX11_like 120 = .ok (.iload_n 3, 1) := by decide +kernel
theorem dX11_like_121 : decode cX11_like 121 = .ok (.iaload, 1) := by decide +kernel
theorem dX11_like_122 : decode cX11_like 122 = .ok (.iastore, 1) := by decide +kernel
theorem dX11_like_123 : decode cX11_like 123 = .ok (.iinc 3 1, 3) := by decide +kernel
theorem dX11_like_126 : decode cX11_like 126 = .ok (.goto (-23), 3) := by decide +kernel
theorem dX11_like_129 : decode cX11_like 129 = .ok (.iinc 2 1, 3) := by decide +kernel
theorem dX11_like_132 : decode cX11_like 132 = .ok (.goto (-115), 3) := by decide +kernel
theorem dX11_like_135 : decode cX11_like 135 = .ok (.aload_n 0, 1) := by decide +kernel
theorem dX11_like_136 : decode cX11_like 136 = .ok (.getfield 125, 3) := by decide +kernel
theorem dX11_like_139 : decode cX11_like 139 = .ok (.iload_n 1, 1) := by decide +kernel
theorem dX11_like_140 : decode cX11_like 140 = .ok (.iaload, 1) := by decide +kernel
theorem dX11_like_141 : decode cX11_like 141 = .ok (.ireturn, 1) := by decide +kernel
theorem dX11_grows_0 : decode cX11_grows 0 = .ok (.aload_n 0, 1) := by decide +kernel
theorem dX11_grows_1 : decode cX11_grows 1 = .ok (.getfield 131, 3) := by decide +kernel
theorem dX11_grows_4 : decode cX11_grows 4 = .ok (.iload_n 1, 1) := by decide +kernel
theorem dX11_grows_5 : decode cX11_grows 5 = .ok (.dup2, 1) := by decide +kernel
theorem dX11_grows_6 : decode cX11_grows 6 = .ok (.iaload, 1) := by decide +kernel
theorem dX11_grows_7 : decode cX11_grows 7 = .ok (.iconst 1, 1) := by decide +kernel
theorem dX11_grows_8 : decode cX11_grows 8 = .ok (.iadd, 1) := by decide +kernel
theorem dX11_grows_9 : decode cX11_grows 9 = .ok (.iastore, 1) := by decide +kernel
theorem dX11_grows_10 : decode cX11_grows 10 = .ok (.iload_n 1, 1) := by decide +kernel
theorem dX11_grows_11 : decode cX11_grows 11 = .ok (.aload_n 0, 1) := by decide +kernel
theorem dX11_grows_12 : decode cX11_grows 12 = .ok (.getfield 259, 3) := by decide +kernel
theorem dX11_grows_15 : decode cX11_grows 15 = .ok (.if_icmp .le 37, 3) := by decide +kernel
theorem dX11_grows_18 : decode cX11_grows 18 = .ok (.aload_n 0, 1) := by decide +kernel
theorem dX11_grows_19 : decode cX11_grows 19 = .ok (.iload_n 1, 1) := by decide +kernel
theorem dX11_grows_20 : decode cX11_grows 20 = .ok (.putfield 259, 3) := by decide +kernel
theorem dX11_grows_23 : decode cX11_grows 23 = .ok (.iconst 0, 1) := by decide +kernel
theorem dX11_grows_24 : decode cX11_grows 24 = .ok (.istore 4, 2) := by decide +kernel
theorem dX11_grows_26 : decode cX11_grows 26 = .ok (.iload 4, 2) := by decide +kernel
theorem dX11_grows_28 : decode cX11_grows 28 = .ok (.iload_n 1, 1) := by decide +kernel
theorem dX11_grows_29 : decode cX11_grows 29 = .ok (.if_icmp .ge 23, 3) := by decide +kernel
theorem dX11_grows_32 : decode cX11_grows 32 = .ok (.aload_n 0, 1) := by decide +kernel
theorem dX11_grows_33 : decode cX11_grows 33 = .ok (.getfield 137, 3) := by decide +kernel
theorem dX11_grows_36 : decode cX11_grows 36 = .ok (.iload 4, 2) := by decide +kernel
theorem dX11_grows_38 : decode cX11_grows 38 = .ok (.aload_n 0, 1) := by decide +kernel
theorem dX11_grows_39 : decode cX11_grows 39 = .ok (.getfield 134, 3) := by decide +kernel
theorem dX11_grows_42 : decode cX11_grows 42 = .ok (.iload 4, 2) := by decide +kernel
theorem dX11_grows_44 : decode cX11_grows 44 = .ok (.iaload, 1) := by decide +kernel
theorem dX11_grows_45 : decode cX11_grows 45 = .ok (.iastore, 1) := by decide +kernel
theorem dX11_grows_46 : decode cX11_grows 46 = .ok (.iinc 4 1, 3) := by decide +kernel
theorem dX11_grows_49 : decode cX11_grows 49 = .ok (.goto (-23), 3) := by decide +kernel
theorem dX11_grows_52 : decode cX11_grows 52 = .ok (.iload_n 2, 1) := by decide +kernel
theorem dX11_grows_53 : decode cX11_grows 53 = .ok (.istore 4, 2) := by decide +kernel
theorem dX11_grows_55 : decode cX11_grows 55 = .ok (.iload 4, 2) := by decide +kernel
theorem dX11_grows_57 : decode cX11_grows 57 = .ok (.aload_n 0, 1) := by decide +kernel
theorem dX11_grows_58 : decode cX11_grows 58 = .ok (.invokevirtual 186, 3) := by decide +kernel
theorem dX11_grows_61 : decode cX11_grows 61 = .ok (.if_icmp .ge 61, 3) := by decide +kernel
theorem dX11_grows_64 : decode cX11_grows 64 = .ok (.iload 4, 2) := by decide +kernel
theorem dX11_grows_66 : decode cX11_grows 66 = .ok (.ifCond .eq 50, 3) := by decide +kernel
theorem dX11_grows_69 : decode cX11_grows 69 = .ok (.iload_n 3, 1) := by decide +kernel
theorem dX11_grows_70 : decode cX11_grows 70 = .ok (.aload_n 0, 1) := by decide +kernel
theorem dX11_grows_71 : decode cX11_grows 71 = .ok (.iload 4, 2) := by decide +kernel
theorem dX11_grows_73 : decode cX11_grows 73 = .ok (.invokevirtual 231, 3) := by decide +kernel
theorem dX11_grows_76 : decode cX11_grows 76 = .ok (.invokestatic 7, 3) := by decide +kernel
theorem dX11_grows_79 : decode cX11_grows 79 = .ok (.ifCond .eq 6, 3) := by decide +kernel
theorem dX11_grows_82 : decode cX11_grows 82 = .ok (.goto 34, 3) := by decide +kernel
theorem dX11_grows_85 : decode cX11_grows 85 = .ok (.aload_n 0, 1) := by decide +kernel
theorem dX11_grows_86 : decode cX11_grows 86 = .ok (.getfield 134, 3) := by decide +kernel
theorem dX11_grows_89 : decode cX11_grows 89 = .ok (.iload_n 1, 1) := by decide +kernel
theorem dX11_grows_90 : decode cX11_grows 90 = .ok (.iload 4, 2) := by decide +kernel
theorem dX11_grows_92 : decode cX11_grows 92 = .ok (.iastore, 1) := by decide +kernel
theorem dX11_grows_93 : decode cX11_grows 93 = .ok (.aload_n 0, 1) := by decide +kernel
theorem dX11_grows_94 : decode cX11_grows 94 = .ok (.iload_n 1, 1) := by decide +kernel
theorem dX11_grows_95 : decode cX11_grows 95 = .ok (.iconst 1, 1) := by decide +kernel
theorem dX11_grows_96 : decode cX11_grows 96 = .ok (.iadd, 1) := by decide +kernel
theorem dX11_grows_97 : decode cX11_grows 97 = .ok (.iload 4, 2) := by decide +kernel
theorem dX11_grows_99 : decode cX11_grows 99 = .ok (.iload_n 3, 1) := by decide +kernel
theorem dX11_grows_100 : decode cX11_grows 100 = .ok (.aload_n 0, 1) := by decide +kernel
theorem dX11_grows_101 : decode cX11_grows 101 = .ok (.iload_n 3, 1) := by decide +kernel
theorem dX11_grows_102 : decode cX11_grows 102 = .ok (.iload 4, 2) := by decide +kernel
theorem dX11_grows_104 : decode cX11_grows 104 = .ok (.invokevirtual 262, 3) := by decide +kernel
theorem dX11_grows_107 : decode cX11_grows 107 = .ok (.ior, 1) := by decide +kernel
theorem dX11_grows_108 : decode cX11_grows 108 = .ok (.iconst 1, 1) := by decide +kernel
theorem dX11_grows_109 : decode cX11_grows 109 = .ok (.iload 4, 2) := by decide +kernel
theorem dX11_grows_111 : decode cX11_grows 111 = .ok (.ishl, 1) := by decide +kernel
theorem dX11_grows_112 : decode cX11_grows 112 = .ok (.ior, 1) := by decide +kernel
theorem dX11_grows_113 : decode cX11_grows 113 = .ok (.invokevirtual 265, 3) := by decide +kernel
theorem dX11_grows_116 : decode cX11_grows 116 = .ok (.iinc 4 1, 3) := by decide +kernel
theorem dX11_grows_119 : decode cX11_grows 119 = .ok (.goto (-64), 3) := by decide +kernel
theorem dX11_grows_122 : decode cX11_grows 122 = .ok (.return_, 1) := by decide +kernel
theorem dX11_laysFree_0 : decode cX11_laysFree 0 = .ok (.aload_n 0, 1) := by decide +kernel
theorem dX11_laysFree_1 : decode cX11_laysFree 1 = .ok (.invokevirtual 186, 3) := by decide +kernel
theorem dX11_laysFree_4 : decode cX11_laysFree 4 = .ok (.iconst 1, 1) := by decide +kernel
theorem dX11_laysFree_5 : decode cX11_laysFree 5 = .ok (.bipush 12, 2) := by decide +kernel
theorem dX11_laysFree_7 : decode cX11_laysFree 7 = .ok (.invokestatic 157, 3) := by decide +kernel
theorem dX11_laysFree_10 : decode cX11_laysFree 10 = .ok (.ifCond .ne 5, 3) := by decide +kernel
theorem dX11_laysFree_13 : decode cX11_laysFree 13 = .ok (.iconst 0, 1) := by decide +kernel
theorem dX11_laysFree_14 : decode cX11_laysFree 14 = .ok (.ireturn, 1) := by decide +kernel
theorem dX11_laysFree_15 : decode cX11_laysFree 15 = .ok (.iconst 0, 1) := by decide +kernel
theorem dX11_laysFree_16 : decode cX11_laysFree 16 = .ok (.istore_n 1, 1) := by decide +kernel
theorem dX11_laysFree_17 : decode cX11_laysFree 17 = .ok (.iload_n 1, 1) := by decide +kernel
theorem dX11_laysFree_18 : decode cX11_laysFree 18 = .ok (.bipush 13, 2) := by decide +kernel
theorem dX11_laysFree_20 : decode cX11_laysFree 20 = .ok (.if_icmp .ge 16, 3) := by decide +kernel
theorem dX11_laysFree_23 : decode cX11_laysFree 23 = .ok (.aload_n 0, 1) := by decide +kernel
theorem dX11_laysFree_24 : decode cX11_laysFree 24 = .ok (.getfield 131, 3) := by decide +kernel
theorem dX11_laysFree_27 : decode cX11_laysFree 27 = .ok (.iload_n 1, 1) := by decide +kernel
theorem dX11_laysFree_28 : decode cX11_laysFree 28 = .ok (.iconst 0, 1) := by decide +kernel
theorem dX11_laysFree_29 : decode cX11_laysFree 29 = .ok (.iastore, 1) := by decide +kernel
theorem dX11_laysFree_30 : decode cX11_laysFree 30 = .ok (.iinc 1 1, 3) := by decide +kernel
theorem dX11_laysFree_33 : decode cX11_laysFree 33 = .ok (.goto (-16), 3) := by decide +kernel
theorem dX11_laysFree_36 : decode cX11_laysFree 36 = .ok (.aload_n 0, 1) := by decide +kernel
theorem dX11_laysFree_37 : decode cX11_laysFree 37 = .ok (.iconst 0, 1) := by decide +kernel
theorem dX11_laysFree_38 : decode cX11_laysFree 38 = .ok (.putfield 259, 3) := by decide +kernel
theorem dX11_laysFree_41 : decode cX11_laysFree 41 = .ok (.aload_n 0, 1) := by decide +kernel
theorem dX11_laysFree_42 : decode cX11_laysFree 42 = .ok (.iconst 0, 1) := by decide +kernel
theorem dX11_laysFree_43 : decode cX11_laysFree 43 = .ok (.iconst 0, 1) := by decide +kernel
theorem dX11_laysFree_44 : decode cX11_laysFree 44 = .ok (.iconst 0, 1) := by decide +kernel
theorem dX11_laysFree_45 : decode cX11_laysFree 45 = .ok (.invokevirtual 265, 3) := by decide +kernel
theorem dX11_laysFree_48 : decode cX11_laysFree 48 = .ok (.iconst 1, 1) := by decide +kernel
theorem dX11_laysFree_49 : decode cX11_laysFree 49 = .ok (.ireturn, 1) := by decide +kernel
theorem dX11_frees_0 : decode cX11_frees 0 = .ok (.aload_n 0, 1) := by decide +kernel
theorem dX11_frees_1 : decode cX11_frees 1 = .ok (.iconst 0, 1) := by decide +kernel
theorem dX11_frees_2 : decode cX11_frees 2 = .ok (.putfield 1, 3) := by decide +kernel
theorem dX11_frees_5 : decode cX11_frees 5 = .ok (.iload_n 1, 1) := by decide +kernel
theorem dX11_frees_6 : decode cX11_frees 6 = .ok (.iconst 0, 1) := by decide +kernel
theorem dX11_frees_7 : decode cX11_frees 7 = .ok (.bipush 12, 2) := by decide +kernel
theorem dX11_frees_9 : decode cX11_frees 9 = .ok (.invokestatic 157, 3) := by decide +kernel
theorem dX11_frees_12 : decode cX11_frees 12 = .ok (.ifCond .eq 19, 3) := by decide +kernel
theorem dX11_frees_15 : decode cX11_frees 15 = .ok (.aload_n 0, 1) := by decide +kernel
theorem dX11_frees_16 : decode cX11_frees 16 = .ok (.invokevirtual 269, 3) := by decide +kernel
theorem dX11_frees_19 : decode cX11_frees 19 = .ok (.ifCond .eq 12, 3) := by decide +kernel
theorem dX11_frees_22 : decode cX11_frees 22 = .ok (.aload_n 0, 1) := by decide +kernel
theorem dX11_frees_23 : decode cX11_frees 23 = .ok (.getfield 131, 3) := by decide +kernel
theorem dX11_frees_26 : decode cX11_frees 26 = .ok (.iload_n 1, 1) := by decide +kernel
theorem dX11_frees_27 : decode cX11_frees 27 = .ok (.iaload, 1) := by decide +kernel
theorem dX11_frees_28 : decode cX11_frees 28 = .ok (.goto 4, 3) := by decide +kernel
theorem dX11_frees_31 : decode cX11_frees 31 = .ok (.iconst (-1), 1) := by decide +kernel
theorem dX11_frees_32 : decode cX11_frees 32 = .ok (.ireturn, 1) := by decide +kernel
theorem dX11_longest_0 : decode cX11_longest 0 = .ok (.aload_n 0, 1) := by decide +kernel
theorem dX11_longest_1 : decode cX11_longest 1 = .ok (.iconst 0, 1) := by decide +kernel
theorem dX11_longest_2 : decode cX11_longest 2 = .ok (.putfield 1, 3) := by decide +kernel
theorem dX11_longest_5 : decode cX11_longest 5 = .ok (.aload_n 0, 1) := by decide +kernel
theorem dX11_longest_6 : decode cX11_longest 6 = .ok (.invokevirtual 269, 3) := by decide +kernel
theorem dX11_longest_9 : decode cX11_longest 9 = .ok (.ifCond .eq 10, 3) := by decide +kernel
theorem dX11_longest_12 : decode cX11_longest 12 = .ok (.aload_n 0, 1) := by decide +kernel
theorem dX11_longest_13 : decode cX11_longest 13 = .ok (.getfield 259, 3) := by decide +kernel
theorem dX11_longest_16 : decode cX11_longest 16 = .ok (.goto 4, 3) := by decide +kernel
theorem dX11_longest_19 : decode cX11_longest 19 = .ok (.iconst (-1), 1) := by decide +kernel
theorem dX11_longest_20 : decode cX11_longest 20 = .ok (.ireturn, 1) := by decide +kernel
theorem dX11_longestAt_0 : decode cX11_longestAt 0 = .ok (.aload_n 0, 1) := by decide +kernel
theorem dX11_longestAt_1 : decode cX11_longestAt 1 = .ok (.iconst 0, 1) := by decide +kernel
theorem dX11_longestAt_2 : decode cX11_longestAt 2 = .ok (.putfield 1, 3) := by decide +kernel
theorem dX11_longestAt_5 : decode cX11_longestAt 5 = .ok (.aload_n 0, 1) := by decide +kernel
theorem dX11_longestAt_6 : decode cX11_longestAt 6 = .ok (.invokevirtual 269, 3) := by decide +kernel
theorem dX11_longestAt_9 : decode cX11_longestAt 9 = .ok (.ifCond .eq 26, 3) := by decide +kernel
theorem dX11_longestAt_12 : decode cX11_longestAt 12 = .ok (.iload_n 1, 1) := by decide +kernel
theorem dX11_longestAt_13 : decode cX11_longestAt 13 = .ok (.iconst 0, 1) := by decide +kernel
theorem dX11_longestAt_14 : decode cX11_longestAt 14 = .ok (.aload_n 0, 1) := by decide +kernel
theorem dX11_longestAt_15 : decode cX11_longestAt 15 = .ok (.getfield 259, 3) := by decide +kernel
theorem dX11_longestAt_18 : decode cX11_longestAt 18 = .ok (.iconst 1, 1) := by decide +kernel
theorem dX11_longestAt_19 : decode cX11_longestAt 19 = .ok (.isub, 1) := by decide +kernel
theorem dX11_longestAt_20 : decode cX11_longestAt 20 = .ok (.invokestatic 157, 3) := by decide +kernel
theorem dX11_longestAt_23 : decode cX11_longestAt 23 = .ok (.ifCond .eq 12, 3) := by decide +kernel
theorem dX11_longestAt_26 : decode cX11_longestAt 26 = .ok (.aload_n 0, 1) := by decide +kernel
theorem dX11_longestAt_27 : decode cX11_longestAt 27 = .ok (.getfield 137, 3) := by decide +kernel
theorem dX11_longestAt_30 : decode cX11_longestAt 30 = .ok (.iload_n 1, 1) := by decide +kernel
theorem dX11_longestAt_31 : decode cX11_longestAt 31 = .ok (.iaload, 1) := by decide +kernel
theorem dX11_longestAt_32 : decode cX11_longestAt 32 = .ok (.goto 4, 3) := by decide +kernel
theorem dX11_longestAt_35 : decode cX11_longestAt 35 = .ok (.iconst (-1), 1) := by decide +kernel
theorem dX11_longestAt_36 : decode cX11_longestAt 36 = .ok (.ireturn, 1) := by decide +kernel
theorem dX11_mostWithout_0 : decode cX11_mostWithout 0 = .ok (.iload_n 1, 1) := by decide +kernel
theorem dX11_mostWithout_1 : decode cX11_mostWithout 1 = .ok (.istore 4, 2) := by decide +kernel
theorem dX11_mostWithout_3 : decode cX11_mostWithout 3 = .ok (.iload_n 2, 1) := by decide +kernel
theorem dX11_mostWithout_4 : decode cX11_mostWithout 4 = .ok (.istore 5, 2) := by decide +kernel
theorem dX11_mostWithout_6 : decode cX11_mostWithout 6 = .ok (.iload 5, 2) := by decide +kernel
theorem dX11_mostWithout_8 : decode cX11_mostWithout 8 = .ok (.aload_n 0, 1) := by decide +kernel
theorem dX11_mostWithout_9 : decode cX11_mostWithout 9 = .ok (.invokevirtual 186, 3) := by decide +kernel
theorem dX11_mostWithout_12 : decode cX11_mostWithout 12 = .ok (.if_icmp .ge 126, 3) := by decide +kernel
theorem dX11_mostWithout_15 : decode cX11_mostWithout 15 = .ok (.iconst 0, 1) := by decide +kernel
theorem dX11_mostWithout_16 : decode cX11_mostWithout 16 = .ok (.istore 6, 2) := by decide +kernel
theorem dX11_mostWithout_18 : decode cX11_mostWithout 18 = .ok (.iload 6, 2) := by decide +kernel
theorem dX11_mostWithout_20 : decode cX11_mostWithout 20 = .ok (.iload_n 3, 1) := by decide +kernel
theorem dX11_mostWithout_21 : decode cX11_mostWithout 21 = .ok (.if_icmp .gt 65, 3) := by decide +kernel
theorem dX11_mostWithout_24 : decode cX11_mostWithout 24 = .ok (.aload_n 0, 1) := by decide +kernel
theorem dX11_mostWithout_25 : decode cX11_mostWithout 25 = .ok (.getfield 140, 3) := by decide +kernel
theorem dX11_mostWithout_28 : decode cX11_mostWithout 28 = .ok (.bipush 16, 2) := by decide +kernel
theorem dX11_mostWithout_30 : decode cX11_mostWithout 30 = .ok (.iload_n 1, 1) := by decide +kernel
theorem dX11_mostWithout_31 : decode cX11_mostWithout 31 = .ok (.iconst 1, 1) := by decide +kernel
theorem dX11_mostWithout_32 : decode cX11_mostWithout 32 = .ok (.iadd, 1) := by decide +kernel
theorem dX11_mostWithout_33 : decode cX11_mostWithout 33 = .ok (.imul, 1) := by decide +kernel
theorem dX11_mostWithout_34 : decode cX11_mostWithout 34 = .ok (.iload 6, 2) := by decide +kernel
theorem dX11_mostWithout_36 : decode cX11_mostWithout 36 = .ok (.iadd, 1) := by decide +kernel
theorem dX11_mostWithout_37 : decode cX11_mostWithout 37 = .ok (.aload_n 0, 1) := by decide +kernel
theorem dX11_mostWithout_38 : decode cX11_mostWithout 38 = .ok (.getfield 140, 3) := by decide +kernel
theorem dX11_mostWithout_41 : decode cX11_mostWithout 41 = .ok (.bipush 16, 2) := by decide +kernel
theorem dX11_mostWithout_43 : decode cX11_mostWithout 43 = .ok (.iload_n 1, 1) := by decide +kernel
theorem dX11_mostWithout_44 : decode cX11_mostWithout 44 = .ok (.imul, 1) := by decide +kernel
theorem dX11_mostWithout_45 : decode cX11_mostWithout 45 = .ok (.iload 6, 2) := by decide +kernel
theorem dX11_mostWithout_47 : decode cX11_mostWithout 47 = .ok (.iadd, 1) := by decide +kernel
theorem dX11_mostWithout_48 : decode cX11_mostWithout 48 = .ok (.iaload, 1) := by decide +kernel
theorem dX11_mostWithout_49 : decode cX11_mostWithout 49 = .ok (.iload 6, 2) := by decide +kernel
theorem dX11_mostWithout_51 : decode cX11_mostWithout 51 = .ok (.ifCond .le 26, 3) := by decide +kernel
theorem dX11_mostWithout_54 : decode cX11_mostWithout 54 = .ok (.aload_n 0, 1) := by decide +kernel
theorem dX11_mostWithout_55 : decode cX11_mostWithout 55 = .ok (.aload_n 0, 1) := by decide +kernel
theorem dX11_mostWithout_56 : decode cX11_mostWithout 56 = .ok (.getfield 140, 3) := by decide +kernel
theorem dX11_mostWithout_59 : decode cX11_mostWithout 59 = .ok (.bipush 16, 2) := by decide +kernel
theorem dX11_mostWithout_61 : decode cX11_mostWithout 61 = .ok (.iload_n 1, 1) := by decide +kernel
theorem dX11_mostWithout_62 : decode cX11_mostWithout 62 = .ok (.imul, 1) := by decide +kernel
theorem dX11_mostWithout_63 : decode cX11_mostWithout 63 = .ok (.iload 6, 2) := by decide +kernel
theorem dX11_mostWithout_65 : decode cX11_mostWithout 65 = .ok (.iadd, 1) := by decide +kernel
theorem dX11_mostWithout_66 : decode cX11_mostWithout 66 = .ok (.iconst 1, 1) := by decide +kernel
theorem dX11_mostWithout_67 : decode cX11_mostWithout 67 = .ok (.isub, 1) := by decide +kernel
theorem dX11_mostWithout_68 : decode cX11_mostWithout 68 = .ok (.iaload, 1) := by decide +kernel
theorem dX11_mostWithout_69 : decode cX11_mostWithout 69 = .ok (.iload 5, 2) := by decide +kernel
theorem dX11_mostWithout_71 : decode cX11_mostWithout 71 = .ok (.invokevirtual 262, 3) := by decide +kernel
theorem dX11_mostWithout_74 : decode cX11_mostWithout 74 = .ok (.goto 4, 3) := by decide +kernel
theorem dX11_mostWithout_77 : decode cX11_mostWithout 77 = .ok (.iconst 0, 1) := by decide +kernel
theorem dX11_mostWithout_78 : decode cX11_mostWithout 78 = .ok (.ior, 1) := by decide +kernel
theorem dX11_mostWithout_79 : decode cX11_mostWithout 79 = .ok (.iastore, 1) := by decide +kernel
theorem dX11_mostWithout_80 : decode cX11_mostWithout 80 = .ok (.iinc 6 1, 3) := by decide +kernel
theorem dX11_mostWithout_83 : decode cX11_mostWithout 83 = .ok (.goto (-65), 3) := by decide +kernel
theorem dX11_mostWithout_86 : decode cX11_mostWithout 86 = .ok (.aload_n 0, 1) := by decide +kernel
theorem dX11_mostWithout_87 : decode cX11_mostWithout 87 = .ok (.getfield 140, 3) := by decide +kernel
theorem dX11_mostWithout_90 : decode cX11_mostWithout 90 = .ok (.bipush 16, 2) := by decide +kernel
theorem dX11_mostWithout_92 : decode cX11_mostWithout 92 = .ok (.iload_n 1, 1) := by decide +kernel
theorem dX11_mostWithout_93 : decode cX11_mostWithout 93 = .ok (.iconst 1, 1) := by decide +kernel
theorem dX11_mostWithout_94 : decode cX11_mostWithout 94 = .ok (.iadd, 1) := by decide +kernel
theorem dX11_mostWithout_95 : decode cX11_mostWithout 95 = .ok (.imul, 1) := by decide +kernel
theorem dX11_mostWithout_96 : decode cX11_mostWithout 96 = .ok (.iload_n 3, 1) := by decide +kernel
theorem dX11_mostWithout_97 : decode cX11_mostWithout 97 = .ok (.iadd, 1) := by decide +kernel
theorem dX11_mostWithout_98 : decode cX11_mostWithout 98 = .ok (.iaload, 1) := by decide +kernel
theorem dX11_mostWithout_99 : decode cX11_mostWithout 99 = .ok (.iconst 0, 1) := by decide +kernel
theorem dX11_mostWithout_100 : decode cX11_mostWithout 100 = .ok (.invokestatic 7, 3) := by decide +kernel
theorem dX11_mostWithout_103 : decode cX11_mostWithout 103 = .ok (.ifCond .eq 6, 3) := by decide +kernel
theorem dX11_mostWithout_106 : decode cX11_mostWithout 106 = .ok (.goto 26, 3) := by decide +kernel
theorem dX11_mostWithout_109 : decode cX11_mostWithout 109 = .ok (.aload_n 0, 1) := by decide +kernel
theorem dX11_mostWithout_110 : decode cX11_mostWithout 110 = .ok (.iload_n 1, 1) := by decide +kernel
theorem dX11_mostWithout_111 : decode cX11_mostWithout 111 = .ok (.iconst 1, 1) := by decide +kernel
theorem dX11_mostWithout_112 : decode cX11_mostWithout 112 = .ok (.iadd, 1) := by decide +kernel
theorem dX11_mostWithout_113 : decode cX11_mostWithout 113 = .ok (.iload 5, 2) := by decide +kernel
theorem dX11_mostWithout_115 : decode cX11_mostWithout 115 = .ok (.iload_n 3, 1) := by decide +kernel
theorem dX11_mostWithout_116 : decode cX11_mostWithout 116 = .ok (.invokevirtual 272, 3) := by decide +kernel
theorem dX11_mostWithout_119 : decode cX11_mostWithout 119 = .ok (.istore 6, 2) := by decide +kernel
theorem dX11_mostWithout_121 : decode cX11_mostWithout 121 = .ok (.iload 6, 2) := by decide +kernel
theorem dX11_mostWithout_123 : decode cX11_mostWithout 123 = .ok (.iload 4, 2) := by decide +kernel
theorem dX11_mostWithout_125 : decode cX11_mostWithout 125 = .ok (.if_icmp .le 7, 3) := by decide +kernel
theorem dX11_mostWithout_128 : decode cX11_mostWithout 128 = .ok (.iload 6, 2) := by decide +kernel
theorem dX11_mostWithout_130 : decode cX11_mostWithout 130 = .ok (.istore 4, 2) := by decide +kernel
theorem dX11_mostWithout_132 : decode cX11_mostWithout 132 = .ok (.iinc 5 1, 3) := by decide +kernel
theorem dX11_mostWithout_135 : decode cX11_mostWithout 135 = .ok (.goto (-129), 3) := by decide +kernel
theorem dX11_mostWithout_138 : decode cX11_mostWithout 138 = .ok (.iload 4, 2) := by decide +kernel
theorem dX11_mostWithout_140 : decode cX11_mostWithout 140 = .ok (.ireturn, 1) := by decide +kernel
theorem dX11_enough_0 : decode cX11_enough 0 = .ok (.aload_n 0, 1) := by decide +kernel
theorem dX11_enough_1 : decode cX11_enough 1 = .ok (.iconst 0, 1) := by decide +kernel
theorem dX11_enough_2 : decode cX11_enough 2 = .ok (.putfield 1, 3) := by decide +kernel
theorem dX11_enough_5 : decode cX11_enough 5 = .ok (.aload_n 0, 1) := by decide +kernel
theorem dX11_enough_6 : decode cX11_enough 6 = .ok (.invokevirtual 186, 3) := by decide +kernel
theorem dX11_enough_9 : decode cX11_enough 9 = .ok (.iconst 1, 1) := by decide +kernel
theorem dX11_enough_10 : decode cX11_enough 10 = .ok (.bipush 6, 2) := by decide +kernel
theorem dX11_enough_12 : decode cX11_enough 12 = .ok (.invokestatic 157, 3) := by decide +kernel
theorem dX11_enough_15 : decode cX11_enough 15 = .ok (.ifCond .ne 5, 3) := by decide +kernel
theorem dX11_enough_18 : decode cX11_enough 18 = .ok (.iconst (-1), 1) := by decide +kernel
theorem dX11_enough_19 : decode cX11_enough 19 = .ok (.ireturn, 1) := by decide +kernel
theorem dX11_enough_20 : decode cX11_enough 20 = .ok (.iconst 0, 1) := by decide +kernel
theorem dX11_enough_21 : decode cX11_enough 21 = .ok (.istore_n 1, 1) := by decide +kernel
theorem dX11_enough_22 : decode cX11_enough 22 = .ok (.iload_n 1, 1) := by decide +kernel
theorem dX11_enough_23 : decode cX11_enough 23 = .ok (.sipush 512, 3) := by decide +kernel
theorem dX11_enough_26 : decode cX11_enough 26 = .ok (.if_icmp .ge 16, 3) := by decide +kernel
theorem dX11_enough_29 : decode cX11_enough 29 = .ok (.aload_n 0, 1) := by decide +kernel
theorem dX11_enough_30 : decode cX11_enough 30 = .ok (.getfield 140, 3) := by decide +kernel
theorem dX11_enough_33 : decode cX11_enough 33 = .ok (.iload_n 1, 1) := by decide +kernel
theorem dX11_enough_34 : decode cX11_enough 34 = .ok (.iconst 0, 1) := by decide +kernel
theorem dX11_enough_35 : decode cX11_enough 35 = .ok (.iastore, 1) := by decide +kernel
theorem dX11_enough_36 : decode cX11_enough 36 = .ok (.iinc 1 1, 3) := by decide +kernel
theorem dX11_enough_39 : decode cX11_enough 39 = .ok (.goto (-17), 3) := by decide +kernel
theorem dX11_enough_42 : decode cX11_enough 42 = .ok (.aload_n 0, 1) := by decide +kernel
theorem dX11_enough_43 : decode cX11_enough 43 = .ok (.getfield 140, 3) := by decide +kernel
theorem dX11_enough_46 : decode cX11_enough 46 = .ok (.iconst 0, 1) := by decide +kernel
theorem dX11_enough_47 : decode cX11_enough 47 = .ok (.iconst 1, 1) := by decide +kernel
theorem dX11_enough_48 : decode cX11_enough 48 = .ok (.iastore, 1) := by decide +kernel
theorem dX11_enough_49 : decode cX11_enough 49 = .ok (.aload_n 0, 1) := by decide +kernel
theorem dX11_enough_50 : decode cX11_enough 50 = .ok (.iconst 0, 1) := by decide +kernel
theorem dX11_enough_51 : decode cX11_enough 51 = .ok (.iconst 0, 1) := by decide +kernel
theorem dX11_enough_52 : decode cX11_enough 52 = .ok (.aload_n 0, 1) := by decide +kernel
theorem dX11_enough_53 : decode cX11_enough 53 = .ok (.invokevirtual 210, 3) := by decide +kernel
theorem dX11_enough_56 : decode cX11_enough 56 = .ok (.invokevirtual 272, 3) := by decide +kernel
theorem dX11_enough_59 : decode cX11_enough 59 = .ok (.iconst 1, 1) := by decide +kernel
theorem dX11_enough_60 : decode cX11_enough 60 = .ok (.iadd, 1) := by decide +kernel
theorem dX11_enough_61 : decode cX11_enough 61 = .ok (.ireturn, 1) := by decide +kernel
theorem dX11_snap_0 : decode cX11_snap 0 = .ok (.aload_n 0, 1) := by decide +kernel
theorem dX11_snap_1 : decode cX11_snap 1 = .ok (.getfield 183, 3) := by decide +kernel
theorem dX11_snap_4 : decode cX11_snap 4 = .ok (.bipush 8, 2) := by decide +kernel
theorem dX11_snap_6 : decode cX11_snap 6 = .ok (.if_icmp .ne 42, 3) := by decide +kernel
theorem dX11_snap_9 : decode cX11_snap 9 = .ok (.iconst 0, 1) := by decide +kernel
theorem dX11_snap_10 : decode cX11_snap 10 = .ok (.istore_n 1, 1) := by decide +kernel
theorem dX11_snap_11 : decode cX11_snap 11 = .ok (.iload_n 1, 1) := by decide +kernel
theorem dX11_snap_12 : decode cX11_snap 12 = .ok (.bipush 119, 2) := by decide +kernel
theorem dX11_snap_14 : decode cX11_snap 14 = .ok (.if_icmp .ge 24, 3) := by decide +kernel
theorem dX11_snap_17 : decode cX11_snap 17 = .ok (.aload_n 0, 1) := by decide +kernel
theorem dX11_snap_18 : decode cX11_snap 18 = .ok (.getfield 94, 3) := by decide +kernel
theorem dX11_snap_21 : decode cX11_snap 21 = .ok (.iload_n 1, 1) := by decide +kernel
theorem dX11_snap_22 : decode cX11_snap 22 = .ok (.aload_n 0, 1) := by decide +kernel
theorem dX11_snap_23 : decode cX11_snap 23 = .ok (.getfield 94, 3) := by decide +kernel
theorem dX11_snap_26 : decode cX11_snap 26 = .ok (.iload_n 1, 1) := by decide +kernel
theorem dX11_snap_27 : decode cX11_snap 27 = .ok (.bipush 17, 2) := by decide +kernel
theorem dX11_snap_29 : decode cX11_snap 29 = .ok (.iadd, 1) := by decide +kernel
theorem dX11_snap_30 : decode cX11_snap 30 = .ok (.iaload, 1) := by decide +kernel
theorem dX11_snap_31 : decode cX11_snap 31 = .ok (.iastore, 1) := by decide +kernel
theorem dX11_snap_32 : decode cX11_snap 32 = .ok (.iinc 1 1, 3) := by decide +kernel
theorem dX11_snap_35 : decode cX11_snap 35 = .ok (.goto (-24), 3) := by decide +kernel
theorem dX11_snap_38 : decode cX11_snap 38 = .ok (.aload_n 0, 1) := by decide +kernel
theorem dX11_snap_39 : decode cX11_snap 39 = .ok (.dup, 1) := by decide +kernel
theorem dX11_snap_40 : decode cX11_snap 40 = .ok (.getfield 183, 3) := by decide +kernel
theorem dX11_snap_43 : decode cX11_snap 43 = .ok (.iconst 1, 1) := by decide +kernel
theorem dX11_snap_44 : decode cX11_snap 44 = .ok (.isub, 1) := by decide +kernel
theorem dX11_snap_45 : decode cX11_snap 45 = .ok (.putfield 183, 3) := by decide +kernel
theorem dX11_snap_48 : decode cX11_snap 48 = .ok (.aload_n 0, 1) := by decide +kernel
theorem dX11_snap_49 : decode cX11_snap 49 = .ok (.getfield 85, 3) := by decide +kernel
theorem dX11_snap_52 : decode cX11_snap 52 = .ok (.iconst 0, 1) := by decide +kernel
theorem dX11_snap_53 : decode cX11_snap 53 = .ok (.aload_n 0, 1) := by decide +kernel
theorem dX11_snap_54 : decode cX11_snap 54 = .ok (.getfield 94, 3) := by decide +kernel
theorem dX11_snap_57 : decode cX11_snap 57 = .ok (.bipush 17, 2) := by decide +kernel
theorem dX11_snap_59 : decode cX11_snap 59 = .ok (.aload_n 0, 1) := by decide +kernel
theorem dX11_snap_60 : decode cX11_snap 60 = .ok (.getfield 183, 3) := by decide +kernel
theorem dX11_snap_63 : decode cX11_snap 63 = .ok (.imul, 1) := by decide +kernel
theorem dX11_snap_64 : decode cX11_snap 64 = .ok (.invokestatic 179, 3) := by decide +kernel
theorem dX11_snap_67 : decode cX11_snap 67 = .ok (.aload_n 0, 1) := by decide +kernel
theorem dX11_snap_68 : decode cX11_snap 68 = .ok (.dup, 1) := by decide +kernel
theorem dX11_snap_69 : decode cX11_snap 69 = .ok (.getfield 183, 3) := by decide +kernel
theorem dX11_snap_72 : decode cX11_snap 72 = .ok (.iconst 1, 1) := by decide +kernel
theorem dX11_snap_73 : decode cX11_snap 73 = .ok (.iadd, 1) := by decide +kernel
theorem dX11_snap_74 : decode cX11_snap 74 = .ok (.putfield 183, 3) := by decide +kernel
theorem dX11_snap_77 : decode cX11_snap 77 = .ok (.return_, 1) := by decide +kernel
theorem dX11_stay_0 : decode cX11_stay 0 = .ok (.aload_n 0, 1) := by decide +kernel
theorem dX11_stay_1 : decode cX11_stay 1 = .ok (.getfield 85, 3) := by decide +kernel
theorem dX11_stay_4 : decode cX11_stay 4 = .ok (.iconst 0, 1) := by decide +kernel
theorem dX11_stay_5 : decode cX11_stay 5 = .ok (.aload_n 0, 1) := by decide +kernel
theorem dX11_stay_6 : decode cX11_stay 6 = .ok (.getfield 100, 3) := by decide +kernel
theorem dX11_stay_9 : decode cX11_stay 9 = .ok (.iconst 0, 1) := by decide +kernel
theorem dX11_stay_10 : decode cX11_stay 10 = .ok (.invokestatic 179, 3) := by decide +kernel
theorem dX11_stay_13 : decode cX11_stay 13 = .ok (.aload_n 0, 1) := by decide +kernel
theorem dX11_stay_14 : decode cX11_stay 14 = .ok (.getfield 97, 3) := by decide +kernel
theorem dX11_stay_17 : decode cX11_stay 17 = .ok (.iconst 0, 1) := by decide +kernel
theorem dX11_stay_18 : decode cX11_stay 18 = .ok (.aload_n 0, 1) := by decide +kernel
theorem dX11_stay_19 : decode cX11_stay 19 = .ok (.getfield 85, 3) := by decide +kernel
theorem dX11_stay_22 : decode cX11_stay 22 = .ok (.iconst 0, 1) := by decide +kernel
theorem dX11_stay_23 : decode cX11_stay 23 = .ok (.invokestatic 179, 3) := by decide +kernel
theorem dX11_stay_26 : decode cX11_stay 26 = .ok (.aload_n 0, 1) := by decide +kernel
theorem dX11_stay_27 : decode cX11_stay 27 = .ok (.invokevirtual 276, 3) := by decide +kernel
theorem dX11_stay_30 : decode cX11_stay 30 = .ok (.aload_n 0, 1) := by decide +kernel
theorem dX11_stay_31 : decode cX11_stay 31 = .ok (.getfield 100, 3) := by decide +kernel
theorem dX11_stay_34 : decode cX11_stay 34 = .ok (.iconst 0, 1) := by decide +kernel
theorem dX11_stay_35 : decode cX11_stay 35 = .ok (.aload_n 0, 1) := by decide +kernel
theorem dX11_stay_36 : decode cX11_stay 36 = .ok (.getfield 85, 3) := by decide +kernel
theorem dX11_stay_39 : decode cX11_stay 39 = .ok (.iconst 0, 1) := by decide +kernel
theorem dX11_stay_40 : decode cX11_stay 40 = .ok (.invokestatic 179, 3) := by decide +kernel
theorem dX11_stay_43 : decode cX11_stay 43 = .ok (.return_, 1) := by decide +kernel
theorem dX11_comes_0 : decode cX11_comes 0 = .ok (.aload_n 0, 1) := by decide +kernel
theorem dX11_comes_1 : decode cX11_comes 1 = .ok (.getfield 85, 3) := by decide +kernel
theorem dX11_comes_4 : decode cX11_comes 4 = .ok (.iconst 5, 1) := by decide +kernel
theorem dX11_comes_5 : decode cX11_comes 5 = .ok (.aload_n 0, 1) := by decide +kernel
theorem dX11_comes_6 : decode cX11_comes 6 = .ok (.invokevirtual 190, 3) := by decide +kernel
theorem dX11_comes_9 : decode cX11_comes 9 = .ok (.iadd, 1) := by decide +kernel
theorem dX11_comes_10 : decode cX11_comes 10 = .ok (.iload_n 1, 1) := by decide +kernel
theorem dX11_comes_11 : decode cX11_comes 11 = .ok (.iastore, 1) := by decide +kernel
theorem dX11_comes_12 : decode cX11_comes 12 = .ok (.aload_n 0, 1) := by decide +kernel
theorem dX11_comes_13 : decode cX11_comes 13 = .ok (.getfield 85, 3) := by decide +kernel
theorem dX11_comes_16 : decode cX11_comes 16 = .ok (.iconst 4, 1) := by decide +kernel
theorem dX11_comes_17 : decode cX11_comes 17 = .ok (.dup2, 1) := by decide +kernel
theorem dX11_comes_18 : decode cX11_comes 18 = .ok (.iaload, 1) := by decide +kernel
theorem dX11_comes_19 : decode cX11_comes 19 = .ok (.iconst 1, 1) := by decide +kernel
theorem dX11_comes_20 : decode cX11_comes 20 = .ok (.iadd, 1) := by decide +kernel
theorem dX11_comes_21 : decode cX11_comes 21 = .ok (.iastore, 1) := by decide +kernel
theorem dX11_comes_22 : decode cX11_comes 22 = .ok (.return_, 1) := by decide +kernel
theorem dX11_goes_0 : decode cX11_goes 0 = .ok (.iload_n 1, 1) := by decide +kernel
theorem dX11_goes_1 : decode cX11_goes 1 = .ok (.istore_n 2, 1) := by decide +kernel
theorem dX11_goes_2 : decode cX11_goes 2 = .ok (.iload_n 2, 1) := by decide +kernel
theorem dX11_goes_3 : decode cX11_goes 3 = .ok (.iconst 1, 1) := by decide +kernel
theorem dX11_goes_4 : decode cX11_goes 4 = .ok (.iadd, 1) := by decide +kernel
theorem dX11_goes_5 : decode cX11_goes 5 = .ok (.aload_n 0, 1) := by decide +kernel
theorem dX11_goes_6 : decode cX11_goes 6 = .ok (.invokevirtual 190, 3) := by decide +kernel
theorem dX11_goes_9 : decode cX11_goes 9 = .ok (.if_icmp .ge 27, 3) := by decide +kernel
theorem dX11_goes_12 : decode cX11_goes 12 = .ok (.aload_n 0, 1) := by decide +kernel
theorem dX11_goes_13 : decode cX11_goes 13 = .ok (.getfield 85, 3) := by decide +kernel
theorem dX11_goes_16 : decode cX11_goes 16 = .ok (.iconst 5, 1) := by decide +kernel
theorem dX11_goes_17 : decode cX11_goes 17 = .ok (.iload_n 2, 1) := by decide +kernel
theorem dX11_goes_18 : decode cX11_goes 18 = .ok (.iadd, 1) := by decide +kernel
theorem dX11_goes_19 : decode cX11_goes 19 = .ok (.aload_n 0, 1) := by decide +kernel
theorem dX11_goes_20 : decode cX11_goes 20 = .ok (.getfield 85, 3) := by decide +kernel
theorem dX11_goes_23 : decode cX11_goes 23 = .ok (.iconst 5, 1) := by decide +kernel
theorem dX11_goes_24 : decode cX11_goes 24 = .ok (.iload_n 2, 1) := by decide +kernel
theorem dX11_goes_25 : decode cX11_goes 25 = .ok (.iadd, 1) := by decide +kernel
theorem dX11_goes_26 : decode cX11_goes 26 = .ok (.iconst 1, 1) := by decide +kernel
theorem dX11_goes_27 : decode cX11_goes 27 = .ok (.iadd, 1) := by decide +kernel
theorem dX11_goes_28 : decode cX11_goes 28 = .ok (.iaload, 1) := by decide +kernel
theorem dX11_goes_29 : decode cX11_goes 29 = .ok (.iastore, 1) := by decide +kernel
theorem dX11_goes_30 : decode cX11_goes 30 = .ok (.iinc 2 1, 3) := by decide +kernel
theorem dX11_goes_33 : decode cX11_goes 33 = .ok (.goto (-31), 3) := by decide +kernel
theorem dX11_goes_36 : decode cX11_goes 36 = .ok (.aload_n 0, 1) := by decide +kernel
theorem dX11_goes_37 : decode cX11_goes 37 = .ok (.getfield 85, 3) := by decide +kernel
theorem dX11_goes_40 : decode cX11_goes 40 = .ok (.iconst 4, 1) := by decide +kernel
theorem dX11_goes_41 : decode cX11_goes 41 = .ok (.dup2, 1) := by decide +kernel
theorem dX11_goes_42 : decode cX11_goes 42 = .ok (.iaload, 1) := by decide +kernel
theorem dX11_goes_43 : decode cX11_goes 43 = .ok (.iconst 1, 1) := by decide +kernel
theorem dX11_goes_44 : decode cX11_goes 44 = .ok (.isub, 1) := by decide +kernel
theorem dX11_goes_45 : decode cX11_goes 45 = .ok (.iastore, 1) := by decide +kernel
theorem dX11_goes_46 : decode cX11_goes 46 = .ok (.aload_n 0, 1) := by decide +kernel
theorem dX11_goes_47 : decode cX11_goes 47 = .ok (.getfield 85, 3) := by decide +kernel
theorem dX11_goes_50 : decode cX11_goes 50 = .ok (.iconst 5, 1) := by decide +kernel
theorem dX11_goes_51 : decode cX11_goes 51 = .ok (.aload_n 0, 1) := by decide +kernel
theorem dX11_goes_52 : decode cX11_goes 52 = .ok (.invokevirtual 190, 3) := by decide +kernel
theorem dX11_goes_55 : decode cX11_goes 55 = .ok (.iadd, 1) := by decide +kernel
theorem dX11_goes_56 : decode cX11_goes 56 = .ok (.iconst 0, 1) := by decide +kernel
theorem dX11_goes_57 : decode cX11_goes 57 = .ok (.iastore, 1) := by decide +kernel
theorem dX11_goes_58 : decode cX11_goes 58 = .ok (.return_, 1) := by decide +kernel
theorem dX11_mayTimes_0 : decode cX11_mayTimes 0 = .ok (.aload_n 0, 1) := by decide +kernel
theorem dX11_mayTimes_1 : decode cX11_mayTimes 1 = .ok (.invokevirtual 190, 3) := by decide +kernel
theorem dX11_mayTimes_4 : decode cX11_mayTimes 4 = .ok (.ifCond .le 29, 3) := by decide +kernel
theorem dX11_mayTimes_7 : decode cX11_mayTimes 7 = .ok (.iload_n 1, 1) := by decide +kernel
theorem dX11_mayTimes_8 : decode cX11_mayTimes 8 = .ok (.iconst 1, 1) := by decide +kernel
theorem dX11_mayTimes_9 : decode cX11_mayTimes 9 = .ok (.bipush 24, 2) := by decide +kernel
theorem dX11_mayTimes_11 : decode cX11_mayTimes 11 = .ok (.invokestatic 157, 3) := by decide +kernel
theorem dX11_mayTimes_14 : decode cX11_mayTimes 14 = .ok (.ifCond .eq 19, 3) := by decide +kernel
theorem dX11_mayTimes_17 : decode cX11_mayTimes 17 = .ok (.iload_n 1, 1) := by decide +kernel
theorem dX11_mayTimes_18 : decode cX11_mayTimes 18 = .ok (.aload_n 0, 1) := by decide +kernel
theorem dX11_mayTimes_19 : decode cX11_mayTimes 19 = .ok (.invokevirtual 210, 3) := by decide +kernel
theorem dX11_mayTimes_22 : decode cX11_mayTimes 22 = .ok (.invokestatic 197, 3) := by decide +kernel
theorem dX11_mayTimes_25 : decode cX11_mayTimes 25 = .ok (.iconst 1, 1) := by decide +kernel
theorem dX11_mayTimes_26 : decode cX11_mayTimes 26 = .ok (.if_icmp .ne 7, 3) := by decide +kernel
theorem dX11_mayTimes_29 : decode cX11_mayTimes 29 = .ok (.iconst 1, 1) := by decide +kernel
theorem dX11_mayTimes_30 : decode cX11_mayTimes 30 = .ok (.goto 4, 3) := by decide +kernel
theorem dX11_mayTimes_33 : decode cX11_mayTimes 33 = .ok (.iconst 0, 1) := by decide +kernel
theorem dX11_mayTimes_34 : decode cX11_mayTimes 34 = .ok (.ireturn, 1) := by decide +kernel
theorem dX11_multiplies_0 : decode cX11_multiplies 0 = .ok (.iconst 0, 1) := by decide +kernel
theorem dX11_multiplies_1 : decode cX11_multiplies 1 = .ok (.istore_n 2, 1) := by decide +kernel
theorem dX11_multiplies_2 : decode cX11_multiplies 2 = .ok (.iload_n 2, 1) := by decide +kernel
theorem dX11_multiplies_3 : decode cX11_multiplies 3 = .ok (.aload_n 0, 1) := by decide +kernel
theorem dX11_multiplies_4 : decode cX11_multiplies 4 = .ok (.invokevirtual 190, 3) := by decide +kernel
theorem dX11_multiplies_7 : decode cX11_multiplies 7 = .ok (.if_icmp .ge 30, 3) := by decide +kernel
theorem dX11_multiplies_10 : decode cX11_multiplies 10 = .ok (.aload_n 0, 1) := by decide +kernel
theorem dX11_multiplies_11 : decode cX11_multiplies 11 = .ok (.getfield 85, 3) := by decide +kernel
theorem dX11_multiplies_14 : decode cX11_multiplies 14 = .ok (.iconst 5, 1) := by decide +kernel
theorem dX11_multiplies_15 : decode cX11_multiplies 15 = .ok (.iload_n 2, 1) := by decide +kernel
theorem dX11_multiplies_16 : decode cX11_multiplies 16 = .ok (.iadd, 1) := by decide +kernel
theorem dX11_multiplies_17 : decode cX11_multiplies 17 = .ok (.aload_n 0, 1) := by decide +kernel
theorem dX11_multiplies_18 : decode cX11_multiplies 18 = .ok (.aload_n 0, 1) := by decide +kernel
theorem dX11_multiplies_19 : decode cX11_multiplies 19 = .ok (.getfield 85, 3) := by decide +kernel
theorem dX11_multiplies_22 : decode cX11_multiplies 22 = .ok (.iconst 5, 1) := by decide +kernel
theorem dX11_multiplies_23 : decode cX11_multiplies 23 = .ok (.iload_n 2, 1) := by decide +kernel
theorem dX11_multiplies_24 : decode cX11_multiplies 24 = .ok (.iadd, 1) := by decide +kernel
theorem dX11_multiplies_25 : decode cX11_multiplies 25 = .ok (.iaload, 1) := by decide +kernel
theorem dX11_multiplies_26 : decode cX11_multiplies 26 = .ok (.iload_n 1, 1) := by decide +kernel
theorem dX11_multiplies_27 : decode cX11_multiplies 27 = .ok (.invokevirtual 249, 3) := by decide +kernel
theorem dX11_multiplies_30 : decode cX11_multiplies 30 = .ok (.iastore, 1) := by decide +kernel
theorem dX11_multiplies_31 : decode cX11_multiplies 31 = .ok (.iinc 2 1, 3) := by decide +kernel
theorem dX11_multiplies_34 : decode cX11_multiplies 34 = .ok (.goto (-32), 3) := by decide +kernel
theorem dX11_multiplies_37 : decode cX11_multiplies 37 = .ok (.return_, 1) := by decide +kernel
theorem dX11_come_0 : decode cX11_come 0 = .ok (.aload_n 0, 1) := by decide +kernel
theorem dX11_come_1 : decode cX11_come 1 = .ok (.iconst 0, 1) := by decide +kernel
theorem dX11_come_2 : decode cX11_come 2 = .ok (.putfield 1, 3) := by decide +kernel
theorem dX11_come_5 : decode cX11_come 5 = .ok (.aload_n 0, 1) := by decide +kernel
theorem dX11_come_6 : decode cX11_come 6 = .ok (.iload_n 1, 1) := by decide +kernel
theorem dX11_come_7 : decode cX11_come 7 = .ok (.invokevirtual 219, 3) := by decide +kernel
theorem dX11_come_10 : decode cX11_come 10 = .ok (.ifCond .eq 12, 3) := by decide +kernel
theorem dX11_come_13 : decode cX11_come 13 = .ok (.aload_n 0, 1) := by decide +kernel
theorem dX11_come_14 : decode cX11_come 14 = .ok (.invokevirtual 190, 3) := by decide +kernel
theorem dX11_come_17 : decode cX11_come 17 = .ok (.bipush 12, 2) := by decide +kernel
theorem dX11_come_19 : decode cX11_come 19 = .ok (.if_icmp .ne 5, 3) := by decide +kernel
theorem dX11_come_22 : decode cX11_come 22 = .ok (.iconst (-1), 1) := by decide +kernel
theorem dX11_come_23 : decode cX11_come 23 = .ok (.ireturn, 1) := by decide +kernel
theorem dX11_come_24 : decode cX11_come 24 = .ok (.aload_n 0, 1) := by decide +kernel
theorem dX11_come_25 : decode cX11_come 25 = .ok (.invokevirtual 276, 3) := by decide +kernel
theorem dX11_come_28 : decode cX11_come 28 = .ok (.aload_n 0, 1) := by decide +kernel
theorem dX11_come_29 : decode cX11_come 29 = .ok (.iload_n 1, 1) := by decide +kernel
theorem dX11_come_30 : decode cX11_come 30 = .ok (.invokevirtual 279, 3) := by decide +kernel
theorem dX11_come_33 : decode cX11_come 33 = .ok (.aload_n 0, 1) := by decide +kernel
theorem dX11_come_34 : decode cX11_come 34 = .ok (.invokevirtual 190, 3) := by decide +kernel
theorem dX11_come_37 : decode cX11_come 37 = .ok (.ireturn, 1) := by decide +kernel
theorem dX11_go_0 : decode cX11_go 0 = .ok (.aload_n 0, 1) := by decide +kernel
theorem dX11_go_1 : decode cX11_go 1 = .ok (.iconst 0, 1) := by decide +kernel
theorem dX11_go_2 : decode cX11_go 2 = .ok (.putfield 1, 3) := by decide +kernel
theorem dX11_go_5 : decode cX11_go 5 = .ok (.aload_n 0, 1) := by decide +kernel
theorem dX11_go_6 : decode cX11_go 6 = .ok (.iload_n 1, 1) := by decide +kernel
theorem dX11_go_7 : decode cX11_go 7 = .ok (.invokevirtual 216, 3) := by decide +kernel
theorem dX11_go_10 : decode cX11_go 10 = .ok (.ifCond .ne 5, 3) := by decide +kernel
theorem dX11_go_13 : decode cX11_go 13 = .ok (.iconst (-1), 1) := by decide +kernel
theorem dX11_go_14 : decode cX11_go 14 = .ok (.ireturn, 1) := by decide +kernel
theorem dX11_go_15 : decode cX11_go 15 = .ok (.aload_n 0, 1) := by decide +kernel
theorem dX11_go_16 : decode cX11_go 16 = .ok (.invokevirtual 276, 3) := by decide +kernel
theorem dX11_go_19 : decode cX11_go 19 = .ok (.aload_n 0, 1) := by decide +kernel
theorem dX11_go_20 : decode cX11_go 20 = .ok (.iload_n 1, 1) := by decide +kernel
theorem dX11_go_21 : decode cX11_go 21 = .ok (.invokevirtual 282, 3) := by decide +kernel
theorem dX11_go_24 : decode cX11_go 24 = .ok (.aload_n 0, 1) := by decide +kernel
theorem dX11_go_25 : decode cX11_go 25 = .ok (.invokevirtual 190, 3) := by decide +kernel
theorem dX11_go_28 : decode cX11_go 28 = .ok (.ireturn, 1) := by decide +kernel
theorem dX11_times_0 : decode cX11_times 0 = .ok (.aload_n 0, 1) := by decide +kernel
theorem dX11_times_1 : decode cX11_times 1 = .ok (.iconst 0, 1) := by decide +kernel
theorem dX11_times_2 : decode cX11_times 2 = .ok (.putfield 1, 3) := by decide +kernel
theorem dX11_times_5 : decode cX11_times 5 = .ok (.aload_n 0, 1) := by decide +kernel
theorem dX11_times_6 : decode cX11_times 6 = .ok (.iload_n 1, 1) := by decide +kernel
theorem dX11_times_7 : decode cX11_times 7 = .ok (.invokevirtual 285, 3) := by decide +kernel
theorem dX11_times_10 : decode cX11_times 10 = .ok (.ifCond .ne 5, 3) := by decide +kernel
theorem dX11_times_13 : decode cX11_times 13 = .ok (.iconst (-1), 1) := by decide +kernel
theorem dX11_times_14 : decode cX11_times 14 = .ok (.ireturn, 1) := by decide +kernel
theorem dX11_times_15 : decode cX11_times 15 = .ok (.aload_n 0, 1) := by decide +kernel
theorem dX11_times_16 : decode cX11_times 16 = .ok (.invokevirtual 276, 3) := by decide +kernel
theorem dX11_times_19 : decode cX11_times 19 = .ok (.aload_n 0, 1) := by decide +kernel
theorem dX11_times_20 : decode cX11_times 20 = .ok (.iload_n 1, 1) := by decide +kernel
theorem dX11_times_21 : decode cX11_times 21 = .ok (.invokevirtual 288, 3) := by decide +kernel
theorem dX11_times_24 : decode cX11_times 24 = .ok (.aload_n 0, 1) := by decide +kernel
theorem dX11_times_25 : decode cX11_times 25 = .ok (.invokevirtual 213, 3) := by decide +kernel
theorem dX11_times_28 : decode cX11_times 28 = .ok (.aload_n 0, 1) := by decide +kernel
theorem dX11_times_29 : decode cX11_times 29 = .ok (.getfield 107, 3) := by decide +kernel
theorem dX11_times_32 : decode cX11_times 32 = .ok (.aload_n 0, 1) := by decide +kernel
theorem dX11_times_33 : decode cX11_times 33 = .ok (.invokevirtual 204, 3) := by decide +kernel
theorem dX11_times_36 : decode cX11_times 36 = .ok (.iaload, 1) := by decide +kernel
theorem dX11_times_37 : decode cX11_times 37 = .ok (.ireturn, 1) := by decide +kernel
theorem dX11_sort_0 : decode cX11_sort 0 = .ok (.aload_n 0, 1) := by decide +kernel
theorem dX11_sort_1 : decode cX11_sort 1 = .ok (.iconst 0, 1) := by decide +kernel
theorem dX11_sort_2 : decode cX11_sort 2 = .ok (.putfield 1, 3) := by decide +kernel
theorem dX11_sort_5 : decode cX11_sort 5 = .ok (.iconst 0, 1) := by decide +kernel
theorem dX11_sort_6 : decode cX11_sort 6 = .ok (.istore_n 1, 1) := by decide +kernel
theorem dX11_sort_7 : decode cX11_sort 7 = .ok (.iload_n 1, 1) := by decide +kernel
theorem dX11_sort_8 : decode cX11_sort 8 = .ok (.aload_n 0, 1) := by decide +kernel
theorem dX11_sort_9 : decode cX11_sort 9 = .ok (.invokevirtual 190, 3) := by decide +kernel
theorem dX11_sort_12 : decode cX11_sort 12 = .ok (.if_icmp .ge 23, 3) := by decide +kernel
theorem dX11_sort_15 : decode cX11_sort 15 = .ok (.aload_n 0, 1) := by decide +kernel
theorem dX11_sort_16 : decode cX11_sort 16 = .ok (.getfield 128, 3) := by decide +kernel
theorem dX11_sort_19 : decode cX11_sort 19 = .ok (.iload_n 1, 1) := by decide +kernel
theorem dX11_sort_20 : decode cX11_sort 20 = .ok (.aload_n 0, 1) := by decide +kernel
theorem dX11_sort_21 : decode cX11_sort 21 = .ok (.getfield 85, 3) := by decide +kernel
theorem dX11_sort_24 : decode cX11_sort 24 = .ok (.iconst 5, 1) := by decide +kernel
theorem dX11_sort_25 : decode cX11_sort 25 = .ok (.iload_n 1, 1) := by decide +kernel
theorem dX11_sort_26 : decode cX11_sort 26 = .ok (.iadd, 1) := by decide +kernel
theorem dX11_sort_27 : decode cX11_sort 27 = .ok (.iaload, 1) := by decide +kernel
theorem dX11_sort_28 : decode cX11_sort 28 = .ok (.iastore, 1) := by decide +kernel
theorem dX11_sort_29 : decode cX11_sort 29 = .ok (.iinc 1 1, 3) := by decide +kernel
theorem dX11_sort_32 : decode cX11_sort 32 = .ok (.goto (-25), 3) := by decide +kernel
theorem dX11_sort_35 : decode cX11_sort 35 = .ok (.aload_n 0, 1) := by decide +kernel
theorem dX11_sort_36 : decode cX11_sort 36 = .ok (.getfield 128, 3) := by decide +kernel
theorem dX11_sort_39 : decode cX11_sort 39 = .ok (.aload_n 0, 1) := by decide +kernel
theorem dX11_sort_40 : decode cX11_sort 40 = .ok (.invokevirtual 190, 3) := by decide +kernel
theorem dX11_sort_43 : decode cX11_sort 43 = .ok (.invokestatic 252, 3) := by decide +kernel
theorem dX11_sort_46 : decode cX11_sort 46 = .ok (.iconst 0, 1) := by decide +kernel
theorem dX11_sort_47 : decode cX11_sort 47 = .ok (.istore_n 1, 1) := by decide +kernel
theorem dX11_sort_48 : decode cX11_sort 48 = .ok (.iconst 0, 1) := by decide +kernel
theorem dX11_sort_49 : decode cX11_sort 49 = .ok (.istore_n 2, 1) := by decide +kernel
theorem dX11_sort_50 : decode cX11_sort 50 = .ok (.iload_n 2, 1) := by decide +kernel
theorem dX11_sort_51 : decode cX11_sort 51 = .ok (.aload_n 0, 1) := by decide +kernel
theorem dX11_sort_52 : decode cX11_sort 52 = .ok (.invokevirtual 190, 3) := by decide +kernel
theorem dX11_sort_55 : decode cX11_sort 55 = .ok (.if_icmp .ge 29, 3) := by decide +kernel
theorem dX11_sort_58 : decode cX11_sort 58 = .ok (.aload_n 0, 1) := by decide +kernel
theorem dX11_sort_59 : decode cX11_sort 59 = .ok (.getfield 128, 3) := by decide +kernel
theorem dX11_sort_62 : decode cX11_sort 62 = .ok (.iload_n 2, 1) := by decide +kernel
theorem dX11_sort_63 : decode cX11_sort 63 = .ok (.iaload, 1) := by decide +kernel
theorem dX11_sort_64 : decode cX11_sort 64 = .ok (.aload_n 0, 1) := by decide +kernel
theorem dX11_sort_65 : decode cX11_sort 65 = .ok (.getfield 85, 3) := by decide +kernel
theorem dX11_sort_68 : decode cX11_sort 68 = .ok (.iconst 5, 1) := by decide +kernel
theorem dX11_sort_69 : decode cX11_sort 69 = .ok (.iload_n 2, 1) := by decide +kernel
theorem dX11_sort_70 : decode cX11_sort 70 = .ok (.iadd, 1) := by decide +kernel
theorem dX11_sort_71 : decode cX11_sort 71 = .ok (.iaload, 1) := by decide +kernel
theorem dX11_sort_72 : decode cX11_sort 72 = .ok (.if_icmp .eq 6, 3) := by decide +kernel
theorem dX11_sort_75 : decode cX11_sort 75 = .ok (.iinc 1 1, 3) := by decide +kernel
theorem dX11_sort_78 : decode cX11_sort 78 = .ok (.iinc 2 1, 3) := by decide +kernel
theorem dX11_sort_81 : decode cX11_sort 81 = .ok (.goto (-31), 3) := by decide +kernel
theorem dX11_sort_84 : decode cX11_sort 84 = .ok (.iload_n 1, 1) := by decide +kernel
theorem dX11_sort_85 : decode cX11_sort 85 = .ok (.ifCond .ne 5, 3) := by decide +kernel
theorem dX11_sort_88 : decode cX11_sort 88 = .ok (.iconst 0, 1) := by decide +kernel
theorem dX11_sort_89 : decode cX11_sort 89 = .ok (.ireturn, 1) := by decide +kernel
theorem dX11_sort_90 : decode cX11_sort 90 = .ok (.aload_n 0, 1) := by decide +kernel
theorem dX11_sort_91 : decode cX11_sort 91 = .ok (.invokevirtual 276, 3) := by decide +kernel
theorem dX11_sort_94 : decode cX11_sort 94 = .ok (.iconst 0, 1) := by decide +kernel
theorem dX11_sort_95 : decode cX11_sort 95 = .ok (.istore_n 2, 1) := by decide +kernel
theorem dX11_sort_96 : decode cX11_sort 96 = .ok (.iload_n 2, 1) := by decide +kernel
theorem dX11_sort_97 : decode cX11_sort 97 = .ok (.aload_n 0, 1) := by decide +kernel
theorem dX11_sort_98 : decode cX11_sort 98 = .ok (.invokevirtual 190, 3) := by decide +kernel
theorem dX11_sort_101 : decode cX11_sort 101 = .ok (.if_icmp .ge 23, 3) := by decide +kernel
theorem dX11_sort_104 : decode cX11_sort 104 = .ok (.aload_n 0, 1) := by decide +kernel
theorem dX11_sort_105 : decode cX11_sort 105 = .ok (.getfield 85, 3) := by decide +kernel
theorem dX11_sort_108 : decode cX11_sort 108 = .ok (.iconst 5, 1) := by decide +kernel
theorem dX11_sort_109 : decode cX11_sort 109 = .ok (.iload_n 2, 1) := by decide +kernel
theorem dX11_sort_110 : decode cX11_sort 110 = .ok (.iadd, 1) := by decide +kernel
theorem dX11_sort_111 : decode cX11_sort 111 = .ok (.aload_n 0, 1) := by decide +kernel
theorem dX11_sort_112 : decode cX11_sort 112 = .ok (.getfield 128, 3) := by decide +kernel
theorem dX11_sort_115 : decode cX11_sort 115 = .ok (.iload_n 2, 1) := by decide +kernel
theorem dX11_sort_116 : decode cX11_sort 116 = .ok (.iaload, 1) := by decide +kernel
theorem dX11_sort_117 : decode cX11_sort 117 = .ok (.iastore, 1) := by decide +kernel
theorem dX11_sort_118 : decode cX11_sort 118 = .ok (.iinc 2 1, 3) := by decide +kernel
theorem dX11_sort_121 : decode cX11_sort 121 = .ok (.goto (-25), 3) := by decide +kernel
theorem dX11_sort_124 : decode cX11_sort 124 = .ok (.iload_n 1, 1) := by decide +kernel
theorem dX11_sort_125 : decode cX11_sort 125 = .ok (.ireturn, 1) := by decide +kernel
theorem dX11_draw_0 : decode cX11_draw 0 = .ok (.aload_n 0, 1) := by decide +kernel
theorem dX11_draw_1 : decode cX11_draw 1 = .ok (.aload_n 0, 1) := by decide +kernel
theorem dX11_draw_2 : decode cX11_draw 2 = .ok (.getfield 291, 3) := by decide +kernel
theorem dX11_draw_5 : decode cX11_draw 5 = .ok (.ldc_w 294, 3) := by decide +kernel
theorem dX11_draw_8 : decode cX11_draw 8 = .ok (.imul, 1) := by decide +kernel
theorem dX11_draw_9 : decode cX11_draw 9 = .ok (.sipush 12345, 3) := by decide +kernel
theorem dX11_draw_12 : decode cX11_draw 12 = .ok (.iadd, 1) := by decide +kernel
theorem dX11_draw_13 : decode cX11_draw 13 = .ok (.putfield 291, 3) := by decide +kernel
theorem dX11_draw_16 : decode cX11_draw 16 = .ok (.aload_n 0, 1) := by decide +kernel
theorem dX11_draw_17 : decode cX11_draw 17 = .ok (.getfield 291, 3) := by decide +kernel
theorem dX11_draw_20 : decode cX11_draw 20 = .ok (.bipush 8, 2) := by decide +kernel
theorem dX11_draw_22 : decode cX11_draw 22 = .ok (.iushr, 1) := by decide +kernel
theorem dX11_draw_23 : decode cX11_draw 23 = .ok (.iload_n 1, 1) := by decide +kernel
theorem dX11_draw_24 : decode cX11_draw 24 = .ok (.irem, 1) := by decide +kernel
theorem dX11_draw_25 : decode cX11_draw 25 = .ok (.ireturn, 1) := by decide +kernel
theorem dX11_does_0 : decode cX11_does 0 = .ok (.aload_n 0, 1) := by decide +kernel
theorem dX11_does_1 : decode cX11_does 1 = .ok (.iconst 4, 1) := by decide +kernel
theorem dX11_does_2 : decode cX11_does 2 = .ok (.invokevirtual 295, 3) := by decide +kernel
theorem dX11_does_5 : decode cX11_does 5 = .ok (.istore_n 1, 1) := by decide +kernel
theorem dX11_does_6 : decode cX11_does 6 = .ok (.aload_n 0, 1) := by decide +kernel
theorem dX11_does_7 : decode cX11_does 7 = .ok (.invokevirtual 186, 3) := by decide +kernel
theorem dX11_does_10 : decode cX11_does 10 = .ok (.ifCond .ne 5, 3) := by decide +kernel
theorem dX11_does_13 : decode cX11_does 13 = .ok (.iconst 0, 1) := by decide +kernel
theorem dX11_does_14 : decode cX11_does 14 = .ok (.ireturn, 1) := by decide +kernel
theorem dX11_does_15 : decode cX11_does 15 = .ok (.iload_n 1, 1) := by decide +kernel
theorem dX11_does_16 : decode cX11_does 16 = .ok (.ifCond .ne 26, 3) := by decide +kernel
theorem dX11_does_19 : decode cX11_does 19 = .ok (.aload_n 0, 1) := by decide +kernel
theorem dX11_does_20 : decode cX11_does 20 = .ok (.invokevirtual 190, 3) := by decide +kernel
theorem dX11_does_23 : decode cX11_does 23 = .ok (.ifCond .ne 5, 3) := by decide +kernel
theorem dX11_does_26 : decode cX11_does 26 = .ok (.iconst 0, 1) := by decide +kernel
theorem dX11_does_27 : decode cX11_does 27 = .ok (.ireturn, 1) := by decide +kernel
theorem dX11_does_28 : decode cX11_does 28 = .ok (.aload_n 0, 1) := by decide +kernel
theorem dX11_does_29 : decode cX11_does 29 = .ok (.aload_n 0, 1) := by decide +kernel
theorem dX11_does_30 : decode cX11_does 30 = .ok (.aload_n 0, 1) := by decide +kernel
theorem dX11_does_31 : decode cX11_does 31 = .ok (.invokevirtual 190, 3) := by decide +kernel
theorem dX11_does_34 : decode cX11_does 34 = .ok (.invokevirtual 295, 3) := by decide +kernel
theorem dX11_does_37 : decode cX11_does 37 = .ok (.invokevirtual 282, 3) := by decide +kernel
theorem dX11_does_40 : decode cX11_does 40 = .ok (.iconst 1, 1) := by decide +kernel
theorem dX11_does_41 : decode cX11_does 41 = .ok (.ireturn, 1) := by decide +kernel
theorem dX11_does_42 : decode cX11_does 42 = .ok (.iload_n 1, 1) := by decide +kernel
theorem dX11_does_43 : decode cX11_does 43 = .ok (.iconst 1, 1) := by decide +kernel
theorem dX11_does_44 : decode cX11_does 44 = .ok (.if_icmp .ne 31, 3) := by decide +kernel
theorem dX11_does_47 : decode cX11_does 47 = .ok (.aload_n 0, 1) := by decide +kernel
theorem dX11_does_48 : decode cX11_does 48 = .ok (.aload_n 0, 1) := by decide +kernel
theorem dX11_does_49 : decode cX11_does 49 = .ok (.invokevirtual 210, 3) := by decide +kernel
theorem dX11_does_52 : decode cX11_does 52 = .ok (.invokevirtual 295, 3) := by decide +kernel
theorem dX11_does_55 : decode cX11_does 55 = .ok (.iconst 1, 1) := by decide +kernel
theorem dX11_does_56 : decode cX11_does 56 = .ok (.iadd, 1) := by decide +kernel
theorem dX11_does_57 : decode cX11_does 57 = .ok (.istore_n 2, 1) := by decide +kernel
theorem dX11_does_58 : decode cX11_does 58 = .ok (.aload_n 0, 1) := by decide +kernel
theorem dX11_does_59 : decode cX11_does 59 = .ok (.iload_n 2, 1) := by decide +kernel
theorem dX11_does_60 : decode cX11_does 60 = .ok (.invokevirtual 285, 3) := by decide +kernel
theorem dX11_does_63 : decode cX11_does 63 = .ok (.ifCond .ne 5, 3) := by decide +kernel
theorem dX11_does_66 : decode cX11_does 66 = .ok (.iconst 0, 1) := by decide +kernel
theorem dX11_does_67 : decode cX11_does 67 = .ok (.ireturn, 1) := by decide +kernel
theorem dX11_does_68 : decode cX11_does 68 = .ok (.aload_n 0, 1) := by decide +kernel
theorem dX11_does_69 : decode cX11_does 69 = .ok (.iload_n 2, 1) := by decide +kernel
theorem dX11_does_70 : decode cX11_does 70 = .ok (.invokevirtual 288, 3) := by decide +kernel
theorem dX11_does_73 : decode cX11_does 73 = .ok (.iconst 1, 1) := by decide +kernel
theorem dX11_does_74 : decode cX11_does 74 = .ok (.ireturn, 1) := by decide +kernel
theorem dX11_does_75 : decode cX11_does 75 = .ok (.aload_n 0, 1) := by decide +kernel
theorem dX11_does_76 : decode cX11_does 76 = .ok (.aload_n 0, 1) := by decide +kernel
theorem dX11_does_77 : decode cX11_does 77 = .ok (.invokevirtual 186, 3) := by decide +kernel
theorem dX11_does_80 : decode cX11_does 80 = .ok (.invokevirtual 295, 3) := by decide +kernel
theorem dX11_does_83 : decode cX11_does 83 = .ok (.istore_n 2, 1) := by decide +kernel
theorem dX11_does_84 : decode cX11_does 84 = .ok (.aload_n 0, 1) := by decide +kernel
theorem dX11_does_85 : decode cX11_does 85 = .ok (.invokevirtual 190, 3) := by decide +kernel
theorem dX11_does_88 : decode cX11_does 88 = .ok (.bipush 12, 2) := by decide +kernel
theorem dX11_does_90 : decode cX11_does 90 = .ok (.if_icmp .ne 5, 3) := by decide +kernel
theorem dX11_does_93 : decode cX11_does 93 = .ok (.iconst 0, 1) := by decide +kernel
theorem dX11_does_94 : decode cX11_does 94 = .ok (.ireturn, 1) := by decide +kernel
theorem dX11_does_95 : decode cX11_does 95 = .ok (.aload_n 0, 1) := by decide +kernel
theorem dX11_does_96 : decode cX11_does 96 = .ok (.iload_n 2, 1) := by decide +kernel
theorem dX11_does_97 : decode cX11_does 97 = .ok (.invokevirtual 279, 3) := by decide +kernel
theorem dX11_does_100 : decode cX11_does 100 = .ok (.iconst 1, 1) := by decide +kernel
theorem dX11_does_101 : decode cX11_does 101 = .ok (.ireturn, 1) := by decide +kernel
theorem dX11_drawn_0 : decode cX11_drawn 0 = .ok (.aload_n 0, 1) := by decide +kernel
theorem dX11_drawn_1 : decode cX11_drawn 1 = .ok (.iconst 0, 1) := by decide +kernel
theorem dX11_drawn_2 : decode cX11_drawn 2 = .ok (.putfield 1, 3) := by decide +kernel
theorem dX11_drawn_5 : decode cX11_drawn 5 = .ok (.iload_n 1, 1) := by decide +kernel
theorem dX11_drawn_6 : decode cX11_drawn 6 = .ok (.iconst 1, 1) := by decide +kernel
theorem dX11_drawn_7 : decode cX11_drawn 7 = .ok (.bipush 60, 2) := by decide +kernel
theorem dX11_drawn_9 : decode cX11_drawn 9 = .ok (.invokestatic 157, 3) := by decide +kernel
theorem dX11_drawn_12 : decode cX11_drawn 12 = .ok (.ifCond .ne 5, 3) := by decide +kernel
theorem dX11_drawn_15 : decode cX11_drawn 15 = .ok (.iconst (-1), 1) := by decide +kernel
theorem dX11_drawn_16 : decode cX11_drawn 16 = .ok (.ireturn, 1) := by decide +kernel
theorem dX11_drawn_17 : decode cX11_drawn 17 = .ok (.aload_n 0, 1) := by decide +kernel
theorem dX11_drawn_18 : decode cX11_drawn 18 = .ok (.getfield 85, 3) := by decide +kernel
theorem dX11_drawn_21 : decode cX11_drawn 21 = .ok (.iconst 0, 1) := by decide +kernel
theorem dX11_drawn_22 : decode cX11_drawn 22 = .ok (.aload_n 0, 1) := by decide +kernel
theorem dX11_drawn_23 : decode cX11_drawn 23 = .ok (.getfield 97, 3) := by decide +kernel
theorem dX11_drawn_26 : decode cX11_drawn 26 = .ok (.iconst 0, 1) := by decide +kernel
theorem dX11_drawn_27 : decode cX11_drawn 27 = .ok (.invokestatic 179, 3) := by decide +kernel
theorem dX11_drawn_30 : decode cX11_drawn 30 = .ok (.aload_n 0, 1) := by decide +kernel
theorem dX11_drawn_31 : decode cX11_drawn 31 = .ok (.iload_n 2, 1) := by decide +kernel
theorem dX11_drawn_32 : decode cX11_drawn 32 = .ok (.putfield 291, 3) := by decide +kernel
theorem dX11_drawn_35 : decode cX11_drawn 35 = .ok (.iconst 0, 1) := by decide +kernel
theorem dX11_drawn_36 : decode cX11_drawn 36 = .ok (.istore_n 3, 1) := by decide +kernel
theorem dX11_drawn_37 : decode cX11_drawn 37 = .ok (.iconst 0, 1) := by decide +kernel
theorem dX11_drawn_38 : decode cX11_drawn 38 = .ok (.istore 4, 2) := by decide +kernel
theorem dX11_drawn_40 : decode cX11_drawn 40 = .ok (.iload 4, 2) := by decide +kernel
theorem dX11_drawn_42 : decode cX11_drawn 42 = .ok (.iload_n 1, 1) := by decide +kernel
theorem dX11_drawn_43 : decode cX11_drawn 43 = .ok (.if_icmp .ge 19, 3) := by decide +kernel
theorem dX11_drawn_46 : decode cX11_drawn 46 = .ok (.aload_n 0, 1) := by decide +kernel
theorem dX11_drawn_47 : decode cX11_drawn 47 = .ok (.invokevirtual 298, 3) := by decide +kernel
theorem dX11_drawn_50 : decode cX11_drawn 50 = .ok (.ifCond .eq 6, 3) := by decide +kernel
theorem dX11_drawn_53 : decode cX11_drawn 53 = .ok (.iinc 3 1, 3) := by decide +kernel
theorem dX11_drawn_56 : decode cX11_drawn 56 = .ok (.iinc 4 1, 3) := by decide +kernel
theorem dX11_drawn_59 : decode cX11_drawn 59 = .ok (.goto (-19), 3) := by decide +kernel
theorem dX11_drawn_62 : decode cX11_drawn 62 = .ok (.iload_n 3, 1) := by decide +kernel
theorem dX11_drawn_63 : decode cX11_drawn 63 = .ok (.ifCond .le 7, 3) := by decide +kernel
theorem dX11_drawn_66 : decode cX11_drawn 66 = .ok (.aload_n 0, 1) := by decide +kernel
theorem dX11_drawn_67 : decode cX11_drawn 67 = .ok (.invokevirtual 301, 3) := by decide +kernel
theorem dX11_drawn_70 : decode cX11_drawn 70 = .ok (.iload_n 3, 1) := by decide +kernel
theorem dX11_drawn_71 : decode cX11_drawn 71 = .ok (.ireturn, 1) := by decide +kernel
theorem dX11_undo_0 : decode cX11_undo 0 = .ok (.aload_n 0, 1) := by decide +kernel
theorem dX11_undo_1 : decode cX11_undo 1 = .ok (.iconst 0, 1) := by decide +kernel
theorem dX11_undo_2 : decode cX11_undo 2 = .ok (.putfield 1, 3) := by decide +kernel
theorem dX11_undo_5 : decode cX11_undo 5 = .ok (.aload_n 0, 1) := by decide +kernel
theorem dX11_undo_6 : decode cX11_undo 6 = .ok (.getfield 183, 3) := by decide +kernel
theorem dX11_undo_9 : decode cX11_undo 9 = .ok (.ifCond .ne 5, 3) := by decide +kernel
theorem dX11_undo_12 : decode cX11_undo 12 = .ok (.iconst (-1), 1) := by decide +kernel
theorem dX11_undo_13 : decode cX11_undo 13 = .ok (.ireturn, 1) := by decide +kernel
theorem dX11_undo_14 : decode cX11_undo 14 = .ok (.aload_n 0, 1) := by decide +kernel
theorem dX11_undo_15 : decode cX11_undo 15 = .ok (.dup, 1) := by decide +kernel
theorem dX11_undo_16 : decode cX11_undo 16 = .ok (.getfield 183, 3) := by decide +kernel
theorem dX11_undo_19 : decode cX11_undo 19 = .ok (.iconst 1, 1) := by decide +kernel
theorem dX11_undo_20 : decode cX11_undo 20 = .ok (.isub, 1) := by decide +kernel
theorem dX11_undo_21 : decode cX11_undo 21 = .ok (.putfield 183, 3) := by decide +kernel
theorem dX11_undo_24 : decode cX11_undo 24 = .ok (.aload_n 0, 1) := by decide +kernel
theorem dX11_undo_25 : decode cX11_undo 25 = .ok (.getfield 94, 3) := by decide +kernel
theorem dX11_undo_28 : decode cX11_undo 28 = .ok (.bipush 17, 2) := by decide +kernel
theorem dX11_undo_30 : decode cX11_undo 30 = .ok (.aload_n 0, 1) := by decide +kernel
theorem dX11_undo_31 : decode cX11_undo 31 = .ok (.getfield 183, 3) := by decide +kernel
theorem dX11_undo_34 : decode cX11_undo 34 = .ok (.imul, 1) := by decide +kernel
theorem dX11_undo_35 : decode cX11_undo 35 = .ok (.aload_n 0, 1) := by decide +kernel
theorem dX11_undo_36 : decode cX11_undo 36 = .ok (.getfield 85, 3) := by decide +kernel
theorem dX11_undo_39 : decode cX11_undo 39 = .ok (.iconst 0, 1) := by decide +kernel
theorem dX11_undo_40 : decode cX11_undo 40 = .ok (.invokestatic 179, 3) := by decide +kernel
theorem dX11_undo_43 : decode cX11_undo 43 = .ok (.aload_n 0, 1) := by decide +kernel
theorem dX11_undo_44 : decode cX11_undo 44 = .ok (.getfield 183, 3) := by decide +kernel
theorem dX11_undo_47 : decode cX11_undo 47 = .ok (.ireturn, 1) := by decide +kernel
theorem dX11_image_0 : decode cX11_image 0 = .ok (.aload_n 0, 1) := by decide +kernel
theorem dX11_image_1 : decode cX11_image 1 = .ok (.iconst 0, 1) := by decide +kernel
theorem dX11_image_2 : decode cX11_image 2 = .ok (.putfield 1, 3) := by decide +kernel
theorem dX11_image_5 : decode cX11_image 5 = .ok (.iload_n 1, 1) := by decide +kernel
theorem dX11_image_6 : decode cX11_image 6 = .ok (.iconst 0, 1) := by decide +kernel
theorem dX11_image_7 : decode cX11_image 7 = .ok (.iconst 1, 1) := by decide +kernel
theorem dX11_image_8 : decode cX11_image 8 = .ok (.invokestatic 157, 3) := by decide +kernel
theorem dX11_image_11 : decode cX11_image 11 = .ok (.ifCond .ne 5, 3) := by decide +kernel
theorem dX11_image_14 : decode cX11_image 14 = .ok (.iconst 0, 1) := by decide +kernel
theorem dX11_image_15 : decode cX11_image 15 = .ok (.ireturn, 1) := by decide +kernel
theorem dX11_image_16 : decode cX11_image 16 = .ok (.aload_n 0, 1) := by decide +kernel
theorem dX11_image_17 : decode cX11_image 17 = .ok (.getfield 85, 3) := by decide +kernel
theorem dX11_image_20 : decode cX11_image 20 = .ok (.iconst 0, 1) := by decide +kernel
theorem dX11_image_21 : decode cX11_image 21 = .ok (.aload_n 0, 1) := by decide +kernel
theorem dX11_image_22 : decode cX11_image 22 = .ok (.getfield 91, 3) := by decide +kernel
theorem dX11_image_25 : decode cX11_image 25 = .ok (.bipush 17, 2) := by decide +kernel
theorem dX11_image_27 : decode cX11_image 27 = .ok (.iload_n 1, 1) := by decide +kernel
theorem dX11_image_28 : decode cX11_image 28 = .ok (.imul, 1) := by decide +kernel
theorem dX11_image_29 : decode cX11_image 29 = .ok (.invokestatic 179, 3) := by decide +kernel
theorem dX11_image_32 : decode cX11_image 32 = .ok (.aload_n 0, 1) := by decide +kernel
theorem dX11_image_33 : decode cX11_image 33 = .ok (.getfield 103, 3) := by decide +kernel
theorem dX11_image_36 : decode cX11_image 36 = .ok (.iload_n 1, 1) := by decide +kernel
theorem dX11_image_37 : decode cX11_image 37 = .ok (.iconst 1, 1) := by decide +kernel
theorem dX11_image_38 : decode cX11_image 38 = .ok (.bastore, 1) := by decide +kernel
theorem dX11_image_39 : decode cX11_image 39 = .ok (.iconst 1, 1) := by decide +kernel
theorem dX11_image_40 : decode cX11_image 40 = .ok (.ireturn, 1) := by decide +kernel
theorem dX11_restore_0 : decode cX11_restore 0 = .ok (.aload_n 0, 1) := by decide +kernel
theorem dX11_restore_1 : decode cX11_restore 1 = .ok (.iconst 0, 1) := by decide +kernel
theorem dX11_restore_2 : decode cX11_restore 2 = .ok (.putfield 1, 3) := by decide +kernel
theorem dX11_restore_5 : decode cX11_restore 5 = .ok (.iload_n 1, 1) := by decide +kernel
theorem dX11_restore_6 : decode cX11_restore 6 = .ok (.iconst 0, 1) := by decide +kernel
theorem dX11_restore_7 : decode cX11_restore 7 = .ok (.iconst 1, 1) := by decide +kernel
theorem dX11_restore_8 : decode cX11_restore 8 = .ok (.invokestatic 157, 3) := by decide +kernel
theorem dX11_restore_11 : decode cX11_restore 11 = .ok (.ifCond .eq 12, 3) := by decide +kernel
theorem dX11_restore_14 : decode cX11_restore 14 = .ok (.aload_n 0, 1) := by decide +kernel
theorem dX11_restore_15 : decode cX11_restore 15 = .ok (.getfield 103, 3) := by decide +kernel
theorem dX11_restore_18 : decode cX11_restore 18 = .ok (.iload_n 1, 1) := by decide +kernel
theorem dX11_restore_19 : decode cX11_restore 19 = .ok (.baload, 1) := by decide +kernel
theorem dX11_restore_20 : decode cX11_restore 20 = .ok (.ifCond .ne 5, 3) := by decide +kernel
theorem dX11_restore_23 : decode cX11_restore 23 = .ok (.iconst 0, 1) := by decide +kernel
theorem dX11_restore_24 : decode cX11_restore 24 = .ok (.ireturn, 1) := by decide +kernel
theorem dX11_restore_25 : decode cX11_restore 25 = .ok (.aload_n 0, 1) := by decide +kernel
theorem dX11_restore_26 : decode cX11_restore 26 = .ok (.getfield 91, 3) := by decide +kernel
theorem dX11_restore_29 : decode cX11_restore 29 = .ok (.bipush 17, 2) := by decide +kernel
theorem dX11_restore_31 : decode cX11_restore 31 = .ok (.iload_n 1, 1) := by decide +kernel
theorem dX11_restore_32 : decode cX11_restore 32 = .ok (.imul, 1) := by decide +kernel
theorem dX11_restore_33 : decode cX11_restore 33 = .ok (.aload_n 0, 1) := by decide +kernel
theorem dX11_restore_34 : decode cX11_restore 34 = .ok (.getfield 85, 3) := by decide +kernel
theorem dX11_restore_37 : decode cX11_restore 37 = .ok (.iconst 0, 1) := by decide +kernel
theorem dX11_restore_38 : decode cX11_restore 38 = .ok (.invokestatic 179, 3) := by decide +kernel
theorem dX11_restore_41 : decode cX11_restore 41 = .ok (.aload_n 0, 1) := by decide +kernel
theorem dX11_restore_42 : decode cX11_restore 42 = .ok (.iconst 0, 1) := by decide +kernel
theorem dX11_restore_43 : decode cX11_restore 43 = .ok (.putfield 183, 3) := by decide +kernel
theorem dX11_restore_46 : decode cX11_restore 46 = .ok (.iconst 1, 1) := by decide +kernel
theorem dX11_restore_47 : decode cX11_restore 47 = .ok (.ireturn, 1) := by decide +kernel
theorem dJ9_max_7cf53_0 : decode cJ9_max_7cf53 0 = .ok (.iload_n 0, 1) := by decide +kernel
theorem dJ9_max_7cf53_1 : decode cJ9_max_7cf53 1 = .ok (.iload_n 1, 1) := by decide +kernel
theorem dJ9_max_7cf53_2 : decode cJ9_max_7cf53 2 = .ok (.if_icmp .lt 7, 3) := by decide +kernel
theorem dJ9_max_7cf53_5 : decode cJ9_max_7cf53 5 = .ok (.iload_n 0, 1) := by decide +kernel
theorem dJ9_max_7cf53_6 : decode cJ9_max_7cf53 6 = .ok (.goto 4, 3) := by decide +kernel
theorem dJ9_max_7cf53_9 : decode cJ9_max_7cf53 9 = .ok (.iload_n 1, 1) := by decide +kernel
theorem dJ9_max_7cf53_10 : decode cJ9_max_7cf53 10 = .ok (.ireturn, 1) := by decide +kernel
theorem dJ9_min_7cf53_0 : decode cJ9_min_7cf53 0 = .ok (.iload_n 0, 1) := by decide +kernel
theorem dJ9_min_7cf53_1 : decode cJ9_min_7cf53 1 = .ok (.iload_n 1, 1) := by decide +kernel
theorem dJ9_min_7cf53_2 : decode cJ9_min_7cf53 2 = .ok (.if_icmp .gt 7, 3) := by decide +kernel
theorem dJ9_min_7cf53_5 : decode cJ9_min_7cf53 5 = .ok (.iload_n 0, 1) := by decide +kernel
theorem dJ9_min_7cf53_6 : decode cJ9_min_7cf53 6 = .ok (.goto 4, 3) := by decide +kernel
theorem dJ9_min_7cf53_9 : decode cJ9_min_7cf53 9 = .ok (.iload_n 1, 1) := by decide +kernel
theorem dJ9_min_7cf53_10 : decode cJ9_min_7cf53 10 = .ok (.ireturn, 1) := by decide +kernel
theorem dJ0_length_8abf5_0 : decode cJ0_length_8abf5 0 = .ok (.aload_n 0, 1) := by decide +kernel
theorem dJ0_length_8abf5_1 : decode cJ0_length_8abf5 1 = .ok (.getfield 9, 3) := by decide +kernel
theorem dJ0_length_8abf5_4 : decode cJ0_length_8abf5 4 = .ok (.arraylength, 1) := by decide +kernel
theorem dJ0_length_8abf5_5 : decode cJ0_length_8abf5 5 = .ok (.aload_n 0, 1) := by decide +kernel
theorem dJ0_length_8abf5_6 : decode cJ0_length_8abf5 6 = .ok (.invokevirtual 335, 3) := by decide +kernel
theorem dJ0_length_8abf5_9 : decode cJ0_length_8abf5 9 = .ok (.ishr, 1) := by decide +kernel
theorem dJ0_length_8abf5_10 : decode cJ0_length_8abf5 10 = .ok (.ireturn, 1) := by decide +kernel
theorem dJ0_charAt_5068e_0 : decode cJ0_charAt_5068e 0 = .ok (.aload_n 0, 1) := by decide +kernel
theorem dJ0_charAt_5068e_1 : decode cJ0_charAt_5068e 1 = .ok (.invokevirtual 492, 3) := by decide +kernel
theorem dJ0_charAt_5068e_4 : decode cJ0_charAt_5068e 4 = .ok (.ifCond .eq 12, 3) := by decide +kernel
theorem dJ0_charAt_5068e_7 : decode cJ0_charAt_5068e 7 = .ok (.aload_n 0, 1) := by decide +kernel
theorem dJ0_charAt_5068e_8 : decode cJ0_charAt_5068e 8 = .ok (.getfield 9, 3) := by decide +kernel
theorem dJ0_charAt_5068e_11 : decode cJ0_charAt_5068e 11 = .ok (.iload_n 1, 1) := by decide +kernel
theorem dJ0_charAt_5068e_12 : decode cJ0_charAt_5068e 12 = .ok (.invokestatic 495, 3) := by decide +kernel
theorem dJ0_charAt_5068e_15 : decode cJ0_charAt_5068e 15 = .ok (.ireturn, 1) := by decide +kernel
theorem dJ0_charAt_5068e_16 : decode cJ0_charAt_5068e 16 = .ok (.aload_n 0, 1) := by decide +kernel
theorem dJ0_charAt_5068e_17 : decode cJ0_charAt_5068e 17 = .ok (.getfield 9, 3) := by decide +kernel
theorem dJ0_charAt_5068e_20 : decode cJ0_charAt_5068e 20 = .ok (.iload_n 1, 1) := by decide +kernel
theorem dJ0_charAt_5068e_21 : decode cJ0_charAt_5068e 21 = .ok (.invokestatic 498, 3) := by decide +kernel
theorem dJ0_charAt_5068e_24 : decode cJ0_charAt_5068e 24 = .ok (.ireturn, 1) := by decide +kernel
theorem dJ0_coder_7d493_0 : decode cJ0_coder_7d493 0 = .ok (.getstatic 38, 3) := by decide +kernel
theorem dJ0_coder_7d493_3 : decode cJ0_coder_7d493 3 = .ok (.ifCond .eq 10, 3) := by decide +kernel
theorem dJ0_coder_7d493_6 : decode cJ0_coder_7d493 6 = .ok (.aload_n 0, 1) := by decide +kernel
theorem dJ0_coder_7d493_7 : decode cJ0_coder_7d493 7 = .ok (.getfield 15, 3) := by decide +kernel
theorem dJ0_coder_7d493_10 : decode cJ0_coder_7d493 10 = .ok (.goto 4, 3) := by decide +kernel
theorem dJ0_coder_7d493_13 : decode cJ0_coder_7d493 13 = .ok (.iconst 1, 1) := by decide +kernel
theorem dJ0_coder_7d493_14 : decode cJ0_coder_7d493 14 = .ok (.ireturn, 1) := by decide +kernel
theorem dJ0_isLatin1_aae02_0 : decode cJ0_isLatin1_aae02 0 = .ok (.getstatic 38, 3) := by decide +kernel
theorem dJ0_isLatin1_aae02_3 : decode cJ0_isLatin1_aae02 3 = .ok (.ifCond .eq 14, 3) := by decide +kernel
theorem dJ0_isLatin1_aae02_6 : decode cJ0_isLatin1_aae02 6 = .ok (.aload_n 0, 1) := by decide +kernel
theorem dJ0_isLatin1_aae02_7 : decode cJ0_isLatin1_aae02 7 = .ok (.getfield 15, 3) := by decide +kernel
theorem dJ0_isLatin1_aae02_10 : decode cJ0_isLatin1_aae02 10 = .ok (.ifCond .ne 7, 3) := by decide +kernel
theorem dJ0_isLatin1_aae02_13 : decode cJ0_isLatin1_aae02 13 = .ok (.iconst 1, 1) := by decide +kernel
theorem dJ0_isLatin1_aae02_14 : decode cJ0_isLatin1_aae02 14 = .ok (.goto 4, 3) := by decide +kernel
theorem dJ0_isLatin1_aae02_17 : decode cJ0_isLatin1_aae02 17 = .ok (.iconst 0, 1) := by decide +kernel
theorem dJ0_isLatin1_aae02_18 : decode cJ0_isLatin1_aae02 18 = .ok (.ireturn, 1) := by decide +kernel
theorem dJ0_checkIndex_df160_0 : decode cJ0_checkIndex_df160 0 = .ok (.iload_n 0, 1) := by decide +kernel
theorem dJ0_checkIndex_df160_1 : decode cJ0_checkIndex_df160 1 = .ok (.iload_n 1, 1) := by decide +kernel
theorem dJ0_checkIndex_df160_2 : decode cJ0_checkIndex_df160 2 = .ok (.getstatic 1053, 3) := by decide +kernel
theorem dJ0_checkIndex_df160_5 : decode cJ0_checkIndex_df160 5 = .ok (.invokestatic 1059, 3) := by decide +kernel
theorem dJ0_checkIndex_df160_8 : decode cJ0_checkIndex_df160 8 = .ok (.pop, 1) := by decide +kernel
theorem dJ0_checkIndex_df160_9 : decode cJ0_checkIndex_df160 9 = .ok (.return_, 1) := by decide +kernel
theorem dJ1_charAt_3b067_0 : decode cJ1_charAt_3b067 0 = .ok (.iload_n 1, 1) := by decide +kernel
theorem dJ1_charAt_3b067_1 : decode cJ1_charAt_3b067 1 = .ok (.aload_n 0, 1) := by decide +kernel
theorem dJ1_charAt_3b067_2 : decode cJ1_charAt_3b067 2 = .ok (.arraylength, 1) := by decide +kernel
theorem dJ1_charAt_3b067_3 : decode cJ1_charAt_3b067 3 = .ok (.invokestatic 9, 3) := by decide +kernel
theorem dJ1_charAt_3b067_6 : decode cJ1_charAt_3b067 6 = .ok (.aload_n 0, 1) := by decide +kernel
theorem dJ1_charAt_3b067_7 : decode cJ1_charAt_3b067 7 = .ok (.iload_n 1, 1) := by decide +kernel
theorem dJ1_charAt_3b067_8 : decode cJ1_charAt_3b067 8 = .ok (.baload, 1) := by decide +kernel
theorem dJ1_charAt_3b067_9 : decode cJ1_charAt_3b067 9 = .ok (.sipush 255, 3) := by decide +kernel
theorem dJ1_charAt_3b067_12 : decode cJ1_charAt_3b067 12 = .ok (.iand, 1) := by decide +kernel
theorem dJ1_charAt_3b067_13 : decode cJ1_charAt_3b067 13 = .ok (.i2c, 1) := by decide +kernel
theorem dJ1_charAt_3b067_14 : decode cJ1_charAt_3b067 14 = .ok (.ireturn, 1) := by decide +kernel
theorem dJ2_getChar_3b067_0 : decode cJ2_getChar_3b067 0 = .ok (.getstatic 44, 3) := by decide +kernel
theorem dJ2_getChar_3b067_3 : decode cJ2_getChar_3b067 3 = .ok (.ifCond .ne 25, 3) := by decide +kernel
theorem dJ2_getChar_3b067_6 : decode cJ2_getChar_3b067 6 = .ok (.iload_n 1, 1) := by decide +kernel
theorem dJ2_getChar_3b067_7 : decode cJ2_getChar_3b067 7 = .ok (.ifCond .lt 11, 3) := by decide +kernel
theorem dJ2_getChar_3b067_10 : decode cJ2_getChar_3b067 10 = .ok (.iload_n 1, 1) := by decide +kernel
theorem dJ2_getChar_3b067_11 : decode cJ2_getChar_3b067 11 = .ok (.aload_n 0, 1) := by decide +kernel
theorem dJ2_getChar_3b067_12 : decode cJ2_getChar_3b067 12 = .ok (.invokestatic 48, 3) := by decide +kernel
theorem dJ2_getChar_3b067_15 : decode cJ2_getChar_3b067 15 = .ok (.if_icmp .lt 13, 3) := by decide +kernel
theorem dJ2_getChar_3b067_18 : decode cJ2_getChar_3b067 18 = .ok (.new 52, 3) := by decide +kernel
theorem dJ2_getChar_3b067_21 : decode cJ2_getChar_3b067 21 = .ok (.dup, 1) := by decide +kernel
theorem dJ2_getChar_3b067_22 : decode cJ2_getChar_3b067 22 = .ok (.ldc 54, 2) := by decide +kernel
theorem dJ2_getChar_3b067_24 : decode cJ2_getChar_3b067 24 = .ok (.invokespecial 56, 3) := by decide +kernel
theorem dJ2_getChar_3b067_27 : decode cJ2_getChar_3b067 27 = .ok (.athrow, 1) := by decide +kernel
theorem dJ2_getChar_3b067_28 : decode cJ2_getChar_3b067 28 = .ok (.iload_n 1, 1) := by decide +kernel
theorem dJ2_getChar_3b067_29 : decode cJ2_getChar_3b067 29 = .ok (.iconst 1, 1) := by decide +kernel
theorem dJ2_getChar_3b067_30 : decode cJ2_getChar_3b067 30 = .ok (.ishl, 1) := by decide +kernel
theorem dJ2_getChar_3b067_31 : decode cJ2_getChar_3b067 31 = .ok (.istore_n 1, 1) := by decide +kernel
theorem dJ2_getChar_3b067_32 : decode cJ2_getChar_3b067 32 = .ok (.aload_n 0, 1) := by decide +kernel
theorem dJ2_getChar_3b067_33 : decode cJ2_getChar_3b067 33 = .ok (.iload_n 1, 1) := by decide +kernel
theorem dJ2_getChar_3b067_34 : decode cJ2_getChar_3b067 34 = .ok (.iinc 1 1, 3) := by decide +kernel
theorem dJ2_getChar_3b067_37 : decode cJ2_getChar_3b067 37 = .ok (.baload, 1) := by decide +kernel
theorem dJ2_getChar_3b067_38 : decode cJ2_getChar_3b067 38 = .ok (.sipush 255, 3) := by decide +kernel
theorem dJ2_getChar_3b067_41 : decode cJ2_getChar_3b067 41 = .ok (.iand, 1) := by decide +kernel
theorem dJ2_getChar_3b067_42 : decode cJ2_getChar_3b067 42 = .ok (.getstatic 59, 3) := by decide +kernel
theorem dJ2_getChar_3b067_45 : decode cJ2_getChar_3b067 45 = .ok (.ishl, 1) := by decide +kernel
theorem dJ2_getChar_3b067_46 : decode cJ2_getChar_3b067 46 = .ok (.aload_n 0, 1) := by decide +kernel
theorem dJ2_getChar_3b067_47 : decode cJ2_getChar_3b067 47 = .ok (.iload_n 1, 1) := by decide +kernel
theorem dJ2_getChar_3b067_48 : decode cJ2_getChar_3b067 48 = .ok (.baload, 1) := by decide +kernel
theorem dJ2_getChar_3b067_49 : decode cJ2_getChar_3b067 49 = .ok (.sipush 255, 3) := by decide +kernel
theorem dJ2_getChar_3b067_52 : decode cJ2_getChar_3b067 52 = .ok (.iand, 1) := by decide +kernel
theorem dJ2_getChar_3b067_53 : decode cJ2_getChar_3b067 53 = .ok (.getstatic 63, 3) := by decide +kernel
theorem dJ2_getChar_3b067_56 : decode cJ2_getChar_3b067 56 = .ok (.ishl, 1) := by decide +kernel
theorem dJ2_getChar_3b067_57 : decode cJ2_getChar_3b067 57 = .ok (.ior, 1) := by decide +kernel
theorem dJ2_getChar_3b067_58 : decode cJ2_getChar_3b067 58 = .ok (.i2c, 1) := by decide +kernel
theorem dJ2_getChar_3b067_59 : decode cJ2_getChar_3b067 59 = .ok (.ireturn, 1) := by decide +kernel
theorem dJ2_length_9d52b_0 : decode cJ2_length_9d52b 0 = .ok (.aload_n 0, 1) := by decide +kernel
theorem dJ2_length_9d52b_1 : decode cJ2_length_9d52b 1 = .ok (.arraylength, 1) := by decide +kernel
theorem dJ2_length_9d52b_2 : decode cJ2_length_9d52b 2 = .ok (.iconst 1, 1) := by decide +kernel
theorem dJ2_length_9d52b_3 : decode cJ2_length_9d52b 3 = .ok (.ishr, 1) := by decide +kernel
theorem dJ2_length_9d52b_4 : decode cJ2_length_9d52b 4 = .ok (.ireturn, 1) := by decide +kernel
theorem dJ2_charAt_3b067_0 : decode cJ2_charAt_3b067 0 = .ok (.iload_n 1, 1) := by decide +kernel
theorem dJ2_charAt_3b067_1 : decode cJ2_charAt_3b067 1 = .ok (.aload_n 0, 1) := by decide +kernel
theorem dJ2_charAt_3b067_2 : decode cJ2_charAt_3b067 2 = .ok (.invokestatic 67, 3) := by decide +kernel
theorem dJ2_charAt_3b067_5 : decode cJ2_charAt_3b067 5 = .ok (.aload_n 0, 1) := by decide +kernel
theorem dJ2_charAt_3b067_6 : decode cJ2_charAt_3b067 6 = .ok (.iload_n 1, 1) := by decide +kernel
theorem dJ2_charAt_3b067_7 : decode cJ2_charAt_3b067 7 = .ok (.invokestatic 71, 3) := by decide +kernel
theorem dJ2_charAt_3b067_10 : decode cJ2_charAt_3b067 10 = .ok (.ireturn, 1) := by decide +kernel
theorem dJ2_checkIndex_2214a_0 : decode cJ2_checkIndex_2214a 0 = .ok (.iload_n 0, 1) := by decide +kernel
theorem dJ2_checkIndex_2214a_1 : decode cJ2_checkIndex_2214a 1 = .ok (.aload_n 1, 1) := by decide +kernel
theorem dJ2_checkIndex_2214a_2 : decode cJ2_checkIndex_2214a 2 = .ok (.invokestatic 48, 3) := by decide +kernel
theorem dJ2_checkIndex_2214a_5 : decode cJ2_checkIndex_2214a 5 = .ok (.invokestatic 414, 3) := by decide +kernel
theorem dJ2_checkIndex_2214a_8 : decode cJ2_checkIndex_2214a 8 = .ok (.return_, 1) := by decide +kernel
theorem dJ3_checkIndex_8e157_0 : decode cJ3_checkIndex_8e157 0 = .ok (.iload_n 0, 1) := by decide +kernel
theorem dJ3_checkIndex_8e157_1 : decode cJ3_checkIndex_8e157 1 = .ok (.ifCond .lt 8, 3) := by decide +kernel
theorem dJ3_checkIndex_8e157_4 : decode cJ3_checkIndex_8e157 4 = .ok (.iload_n 0, 1) := by decide +kernel
theorem dJ3_checkIndex_8e157_5 : decode cJ3_checkIndex_8e157 5 = .ok (.iload_n 1, 1) := by decide +kernel
theorem dJ3_checkIndex_8e157_6 : decode cJ3_checkIndex_8e157 6 = .ok (.if_icmp .lt 10, 3) := by decide +kernel
theorem dJ3_checkIndex_8e157_9 : decode cJ3_checkIndex_8e157 9 = .ok (.aload_n 2, 1) := by decide +kernel
theorem dJ3_checkIndex_8e157_10 : decode cJ3_checkIndex_8e157 10 = .ok (.iload_n 0, 1) := by decide +kernel
theorem dJ3_checkIndex_8e157_11 : decode cJ3_checkIndex_8e157 11 = .ok (.iload_n 1, 1) := by decide +kernel
theorem dJ3_checkIndex_8e157_12 : decode cJ3_checkIndex_8e157 12 = .ok (.invokestatic 95, 3) := by decide +kernel
theorem dJ3_checkIndex_8e157_15 : decode cJ3_checkIndex_8e157 15 = .ok (.athrow, 1) := by decide +kernel
theorem dJ3_checkIndex_8e157_16 : decode cJ3_checkIndex_8e157 16 = .ok (.iload_n 0, 1) := by decide +kernel
theorem dJ3_checkIndex_8e157_17 : decode cJ3_checkIndex_8e157 17 = .ok (.ireturn, 1) := by decide +kernel
theorem dL_sum_0 : decode cL_sum 0 = .ok (.aload_n 2, 1) := by decide +kernel
theorem dL_sum_1 : decode cL_sum 1 = .ok (.iconst 0, 1) := by decide +kernel
theorem dL_sum_2 : decode cL_sum 2 = .ok (.aload_n 0, 1) := by decide +kernel
theorem dL_sum_3 : decode cL_sum 3 = .ok (.iload_n 1, 1) := by decide +kernel
theorem dL_sum_4 : decode cL_sum 4 = .ok (.invokevirtual 7, 3) := by decide +kernel
theorem dL_sum_7 : decode cL_sum 7 = .ok (.i2l, 1) := by decide +kernel
theorem dL_sum_8 : decode cL_sum 8 = .ok (.lastore, 1) := by decide +kernel
theorem dL_sum_9 : decode cL_sum 9 = .ok (.goto 6, 3) := by decide +kernel
theorem dL_sum_12 : decode cL_sum 12 = .ok (.astore_n 3, 1) := by decide +kernel
theorem dL_sum_13 : decode cL_sum 13 = .ok (.iconst 1, 1) := by decide +kernel
theorem dL_sum_14 : decode cL_sum 14 = .ok (.ireturn, 1) := by decide +kernel
theorem dL_sum_15 : decode cL_sum 15 = .ok (.iconst 0, 1) := by decide +kernel
theorem dL_sum_16 : decode cL_sum 16 = .ok (.ireturn, 1) := by decide +kernel
theorem dL_law_0 : decode cL_law 0 = .ok (.new 8, 3) := by decide +kernel
theorem dL_law_3 : decode cL_law 3 = .ok (.dup, 1) := by decide +kernel
theorem dL_law_4 : decode cL_law 4 = .ok (.invokespecial 15, 3) := by decide +kernel
theorem dL_law_7 : decode cL_law 7 = .ok (.astore_n 1, 1) := by decide +kernel
theorem dL_law_8 : decode cL_law 8 = .ok (.new 16, 3) := by decide +kernel
theorem dL_law_11 : decode cL_law 11 = .ok (.dup, 1) := by decide +kernel
theorem dL_law_12 : decode cL_law 12 = .ok (.invokespecial 18, 3) := by decide +kernel
theorem dL_law_15 : decode cL_law 15 = .ok (.astore_n 2, 1) := by decide +kernel
theorem dL_law_16 : decode cL_law 16 = .ok (.iconst 1, 1) := by decide +kernel
theorem dL_law_17 : decode cL_law 17 = .ok (.newarray .long, 2) := by decide +kernel
theorem dL_law_19 : decode cL_law 19 = .ok (.astore_n 3, 1) := by decide +kernel
theorem dL_law_20 : decode cL_law 20 = .ok (.iconst 0, 1) := by decide +kernel
theorem dL_law_21 : decode cL_law 21 = .ok (.istore 4, 2) := by decide +kernel
theorem dL_law_23 : decode cL_law 23 = .ok (.iload 4, 2) := by decide +kernel
theorem dL_law_25 : decode cL_law 25 = .ok (.aload_n 0, 1) := by decide +kernel
theorem dL_law_26 : decode cL_law 26 = .ok (.arraylength, 1) := by decide +kernel
theorem dL_law_27 : decode cL_law 27 = .ok (.bipush 6, 2) := by decide +kernel
theorem dL_law_29 : decode cL_law 29 = .ok (.isub, 1) := by decide +kernel
theorem dL_law_30 : decode cL_law 30 = .ok (.if_icmp .gt 1051, 3) := by decide +kernel
theorem dL_law_33 : decode cL_law 33 = .ok (.aload_n 0, 1) := by decide +kernel
theorem dL_law_34 : decode cL_law 34 = .ok (.iload 4, 2) := by decide +kernel
theorem dL_law_36 : decode cL_law 36 = .ok (.iaload, 1) := by decide +kernel
theorem dL_law_37 : decode cL_law 37 = .ok (.bipush 31, 2) := by decide +kernel
theorem dL_law_39 : decode cL_law 39 = .ok (.iand, 1) := by decide +kernel
theorem dL_law_40 : decode cL_law 40 = .ok (.tableswitch 1035 0 31 #[144, 217, 242, 255, 280, 305, 330, 355, 392, 448, 461, 498, 535, 572, 609, 634, 659, 684, 709, 746, 771, 796, 809, 834, 847, 872, 897, 922, 935, 972, 985, 1010], 144) := by decide +kernel
theorem dL_law_184 : decode cL_law 184 = .ok (.aload_n 1, 1) := by decide +kernel
theorem dL_law_185 : decode cL_law 185 = .ok (.aload_n 0, 1) := by decide +kernel
theorem dL_law_186 : decode cL_law 186 = .ok (.iload 4, 2) := by decide +kernel
theorem dL_law_188 : decode cL_law 188 = .ok (.iconst 1, 1) := by decide +kernel
theorem dL_law_189 : decode cL_law 189 = .ok (.iadd, 1) := by decide +kernel
theorem dL_law_190 : decode cL_law 190 = .ok (.iaload, 1) := by decide +kernel
theorem dL_law_191 : decode cL_law 191 = .ok (.aload_n 0, 1) := by decide +kernel
theorem dL_law_192 : decode cL_law 192 = .ok (.iload 4, 2) := by decide +kernel
theorem dL_law_194 : decode cL_law 194 = .ok (.iconst 2, 1) := by decide +kernel
theorem dL_law_195 : decode cL_law 195 = .ok (.iadd, 1) := by decide +kernel
theorem dL_law_196 : decode cL_law 196 = .ok (.iaload, 1) := by decide +kernel
theorem dL_law_197 : decode cL_law 197 = .ok (.aload_n 0, 1) := by decide +kernel
theorem dL_law_198 : decode cL_law 198 = .ok (.iload 4, 2) := by decide +kernel
theorem dL_law_200 : decode cL_law 200 = .ok (.iconst 3, 1) := by decide +kernel
theorem dL_law_201 : decode cL_law 201 = .ok (.iadd, 1) := by decide +kernel
theorem dL_law_202 : decode cL_law 202 = .ok (.iaload, 1) := by decide +kernel
theorem dL_law_203 : decode cL_law 203 = .ok (.aload_n 0, 1) := by decide +kernel
theorem dL_law_204 : decode cL_law 204 = .ok (.iload 4, 2) := by decide +kernel
theorem dL_law_206 : decode cL_law 206 = .ok (.iconst 4, 1) := by decide +kernel
theorem dL_law_207 : decode cL_law 207 = .ok (.iadd, 1) := by decide +kernel
theorem dL_law_208 : decode cL_law 208 = .ok (.iaload, 1) := by decide +kernel
theorem dL_law_209 : decode cL_law 209 = .ok (.aload_n 0, 1) := by decide +kernel
theorem dL_law_210 : decode cL_law 210 = .ok (.iload 4, 2) := by decide +kernel
theorem dL_law_212 : decode cL_law 212 = .ok (.iconst 5, 1) := by decide +kernel
theorem dL_law_213 : decode cL_law 213 = .ok (.iadd, 1) := by decide +kernel
theorem dL_law_214 : decode cL_law 214 = .ok (.iaload, 1) := by decide +kernel
theorem dL_law_215 : decode cL_law 215 = .ok (.invokevirtual 19, 3) := by decide +kernel
theorem dL_law_218 : decode cL_law 218 = .ok (.aload_n 2, 1) := by decide +kernel
theorem dL_law_219 : decode cL_law 219 = .ok (.aload_n 0, 1) := by decide +kernel
theorem dL_law_220 : decode cL_law 220 = .ok (.iload 4, 2) := by decide +kernel
theorem dL_law_222 : decode cL_law 222 = .ok (.iconst 1, 1) := by decide +kernel
theorem dL_law_223 : decode cL_law 223 = .ok (.iadd, 1) := by decide +kernel
theorem dL_law_224 : decode cL_law 224 = .ok (.iaload, 1) := by decide +kernel
theorem dL_law_225 : decode cL_law 225 = .ok (.aload_n 0, 1) := by decide +kernel
theorem dL_law_226 : decode cL_law 226 = .ok (.iload 4, 2) := by decide +kernel
theorem dL_law_228 : decode cL_law 228 = .ok (.iconst 2, 1) := by decide +kernel
theorem dL_law_229 : decode cL_law 229 = .ok (.iadd, 1) := by decide +kernel
theorem dL_law_230 : decode cL_law 230 = .ok (.iaload, 1) := by decide +kernel
theorem dL_law_231 : decode cL_law 231 = .ok (.aload_n 0, 1) := by decide +kernel
theorem dL_law_232 : decode cL_law 232 = .ok (.iload 4, 2) := by decide +kernel
theorem dL_law_234 : decode cL_law 234 = .ok (.iconst 3, 1) := by decide +kernel
theorem dL_law_235 : decode cL_law 235 = .ok (.iadd, 1) := by decide +kernel
theorem dL_law_236 : decode cL_law 236 = .ok (.iaload, 1) := by decide +kernel
theorem dL_law_237 : decode cL_law 237 = .ok (.aload_n 0, 1) := by decide +kernel
theorem dL_law_238 : decode cL_law 238 = .ok (.iload 4, 2) := by decide +kernel
theorem dL_law_240 : decode cL_law 240 = .ok (.iconst 4, 1) := by decide +kernel
theorem dL_law_241 : decode cL_law 241 = .ok (.iadd, 1) := by decide +kernel
theorem dL_law_242 : decode cL_law 242 = .ok (.iaload, 1) := by decide +kernel
theorem dL_law_243 : decode cL_law 243 = .ok (.aload_n 0, 1) := by decide +kernel
theorem dL_law_244 : decode cL_law 244 = .ok (.iload 4, 2) := by decide +kernel
theorem dL_law_246 : decode cL_law 246 = .ok (.iconst 5, 1) := by decide +kernel
theorem dL_law_247 : decode cL_law 247 = .ok (.iadd, 1) := by decide +kernel
theorem dL_law_248 : decode cL_law 248 = .ok (.iaload, 1) := by decide +kernel
theorem dL_law_249 : decode cL_law 249 = .ok (.invokevirtual 23, 3) := by decide +kernel
theorem dL_law_252 : decode cL_law 252 = .ok (.if_icmp .eq 823, 3) := by decide +kernel
theorem dL_law_255 : decode cL_law 255 = .ok (.iconst 0, 1) := by decide +kernel
theorem dL_law_256 : decode cL_law 256 = .ok (.ireturn, 1) := by decide +kernel
theorem dL_law_257 : decode cL_law 257 = .ok (.aload_n 1, 1) := by decide +kernel
theorem dL_law_258 : decode cL_law 258 = .ok (.aload_n 0, 1) := by decide +kernel
theorem dL_law_259 : decode cL_law 259 = .ok (.iload 4, 2) := by decide +kernel
theorem dL_law_261 : decode cL_law 261 = .ok (.iconst 1, 1) := by decide +kernel
theorem dL_law_262 : decode cL_law 262 = .ok (.iadd, 1) := by decide +kernel
theorem dL_law_263 : decode cL_law 263 = .ok (.iaload, 1) := by decide +kernel
theorem dL_law_264 : decode cL_law 264 = .ok (.invokevirtual 24, 3) := by decide +kernel
theorem dL_law_267 : decode cL_law 267 = .ok (.aload_n 2, 1) := by decide +kernel
theorem dL_law_268 : decode cL_law 268 = .ok (.aload_n 0, 1) := by decide +kernel
theorem dL_law_269 : decode cL_law 269 = .ok (.iload 4, 2) := by decide +kernel
theorem dL_law_271 : decode cL_law 271 = .ok (.iconst 1, 1) := by decide +kernel
theorem dL_law_272 : decode cL_law 272 = .ok (.iadd, 1) := by decide +kernel
theorem dL_law_273 : decode cL_law 273 = .ok (.iaload, 1) := by decide +kernel
theorem dL_law_274 : decode cL_law 274 = .ok (.invokevirtual 28, 3) := by decide +kernel
theorem dL_law_277 : decode cL_law 277 = .ok (.if_icmp .eq 798, 3) := by decide +kernel
theorem dL_law_280 : decode cL_law 280 = .ok (.iconst 0, 1) := by decide +kernel
theorem dL_law_281 : decode cL_law 281 = .ok (.ireturn, 1) := by decide +kernel
theorem dL_law_282 : decode cL_law 282 = .ok (.aload_n 1, 1) := by decide +kernel
theorem dL_law_283 : decode cL_law 283 = .ok (.invokevirtual 29, 3) := by decide +kernel
theorem dL_law_286 : decode cL_law 286 = .ok (.aload_n 2, 1) := by decide +kernel
theorem dL_law_287 : decode cL_law 287 = .ok (.invokevirtual 33, 3) := by decide +kernel
theorem dL_law_290 : decode cL_law 290 = .ok (.if_icmp .eq 785, 3) := by decide +kernel
theorem dL_law_293 : decode cL_law 293 = .ok (.iconst 0, 1) := by decide +kernel
theorem dL_law_294 : decode cL_law 294 = .ok (.ireturn, 1) := by decide +kernel
theorem dL_law_295 : decode cL_law 295 = .ok (.aload_n 1, 1) := by decide +kernel
theorem dL_law_296 : decode cL_law 296 = .ok (.aload_n 0, 1) := by decide +kernel
theorem dL_law_297 : decode cL_law 297 = .ok (.iload 4, 2) := by decide +kernel
theorem dL_law_299 : decode cL_law 299 = .ok (.iconst 1, 1) := by decide +kernel
theorem dL_law_300 : decode cL_law 300 = .ok (.iadd, 1) := by decide +kernel
theorem dL_law_301 : decode cL_law 301 = .ok (.iaload, 1) := by decide +kernel
theorem dL_law_302 : decode cL_law 302 = .ok (.invokevirtual 34, 3) := by decide +kernel
theorem dL_law_305 : decode cL_law 305 = .ok (.aload_n 2, 1) := by decide +kernel
theorem dL_law_306 : decode cL_law 306 = .ok (.aload_n 0, 1) := by decide +kernel
theorem dL_law_307 : decode cL_law 307 = .ok (.iload 4, 2) := by decide +kernel
theorem dL_law_309 : decode cL_law 309 = .ok (.iconst 1, 1) := by decide +kernel
theorem dL_law_310 : decode cL_law 310 = .ok (.iadd, 1) := by decide +kernel
theorem dL_law_311 : decode cL_law 311 = .ok (.iaload, 1) := by decide +kernel
theorem dL_law_312 : decode cL_law 312 = .ok (.invokevirtual 37, 3) := by decide +kernel
theorem dL_law_315 : decode cL_law 315 = .ok (.if_icmp .eq 760, 3) := by decide +kernel
theorem dL_law_318 : decode cL_law 318 = .ok (.iconst 0, 1) := by decide +kernel
theorem dL_law_319 : decode cL_law 319 = .ok (.ireturn, 1) := by decide +kernel
theorem dL_law_320 : decode cL_law 320 = .ok (.aload_n 1, 1) := by decide +kernel
theorem dL_law_321 : decode cL_law 321 = .ok (.aload_n 0, 1) := by decide +kernel
theorem dL_law_322 : decode cL_law 322 = .ok (.iload 4, 2) := by decide +kernel
theorem dL_law_324 : decode cL_law 324 = .ok (.iconst 1, 1) := by decide +kernel
theorem dL_law_325 : decode cL_law 325 = .ok (.iadd, 1) := by decide +kernel
theorem dL_law_326 : decode cL_law 326 = .ok (.iaload, 1) := by decide +kernel
theorem dL_law_327 : decode cL_law 327 = .ok (.invokevirtual 38, 3) := by decide +kernel
theorem dL_law_330 : decode cL_law 330 = .ok (.aload_n 2, 1) := by decide +kernel
theorem dL_law_331 : decode cL_law 331 = .ok (.aload_n 0, 1) := by decide +kernel
theorem dL_law_332 : decode cL_law 332 = .ok (.iload 4, 2) := by decide +kernel
theorem dL_law_334 : decode cL_law 334 = .ok (.iconst 1, 1) := by decide +kernel
theorem dL_law_335 : decode cL_law 335 = .ok (.iadd, 1) := by decide +kernel
theorem dL_law_336 : decode cL_law 336 = .ok (.iaload, 1) := by decide +kernel
theorem dL_law_337 : decode cL_law 337 = .ok (.invokevirtual 41, 3) := by decide +kernel
theorem dL_law_340 : decode cL_law 340 = .ok (.if_icmp .eq 735, 3) := by decide +kernel
theorem dL_law_343 : decode cL_law 343 = .ok (.iconst 0, 1) := by decide +kernel
theorem dL_law_344 : decode cL_law 344 = .ok (.ireturn, 1) := by decide +kernel
theorem dL_law_345 : decode cL_law 345 = .ok (.aload_n 1, 1) := by decide +kernel
theorem dL_law_346 : decode cL_law 346 = .ok (.aload_n 0, 1) := by decide +kernel
theorem dL_law_347 : decode cL_law 347 = .ok (.iload 4, 2) := by decide +kernel
theorem dL_law_349 : decode cL_law 349 = .ok (.iconst 1, 1) := by decide +kernel
theorem dL_law_350 : decode cL_law 350 = .ok (.iadd, 1) := by decide +kernel
theorem dL_law_351 : decode cL_law 351 = .ok (.iaload, 1) := by decide +kernel
theorem dL_law_352 : decode cL_law 352 = .ok (.invokevirtual 42, 3) := by decide +kernel
theorem dL_law_355 : decode cL_law 355 = .ok (.aload_n 2, 1) := by decide +kernel
theorem dL_law_356 : decode cL_law 356 = .ok (.aload_n 0, 1) := by decide +kernel
theorem dL_law_357 : decode cL_law 357 = .ok (.iload 4, 2) := by decide +kernel
theorem dL_law_359 : decode cL_law 359 = .ok (.iconst 1, 1) := by decide +kernel
theorem dL_law_360 : decode cL_law 360 = .ok (.iadd, 1) := by decide +kernel
theorem dL_law_361 : decode cL_law 361 = .ok (.iaload, 1) := by decide +kernel
theorem dL_law_362 : decode cL_law 362 = .ok (.invokevirtual 45, 3) := by decide +kernel
theorem dL_law_365 : decode cL_law 365 = .ok (.if_icmp .eq 710, 3) := by decide +kernel
theorem dL_law_368 : decode cL_law 368 = .ok (.iconst 0, 1) := by decide +kernel
theorem dL_law_369 : decode cL_law 369 = .ok (.ireturn, 1) := by decide +kernel
theorem dL_law_370 : decode cL_law 370 = .ok (.aload_n 1, 1) := by decide +kernel
theorem dL_law_371 : decode cL_law 371 = .ok (.aload_n 0, 1) := by decide +kernel
theorem dL_law_372 : decode cL_law 372 = .ok (.iload 4, 2) := by decide +kernel
theorem dL_law_374 : decode cL_law 374 = .ok (.iconst 1, 1) := by decide +kernel
theorem dL_law_375 : decode cL_law 375 = .ok (.iadd, 1) := by decide +kernel
theorem dL_law_376 : decode cL_law 376 = .ok (.iaload, 1) := by decide +kernel
theorem dL_law_377 : decode cL_law 377 = .ok (.invokevirtual 46, 3) := by decide +kernel
theorem dL_law_380 : decode cL_law 380 = .ok (.aload_n 2, 1) := by decide +kernel
theorem dL_law_381 : decode cL_law 381 = .ok (.aload_n 0, 1) := by decide +kernel
theorem dL_law_382 : decode cL_law 382 = .ok (.iload 4, 2) := by decide +kernel
theorem dL_law_384 : decode cL_law 384 = .ok (.iconst 1, 1) := by decide +kernel
theorem dL_law_385 : decode cL_law 385 = .ok (.iadd, 1) := by decide +kernel
theorem dL_law_386 : decode cL_law 386 = .ok (.iaload, 1) := by decide +kernel
theorem dL_law_387 : decode cL_law 387 = .ok (.invokevirtual 49, 3) := by decide +kernel
theorem dL_law_390 : decode cL_law 390 = .ok (.if_icmp .eq 685, 3) := by decide +kernel
theorem dL_law_393 : decode cL_law 393 = .ok (.iconst 0, 1) := by decide +kernel
theorem dL_law_394 : decode cL_law 394 = .ok (.ireturn, 1) := by decide +kernel
theorem dL_law_395 : decode cL_law 395 = .ok (.aload_n 1, 1) := by decide +kernel
theorem dL_law_396 : decode cL_law 396 = .ok (.aload_n 0, 1) := by decide +kernel
theorem dL_law_397 : decode cL_law 397 = .ok (.iload 4, 2) := by decide +kernel
theorem dL_law_399 : decode cL_law 399 = .ok (.iconst 1, 1) := by decide +kernel
theorem dL_law_400 : decode cL_law 400 = .ok (.iadd, 1) := by decide +kernel
theorem dL_law_401 : decode cL_law 401 = .ok (.iaload, 1) := by decide +kernel
theorem dL_law_402 : decode cL_law 402 = .ok (.aload_n 0, 1) := by decide +kernel
theorem dL_law_403 : decode cL_law 403 = .ok (.iload 4, 2) := by decide +kernel
theorem dL_law_405 : decode cL_law 405 = .ok (.iconst 2, 1) := by decide +kernel
theorem dL_law_406 : decode cL_law 406 = .ok (.iadd, 1) := by decide +kernel
theorem dL_law_407 : decode cL_law 407 = .ok (.iaload, 1) := by decide +kernel
theorem dL_law_408 : decode cL_law 408 = .ok (.invokevirtual 50, 3) := by decide +kernel
theorem dL_law_411 : decode cL_law 411 = .ok (.aload_n 2, 1) := by decide +kernel
theorem dL_law_412 : decode cL_law 412 = .ok (.aload_n 0, 1) := by decide +kernel
theorem dL_law_413 : decode cL_law 413 = .ok (.iload 4, 2) := by decide +kernel
theorem dL_law_415 : decode cL_law 415 = .ok (.iconst 1, 1) := by decide +kernel
theorem dL_law_416 : decode cL_law 416 = .ok (.iadd, 1) := by decide +kernel
theorem dL_law_417 : decode cL_law 417 = .ok (.iaload, 1) := by decide +kernel
theorem dL_law_418 : decode cL_law 418 = .ok (.aload_n 0, 1) := by decide +kernel
theorem dL_law_419 : decode cL_law 419 = .ok (.iload 4, 2) := by decide +kernel
theorem dL_law_421 : decode cL_law 421 = .ok (.iconst 2, 1) := by decide +kernel
theorem dL_law_422 : decode cL_law 422 = .ok (.iadd, 1) := by decide +kernel
theorem dL_law_423 : decode cL_law 423 = .ok (.iaload, 1) := by decide +kernel
theorem dL_law_424 : decode cL_law 424 = .ok (.invokevirtual 54, 3) := by decide +kernel
theorem dL_law_427 : decode cL_law 427 = .ok (.if_icmp .eq 648, 3) := by decide +kernel
theorem dL_law_430 : decode cL_law 430 = .ok (.iconst 0, 1) := by decide +kernel
theorem dL_law_431 : decode cL_law 431 = .ok (.ireturn, 1) := by decide +kernel
theorem dL_law_432 : decode cL_law 432 = .ok (.aload_n 1, 1) := by decide +kernel
theorem dL_law_433 : decode cL_law 433 = .ok (.aload_n 0, 1) := by decide +kernel
theorem dL_law_434 : decode cL_law 434 = .ok (.iload 4, 2) := by decide +kernel
theorem dL_law_436 : decode cL_law 436 = .ok (.iconst 1, 1) := by decide +kernel
theorem dL_law_437 : decode cL_law 437 = .ok (.iadd, 1) := by decide +kernel
theorem dL_law_438 : decode cL_law 438 = .ok (.iaload, 1) := by decide +kernel
theorem dL_law_439 : decode cL_law 439 = .ok (.aload_n 3, 1) := by decide +kernel
theorem dL_law_440 : decode cL_law 440 = .ok (.invokestatic 55, 3) := by decide +kernel
theorem dL_law_443 : decode cL_law 443 = .ok (.istore 5, 2) := by decide +kernel
theorem dL_law_445 : decode cL_law 445 = .ok (.aload_n 2, 1) := by decide +kernel
theorem dL_law_446 : decode cL_law 446 = .ok (.aload_n 0, 1) := by decide +kernel
theorem dL_law_447 : decode cL_law 447 = .ok (.iload 4, 2) := by decide +kernel
theorem dL_law_449 : decode cL_law 449 = .ok (.iconst 1, 1) := by decide +kernel
theorem dL_law_450 : decode cL_law 450 = .ok (.iadd, 1) := by decide +kernel
theorem dL_law_451 : decode cL_law 451 = .ok (.iaload, 1) := by decide +kernel
theorem dL_law_452 : decode cL_law 452 = .ok (.invokevirtual 60, 3) := by decide +kernel
theorem dL_law_455 : decode cL_law 455 = .ok (.istore 6, 2) := by decide +kernel
theorem dL_law_457 : decode cL_law 457 = .ok (.aload_n 2, 1) := by decide +kernel
theorem dL_law_458 : decode cL_law 458 = .ok (.invokevirtual 61, 3) := by decide +kernel
theorem dL_law_461 : decode cL_law 461 = .ok (.iload 5, 2) := by decide +kernel
theorem dL_law_463 : decode cL_law 463 = .ok (.if_icmp .eq 5, 3) := by decide +kernel
theorem dL_law_466 : decode cL_law 466 = .ok (.iconst 0, 1) := by decide +kernel
theorem dL_law_467 : decode cL_law 467 = .ok (.ireturn, 1) := by decide +kernel
theorem dL_law_468 : decode cL_law 468 = .ok (.iload 5, 2) := by decide +kernel
theorem dL_law_470 : decode cL_law 470 = .ok (.ifCond .ne 15, 3) := by decide +kernel
theorem dL_law_473 : decode cL_law 473 = .ok (.aload_n 3, 1) := by decide +kernel
theorem dL_law_474 : decode cL_law 474 = .ok (.iconst 0, 1) := by decide +kernel
theorem dL_law_475 : decode cL_law 475 = .ok (.laload, 1) := by decide +kernel
theorem dL_law_476 : decode cL_law 476 = .ok (.iload 6, 2) := by decide +kernel
theorem dL_law_478 : decode cL_law 478 = .ok (.i2l, 1) := by decide +kernel
theorem dL_law_479 : decode cL_law 479 = .ok (.lcmp, 1) := by decide +kernel
theorem dL_law_480 : decode cL_law 480 = .ok (.ifCond .eq 5, 3) := by decide +kernel
theorem dL_law_483 : decode cL_law 483 = .ok (.iconst 0, 1) := by decide +kernel
theorem dL_law_484 : decode cL_law 484 = .ok (.ireturn, 1) := by decide +kernel
theorem dL_law_485 : decode cL_law 485 = .ok (.goto 590, 3) := by decide +kernel
theorem dL_law_488 : decode cL_law 488 = .ok (.aload_n 1, 1) := by decide +kernel
theorem dL_law_489 : decode cL_law 489 = .ok (.invokevirtual 64, 3) := by decide +kernel
theorem dL_law_492 : decode cL_law 492 = .ok (.aload_n 2, 1) := by decide +kernel
theorem dL_law_493 : decode cL_law 493 = .ok (.invokevirtual 67, 3) := by decide +kernel
theorem dL_law_496 : decode cL_law 496 = .ok (.if_icmp .eq 579, 3) := by decide +kernel
theorem dL_law_499 : decode cL_law 499 = .ok (.iconst 0, 1) := by decide +kernel
theorem dL_law_500 : decode cL_law 500 = .ok (.ireturn, 1) := by decide +kernel
theorem dL_law_501 : decode cL_law 501 = .ok (.aload_n 1, 1) := by decide +kernel
theorem dL_law_502 : decode cL_law 502 = .ok (.aload_n 0, 1) := by decide +kernel
theorem dL_law_503 : decode cL_law 503 = .ok (.iload 4, 2) := by decide +kernel
theorem dL_law_505 : decode cL_law 505 = .ok (.iconst 1, 1) := by decide +kernel
theorem dL_law_506 : decode cL_law 506 = .ok (.iadd, 1) := by decide +kernel
theorem dL_law_507 : decode cL_law 507 = .ok (.iaload, 1) := by decide +kernel
theorem dL_law_508 : decode cL_law 508 = .ok (.aload_n 0, 1) := by decide +kernel
theorem dL_law_509 : decode cL_law 509 = .ok (.iload 4, 2) := by decide +kernel
theorem dL_law_511 : decode cL_law 511 = .ok (.iconst 2, 1) := by decide +kernel
theorem dL_law_512 : decode cL_law 512 = .ok (.iadd, 1) := by decide +kernel
theorem dL_law_513 : decode cL_law 513 = .ok (.iaload, 1) := by decide +kernel
theorem dL_law_514 : decode cL_law 514 = .ok (.invokevirtual 68, 3) := by decide +kernel
theorem dL_law_517 : decode cL_law 517 = .ok (.aload_n 2, 1) := by decide +kernel
theorem dL_law_518 : decode cL_law 518 = .ok (.aload_n 0, 1) := by decide +kernel
theorem dL_law_519 : decode cL_law 519 = .ok (.iload 4, 2) := by decide +kernel
theorem dL_law_521 : decode cL_law 521 = .ok (.iconst 1, 1) := by decide +kernel
theorem dL_law_522 : decode cL_law 522 = .ok (.iadd, 1) := by decide +kernel
theorem dL_law_523 : decode cL_law 523 = .ok (.iaload, 1) := by decide +kernel
theorem dL_law_524 : decode cL_law 524 = .ok (.aload_n 0, 1) := by decide +kernel
theorem dL_law_525 : decode cL_law 525 = .ok (.iload 4, 2) := by decide +kernel
theorem dL_law_527 : decode cL_law 527 = .ok (.iconst 2, 1) := by decide +kernel
theorem dL_law_528 : decode cL_law 528 = .ok (.iadd, 1) := by decide +kernel
theorem dL_law_529 : decode cL_law 529 = .ok (.iaload, 1) := by decide +kernel
theorem dL_law_530 : decode cL_law 530 = .ok (.invokevirtual 71, 3) := by decide +kernel
theorem dL_law_533 : decode cL_law 533 = .ok (.if_icmp .eq 542, 3) := by decide +kernel
theorem dL_law_536 : decode cL_law 536 = .ok (.iconst 0, 1) := by decide +kernel
theorem dL_law_537 : decode cL_law 537 = .ok (.ireturn, 1) := by decide +kernel
theorem dL_law_538 : decode cL_law 538 = .ok (.aload_n 1, 1) := by decide +kernel
theorem dL_law_539 : decode cL_law 539 = .ok (.aload_n 0, 1) := by decide +kernel
theorem dL_law_540 : decode cL_law 540 = .ok (.iload 4, 2) := by decide +kernel
theorem dL_law_542 : decode cL_law 542 = .ok (.iconst 1, 1) := by decide +kernel
theorem dL_law_543 : decode cL_law 543 = .ok (.iadd, 1) := by decide +kernel
theorem dL_law_544 : decode cL_law 544 = .ok (.iaload, 1) := by decide +kernel
theorem dL_law_545 : decode cL_law 545 = .ok (.aload_n 0, 1) := by decide +kernel
theorem dL_law_546 : decode cL_law 546 = .ok (.iload 4, 2) := by decide +kernel
theorem dL_law_548 : decode cL_law 548 = .ok (.iconst 2, 1) := by decide +kernel
theorem dL_law_549 : decode cL_law 549 = .ok (.iadd, 1) := by decide +kernel
theorem dL_law_550 : decode cL_law 550 = .ok (.iaload, 1) := by decide +kernel
theorem dL_law_551 : decode cL_law 551 = .ok (.invokevirtual 72, 3) := by decide +kernel
theorem dL_law_554 : decode cL_law 554 = .ok (.aload_n 2, 1) := by decide +kernel
theorem dL_law_555 : decode cL_law 555 = .ok (.aload_n 0, 1) := by decide +kernel
theorem dL_law_556 : decode cL_law 556 = .ok (.iload 4, 2) := by decide +kernel
theorem dL_law_558 : decode cL_law 558 = .ok (.iconst 1, 1) := by decide +kernel
theorem dL_law_559 : decode cL_law 559 = .ok (.iadd, 1) := by decide +kernel
theorem dL_law_560 : decode cL_law 560 = .ok (.iaload, 1) := by decide +kernel
theorem dL_law_561 : decode cL_law 561 = .ok (.aload_n 0, 1) := by decide +kernel
theorem dL_law_562 : decode cL_law 562 = .ok (.iload 4, 2) := by decide +kernel
theorem dL_law_564 : decode cL_law 564 = .ok (.iconst 2, 1) := by decide +kernel
theorem dL_law_565 : decode cL_law 565 = .ok (.iadd, 1) := by decide +kernel
theorem dL_law_566 : decode cL_law 566 = .ok (.iaload, 1) := by decide +kernel
theorem dL_law_567 : decode cL_law 567 = .ok (.invokevirtual 75, 3) := by decide +kernel
theorem dL_law_570 : decode cL_law 570 = .ok (.if_icmp .eq 505, 3) := by decide +kernel
theorem dL_law_573 : decode cL_law 573 = .ok (.iconst 0, 1) := by decide +kernel
theorem dL_law_574 : decode cL_law 574 = .ok (.ireturn, 1) := by decide +kernel
theorem dL_law_575 : decode cL_law 575 = .ok (.aload_n 1, 1) := by decide +kernel
theorem dL_law_576 : decode cL_law 576 = .ok (.aload_n 0, 1) := by decide +kernel
theorem dL_law_577 : decode cL_law 577 = .ok (.iload 4, 2) := by decide +kernel
theorem dL_law_579 : decode cL_law 579 = .ok (.iconst 1, 1) := by decide +kernel
theorem dL_law_580 : decode cL_law 580 = .ok (.iadd, 1) := by decide +kernel
theorem dL_law_581 : decode cL_law 581 = .ok (.iaload, 1) := by decide +kernel
theorem dL_law_582 : decode cL_law 582 = .ok (.aload_n 0, 1) := by decide +kernel
theorem dL_law_583 : decode cL_law 583 = .ok (.iload 4, 2) := by decide +kernel
theorem dL_law_585 : decode cL_law 585 = .ok (.iconst 2, 1) := by decide +kernel
theorem dL_law_586 : decode cL_law 586 = .ok (.iadd, 1) := by decide +kernel
theorem dL_law_587 : decode cL_law 587 = .ok (.iaload, 1) := by decide +kernel
theorem dL_law_588 : decode cL_law 588 = .ok (.invokevirtual 76, 3) := by decide +kernel
theorem dL_law_591 : decode cL_law 591 = .ok (.aload_n 2, 1) := by decide +kernel
theorem dL_law_592 : decode cL_law 592 = .ok (.aload_n 0, 1) := by decide +kernel
theorem dL_law_593 : decode cL_law 593 = .ok (.iload 4, 2) := by decide +kernel
theorem dL_law_595 : decode cL_law 595 = .ok (.iconst 1, 1) := by decide +kernel
theorem dL_law_596 : decode cL_law 596 = .ok (.iadd, 1) := by decide +kernel
theorem dL_law_597 : decode cL_law 597 = .ok (.iaload, 1) := by decide +kernel
theorem dL_law_598 : decode cL_law 598 = .ok (.aload_n 0, 1) := by decide +kernel
theorem dL_law_599 : decode cL_law 599 = .ok (.iload 4, 2) := by decide +kernel
theorem dL_law_601 : decode cL_law 601 = .ok (.iconst 2, 1) := by decide +kernel
theorem dL_law_602 : decode cL_law 602 = .ok (.iadd, 1) := by decide +kernel
theorem dL_law_603 : decode cL_law 603 = .ok (.iaload, 1) := by decide +kernel
theorem dL_law_604 : decode cL_law 604 = .ok (.invokevirtual 79, 3) := by decide +kernel
theorem dL_law_607 : decode cL_law 607 = .ok (.if_icmp .eq 468, 3) := by decide +kernel
theorem dL_law_610 : decode cL_law 610 = .ok (.iconst 0, 1) := by decide +kernel
theorem dL_law_611 : decode cL_law 611 = .ok (.ireturn, 1) := by decide +kernel
theorem dL_law_612 : decode cL_law 612 = .ok (.aload_n 1, 1) := by decide +kernel
theorem dL_law_613 : decode cL_law 613 = .ok (.aload_n 0, 1) := by decide +kernel
theorem dL_law_614 : decode cL_law 614 = .ok (.iload 4, 2) := by decide +kernel
theorem dL_law_616 : decode cL_law 616 = .ok (.iconst 1, 1) := by decide +kernel
theorem dL_law_617 : decode cL_law 617 = .ok (.iadd, 1) := by decide +kernel
theorem dL_law_618 : decode cL_law 618 = .ok (.iaload, 1) := by decide +kernel
theorem dL_law_619 : decode cL_law 619 = .ok (.aload_n 0, 1) := by decide +kernel
theorem dL_law_620 : decode cL_law 620 = .ok (.iload 4, 2) := by decide +kernel
theorem dL_law_622 : decode cL_law 622 = .ok (.iconst 2, 1) := by decide +kernel
theorem dL_law_623 : decode cL_law 623 = .ok (.iadd, 1) := by decide +kernel
theorem dL_law_624 : decode cL_law 624 = .ok (.iaload, 1) := by decide +kernel
theorem dL_law_625 : decode cL_law 625 = .ok (.invokevirtual 80, 3) := by decide +kernel
theorem dL_law_628 : decode cL_law 628 = .ok (.aload_n 2, 1) := by decide +kernel
theorem dL_law_629 : decode cL_law 629 = .ok (.aload_n 0, 1) := by decide +kernel
theorem dL_law_630 : decode cL_law 630 = .ok (.iload 4, 2) := by decide +kernel
theorem dL_law_632 : decode cL_law 632 = .ok (.iconst 1, 1) := by decide +kernel
theorem dL_law_633 : decode cL_law 633 = .ok (.iadd, 1) := by decide +kernel
theorem dL_law_634 : decode cL_law 634 = .ok (.iaload, 1) := by decide +kernel
theorem dL_law_635 : decode cL_law 635 = .ok (.aload_n 0, 1) := by decide +kernel
theorem dL_law_636 : decode cL_law 636 = .ok (.iload 4, 2) := by decide +kernel
theorem dL_law_638 : decode cL_law 638 = .ok (.iconst 2, 1) := by decide +kernel
theorem dL_law_639 : decode cL_law 639 = .ok (.iadd, 1) := by decide +kernel
theorem dL_law_640 : decode cL_law 640 = .ok (.iaload, 1) := by decide +kernel
theorem dL_law_641 : decode cL_law 641 = .ok (.invokevirtual 83, 3) := by decide +kernel
theorem dL_law_644 : decode cL_law 644 = .ok (.if_icmp .eq 431, 3) := by decide +kernel
theorem dL_law_647 : decode cL_law 647 = .ok (.iconst 0, 1) := by decide +kernel
theorem dL_law_648 : decode cL_law 648 = .ok (.ireturn, 1) := by decide +kernel
theorem dL_law_649 : decode cL_law 649 = .ok (.aload_n 1, 1) := by decide +kernel
theorem dL_law_650 : decode cL_law 650 = .ok (.aload_n 0, 1) := by decide +kernel
theorem dL_law_651 : decode cL_law 651 = .ok (.iload 4, 2) := by decide +kernel
theorem dL_law_653 : decode cL_law 653 = .ok (.iconst 1, 1) := by decide +kernel
theorem dL_law_654 : decode cL_law 654 = .ok (.iadd, 1) := by decide +kernel
theorem dL_law_655 : decode cL_law 655 = .ok (.iaload, 1) := by decide +kernel
theorem dL_law_656 : decode cL_law 656 = .ok (.invokevirtual 84, 3) := by decide +kernel
theorem dL_law_659 : decode cL_law 659 = .ok (.aload_n 2, 1) := by decide +kernel
theorem dL_law_660 : decode cL_law 660 = .ok (.aload_n 0, 1) := by decide +kernel
theorem dL_law_661 : decode cL_law 661 = .ok (.iload 4, 2) := by decide +kernel
theorem dL_law_663 : decode cL_law 663 = .ok (.iconst 1, 1) := by decide +kernel
theorem dL_law_664 : decode cL_law 664 = .ok (.iadd, 1) := by decide +kernel
theorem dL_law_665 : decode cL_law 665 = .ok (.iaload, 1) := by decide +kernel
theorem dL_law_666 : decode cL_law 666 = .ok (.invokevirtual 87, 3) := by decide +kernel
theorem dL_law_669 : decode cL_law 669 = .ok (.if_icmp .eq 406, 3) := by decide +kernel
theorem dL_law_672 : decode cL_law 672 = .ok (.iconst 0, 1) := by decide +kernel
theorem dL_law_673 : decode cL_law 673 = .ok (.ireturn, 1) := by decide +kernel
theorem dL_law_674 : decode cL_law 674 = .ok (.aload_n 1, 1) := by decide +kernel
theorem dL_law_675 : decode cL_law 675 = .ok (.aload_n 0, 1) := by decide +kernel
theorem dL_law_676 : decode cL_law 676 = .ok (.iload 4, 2) := by decide +kernel
theorem dL_law_678 : decode cL_law 678 = .ok (.iconst 1, 1) := by decide +kernel
theorem dL_law_679 : decode cL_law 679 = .ok (.iadd, 1) := by decide +kernel
theorem dL_law_680 : decode cL_law 680 = .ok (.iaload, 1) := by decide +kernel
theorem dL_law_681 : decode cL_law 681 = .ok (.invokevirtual 88, 3) := by decide +kernel
theorem dL_law_684 : decode cL_law 684 = .ok (.aload_n 2, 1) := by decide +kernel
theorem dL_law_685 : decode cL_law 685 = .ok (.aload_n 0, 1) := by decide +kernel
theorem dL_law_686 : decode cL_law 686 = .ok (.iload 4, 2) := by decide +kernel
theorem dL_law_688 : decode cL_law 688 = .ok (.iconst 1, 1) := by decide +kernel
theorem dL_law_689 : decode cL_law 689 = .ok (.iadd, 1) := by decide +kernel
theorem dL_law_690 : decode cL_law 690 = .ok (.iaload, 1) := by decide +kernel
theorem dL_law_691 : decode cL_law 691 = .ok (.invokevirtual 91, 3) := by decide +kernel
theorem dL_law_694 : decode cL_law 694 = .ok (.if_icmp .eq 381, 3) := by decide +kernel
theorem dL_law_697 : decode cL_law 697 = .ok (.iconst 0, 1) := by decide +kernel
theorem dL_law_698 : decode cL_law 698 = .ok (.ireturn, 1) := by decide +kernel
theorem dL_law_699 : decode cL_law 699 = .ok (.aload_n 1, 1) := by decide +kernel
theorem dL_law_700 : decode cL_law 700 = .ok (.aload_n 0, 1) := by decide +kernel
theorem dL_law_701 : decode cL_law 701 = .ok (.iload 4, 2) := by decide +kernel
theorem dL_law_703 : decode cL_law 703 = .ok (.iconst 1, 1) := by decide +kernel
theorem dL_law_704 : decode cL_law 704 = .ok (.iadd, 1) := by decide +kernel
theorem dL_law_705 : decode cL_law 705 = .ok (.iaload, 1) := by decide +kernel
theorem dL_law_706 : decode cL_law 706 = .ok (.invokevirtual 92, 3) := by decide +kernel
theorem dL_law_709 : decode cL_law 709 = .ok (.aload_n 2, 1) := by decide +kernel
theorem dL_law_710 : decode cL_law 710 = .ok (.aload_n 0, 1) := by decide +kernel
theorem dL_law_711 : decode cL_law 711 = .ok (.iload 4, 2) := by decide +kernel
theorem dL_law_713 : decode cL_law 713 = .ok (.iconst 1, 1) := by decide +kernel
theorem dL_law_714 : decode cL_law 714 = .ok (.iadd, 1) := by decide +kernel
theorem dL_law_715 : decode cL_law 715 = .ok (.iaload, 1) := by decide +kernel
theorem dL_law_716 : decode cL_law 716 = .ok (.invokevirtual 95, 3) := by decide +kernel
theorem dL_law_719 : decode cL_law 719 = .ok (.if_icmp .eq 356, 3) := by decide +kernel
theorem dL_law_722 : decode cL_law 722 = .ok (.iconst 0, 1) := by decide +kernel
theorem dL_law_723 : decode cL_law 723 = .ok (.ireturn, 1) := by decide +kernel
theorem dL_law_724 : decode cL_law 724 = .ok (.aload_n 1, 1) := by decide +kernel
theorem dL_law_725 : decode cL_law 725 = .ok (.aload_n 0, 1) := by decide +kernel
theorem dL_law_726 : decode cL_law 726 = .ok (.iload 4, 2) := by decide +kernel
theorem dL_law_728 : decode cL_law 728 = .ok (.iconst 1, 1) := by decide +kernel
theorem dL_law_729 : decode cL_law 729 = .ok (.iadd, 1) := by decide +kernel
theorem dL_law_730 : decode cL_law 730 = .ok (.iaload, 1) := by decide +kernel
theorem dL_law_731 : decode cL_law 731 = .ok (.invokevirtual 96, 3) := by decide +kernel
theorem dL_law_734 : decode cL_law 734 = .ok (.aload_n 2, 1) := by decide +kernel
theorem dL_law_735 : decode cL_law 735 = .ok (.aload_n 0, 1) := by decide +kernel
theorem dL_law_736 : decode cL_law 736 = .ok (.iload 4, 2) := by decide +kernel
theorem dL_law_738 : decode cL_law 738 = .ok (.iconst 1, 1) := by decide +kernel
theorem dL_law_739 : decode cL_law 739 = .ok (.iadd, 1) := by decide +kernel
theorem dL_law_740 : decode cL_law 740 = .ok (.iaload, 1) := by decide +kernel
theorem dL_law_741 : decode cL_law 741 = .ok (.invokevirtual 99, 3) := by decide +kernel
theorem dL_law_744 : decode cL_law 744 = .ok (.if_icmp .eq 331, 3) := by decide +kernel
theorem dL_law_747 : decode cL_law 747 = .ok (.iconst 0, 1) := by decide +kernel
theorem dL_law_748 : decode cL_law 748 = .ok (.ireturn, 1) := by decide +kernel
theorem dL_law_749 : decode cL_law 749 = .ok (.aload_n 1, 1) := by decide +kernel
theorem dL_law_750 : decode cL_law 750 = .ok (.aload_n 0, 1) := by decide +kernel
theorem dL_law_751 : decode cL_law 751 = .ok (.iload 4, 2) := by decide +kernel
theorem dL_law_753 : decode cL_law 753 = .ok (.iconst 1, 1) := by decide +kernel
theorem dL_law_754 : decode cL_law 754 = .ok (.iadd, 1) := by decide +kernel
theorem dL_law_755 : decode cL_law 755 = .ok (.iaload, 1) := by decide +kernel
theorem dL_law_756 : decode cL_law 756 = .ok (.aload_n 0, 1) := by decide +kernel
theorem dL_law_757 : decode cL_law 757 = .ok (.iload 4, 2) := by decide +kernel
theorem dL_law_759 : decode cL_law 759 = .ok (.iconst 2, 1) := by decide +kernel
theorem dL_law_760 : decode cL_law 760 = .ok (.iadd, 1) := by decide +kernel
theorem dL_law_761 : decode cL_law 761 = .ok (.iaload, 1) := by decide +kernel
theorem dL_law_762 : decode cL_law 762 = .ok (.invokevirtual 100, 3) := by decide +kernel
theorem dL_law_765 : decode cL_law 765 = .ok (.aload_n 2, 1) := by decide +kernel
theorem dL_law_766 : decode cL_law 766 = .ok (.aload_n 0, 1) := by decide +kernel
theorem dL_law_767 : decode cL_law 767 = .ok (.iload 4, 2) := by decide +kernel
theorem dL_law_769 : decode cL_law 769 = .ok (.iconst 1, 1) := by decide +kernel
theorem dL_law_770 : decode cL_law 770 = .ok (.iadd, 1) := by decide +kernel
theorem dL_law_771 : decode cL_law 771 = .ok (.iaload, 1) := by decide +kernel
theorem dL_law_772 : decode cL_law 772 = .ok (.aload_n 0, 1) := by decide +kernel
theorem dL_law_773 : decode cL_law 773 = .ok (.iload 4, 2) := by decide +kernel
theorem dL_law_775 : decode cL_law 775 = .ok (.iconst 2, 1) := by decide +kernel
theorem dL_law_776 : decode cL_law 776 = .ok (.iadd, 1) := by decide +kernel
theorem dL_law_777 : decode cL_law 777 = .ok (.iaload, 1) := by decide +kernel
theorem dL_law_778 : decode cL_law 778 = .ok (.invokevirtual 103, 3) := by decide +kernel
theorem dL_law_781 : decode cL_law 781 = .ok (.if_icmp .eq 294, 3) := by decide +kernel
theorem dL_law_784 : decode cL_law 784 = .ok (.iconst 0, 1) := by decide +kernel
theorem dL_law_785 : decode cL_law 785 = .ok (.ireturn, 1) := by decide +kernel
theorem dL_law_786 : decode cL_law 786 = .ok (.aload_n 1, 1) := by decide +kernel
theorem dL_law_787 : decode cL_law 787 = .ok (.aload_n 0, 1) := by decide +kernel
theorem dL_law_788 : decode cL_law 788 = .ok (.iload 4, 2) := by decide +kernel
theorem dL_law_790 : decode cL_law 790 = .ok (.iconst 1, 1) := by decide +kernel
theorem dL_law_791 : decode cL_law 791 = .ok (.iadd, 1) := by decide +kernel
theorem dL_law_792 : decode cL_law 792 = .ok (.iaload, 1) := by decide +kernel
theorem dL_law_793 : decode cL_law 793 = .ok (.invokevirtual 104, 3) := by decide +kernel
theorem dL_law_796 : decode cL_law 796 = .ok (.aload_n 2, 1) := by decide +kernel
theorem dL_law_797 : decode cL_law 797 = .ok (.aload_n 0, 1) := by decide +kernel
theorem dL_law_798 : decode cL_law 798 = .ok (.iload 4, 2) := by decide +kernel
theorem dL_law_800 : decode cL_law 800 = .ok (.iconst 1, 1) := by decide +kernel
theorem dL_law_801 : decode cL_law 801 = .ok (.iadd, 1) := by decide +kernel
theorem dL_law_802 : decode cL_law 802 = .ok (.iaload, 1) := by decide +kernel
theorem dL_law_803 : decode cL_law 803 = .ok (.invokevirtual 107, 3) := by decide +kernel
theorem dL_law_806 : decode cL_law 806 = .ok (.if_icmp .eq 269, 3) := by decide +kernel
theorem dL_law_809 : decode cL_law 809 = .ok (.iconst 0, 1) := by decide +kernel
theorem dL_law_810 : decode cL_law 810 = .ok (.ireturn, 1) := by decide +kernel
theorem dL_law_811 : decode cL_law 811 = .ok (.aload_n 1, 1) := by decide +kernel
theorem dL_law_812 : decode cL_law 812 = .ok (.aload_n 0, 1) := by decide +kernel
theorem dL_law_813 : decode cL_law 813 = .ok (.iload 4, 2) := by decide +kernel
theorem dL_law_815 : decode cL_law 815 = .ok (.iconst 1, 1) := by decide +kernel
theorem dL_law_816 : decode cL_law 816 = .ok (.iadd, 1) := by decide +kernel
theorem dL_law_817 : decode cL_law 817 = .ok (.iaload, 1) := by decide +kernel
theorem dL_law_818 : decode cL_law 818 = .ok (.invokevirtual 108, 3) := by decide +kernel
theorem dL_law_821 : decode cL_law 821 = .ok (.aload_n 2, 1) := by decide +kernel
theorem dL_law_822 : decode cL_law 822 = .ok (.aload_n 0, 1) := by decide +kernel
theorem dL_law_823 : decode cL_law 823 = .ok (.iload 4, 2) := by decide +kernel
theorem dL_law_825 : decode cL_law 825 = .ok (.iconst 1, 1) := by decide +kernel
theorem dL_law_826 : decode cL_law 826 = .ok (.iadd, 1) := by decide +kernel
theorem dL_law_827 : decode cL_law 827 = .ok (.iaload, 1) := by decide +kernel
theorem dL_law_828 : decode cL_law 828 = .ok (.invokevirtual 111, 3) := by decide +kernel
theorem dL_law_831 : decode cL_law 831 = .ok (.if_icmp .eq 244, 3) := by decide +kernel
theorem dL_law_834 : decode cL_law 834 = .ok (.iconst 0, 1) := by decide +kernel
theorem dL_law_835 : decode cL_law 835 = .ok (.ireturn, 1) := by decide +kernel
theorem dL_law_836 : decode cL_law 836 = .ok (.aload_n 1, 1) := by decide +kernel
theorem dL_law_837 : decode cL_law 837 = .ok (.invokevirtual 112, 3) := by decide +kernel
theorem dL_law_840 : decode cL_law 840 = .ok (.aload_n 2, 1) := by decide +kernel
theorem dL_law_841 : decode cL_law 841 = .ok (.invokevirtual 115, 3) := by decide +kernel
theorem dL_law_844 : decode cL_law 844 = .ok (.if_icmp .eq 231, 3) := by decide +kernel
theorem dL_law_847 : decode cL_law 847 = .ok (.iconst 0, 1) := by decide +kernel
theorem dL_law_848 : decode cL_law 848 = .ok (.ireturn, 1) := by decide +kernel
theorem dL_law_849 : decode cL_law 849 = .ok (.aload_n 1, 1) := by decide +kernel
theorem dL_law_850 : decode cL_law 850 = .ok (.aload_n 0, 1) := by decide +kernel
theorem dL_law_851 : decode cL_law 851 = .ok (.iload 4, 2) := by decide +kernel
theorem dL_law_853 : decode cL_law 853 = .ok (.iconst 1, 1) := by decide +kernel
theorem dL_law_854 : decode cL_law 854 = .ok (.iadd, 1) := by decide +kernel
theorem dL_law_855 : decode cL_law 855 = .ok (.iaload, 1) := by decide +kernel
theorem dL_law_856 : decode cL_law 856 = .ok (.invokevirtual 116, 3) := by decide +kernel
theorem dL_law_859 : decode cL_law 859 = .ok (.aload_n 2, 1) := by decide +kernel
theorem dL_law_860 : decode cL_law 860 = .ok (.aload_n 0, 1) := by decide +kernel
theorem dL_law_861 : decode cL_law 861 = .ok (.iload 4, 2) := by decide +kernel
theorem dL_law_863 : decode cL_law 863 = .ok (.iconst 1, 1) := by decide +kernel
theorem dL_law_864 : decode cL_law 864 = .ok (.iadd, 1) := by decide +kernel
theorem dL_law_865 : decode cL_law 865 = .ok (.iaload, 1) := by decide +kernel
theorem dL_law_866 : decode cL_law 866 = .ok (.invokevirtual 119, 3) := by decide +kernel
theorem dL_law_869 : decode cL_law 869 = .ok (.if_icmp .eq 206, 3) := by decide +kernel
theorem dL_law_872 : decode cL_law 872 = .ok (.iconst 0, 1) := by decide +kernel
theorem dL_law_873 : decode cL_law 873 = .ok (.ireturn, 1) := by decide +kernel
theorem dL_law_874 : decode cL_law 874 = .ok (.aload_n 1, 1) := by decide +kernel
theorem dL_law_875 : decode cL_law 875 = .ok (.invokevirtual 120, 3) := by decide +kernel
theorem dL_law_878 : decode cL_law 878 = .ok (.aload_n 2, 1) := by decide +kernel
theorem dL_law_879 : decode cL_law 879 = .ok (.invokevirtual 123, 3) := by decide +kernel
theorem dL_law_882 : decode cL_law 882 = .ok (.if_icmp .eq 193, 3) := by decide +kernel
theorem dL_law_885 : decode cL_law 885 = .ok (.iconst 0, 1) := by decide +kernel
theorem dL_law_886 : decode cL_law 886 = .ok (.ireturn, 1) := by decide +kernel
theorem dL_law_887 : decode cL_law 887 = .ok (.aload_n 1, 1) := by decide +kernel
theorem dL_law_888 : decode cL_law 888 = .ok (.aload_n 0, 1) := by decide +kernel
theorem dL_law_889 : decode cL_law 889 = .ok (.iload 4, 2) := by decide +kernel
theorem dL_law_891 : decode cL_law 891 = .ok (.iconst 1, 1) := by decide +kernel
theorem dL_law_892 : decode cL_law 892 = .ok (.iadd, 1) := by decide +kernel
theorem dL_law_893 : decode cL_law 893 = .ok (.iaload, 1) := by decide +kernel
theorem dL_law_894 : decode cL_law 894 = .ok (.invokevirtual 124, 3) := by decide +kernel
theorem dL_law_897 : decode cL_law 897 = .ok (.aload_n 2, 1) := by decide +kernel
theorem dL_law_898 : decode cL_law 898 = .ok (.aload_n 0, 1) := by decide +kernel
theorem dL_law_899 : decode cL_law 899 = .ok (.iload 4, 2) := by decide +kernel
theorem dL_law_901 : decode cL_law 901 = .ok (.iconst 1, 1) := by decide +kernel
theorem dL_law_902 : decode cL_law 902 = .ok (.iadd, 1) := by decide +kernel
theorem dL_law_903 : decode cL_law 903 = .ok (.iaload, 1) := by decide +kernel
theorem dL_law_904 : decode cL_law 904 = .ok (.invokevirtual 127, 3) := by decide +kernel
theorem dL_law_907 : decode cL_law 907 = .ok (.if_icmp .eq 168, 3) := by decide +kernel
theorem dL_law_910 : decode cL_law 910 = .ok (.iconst 0, 1) := by decide +kernel
theorem dL_law_911 : decode cL_law 911 = .ok (.ireturn, 1) := by decide +kernel
theorem dL_law_912 : decode cL_law 912 = .ok (.aload_n 1, 1) := by decide +kernel
theorem dL_law_913 : decode cL_law 913 = .ok (.aload_n 0, 1) := by decide +kernel
theorem dL_law_914 : decode cL_law 914 = .ok (.iload 4, 2) := by decide +kernel
theorem dL_law_916 : decode cL_law 916 = .ok (.iconst 1, 1) := by decide +kernel
theorem dL_law_917 : decode cL_law 917 = .ok (.iadd, 1) := by decide +kernel
theorem dL_law_918 : decode cL_law 918 = .ok (.iaload, 1) := by decide +kernel
theorem dL_law_919 : decode cL_law 919 = .ok (.invokevirtual 128, 3) := by decide +kernel
theorem dL_law_922 : decode cL_law 922 = .ok (.aload_n 2, 1) := by decide +kernel
theorem dL_law_923 : decode cL_law 923 = .ok (.aload_n 0, 1) := by decide +kernel
theorem dL_law_924 : decode cL_law 924 = .ok (.iload 4, 2) := by decide +kernel
theorem dL_law_926 : decode cL_law 926 = .ok (.iconst 1, 1) := by decide +kernel
theorem dL_law_927 : decode cL_law 927 = .ok (.iadd, 1) := by decide +kernel
theorem dL_law_928 : decode cL_law 928 = .ok (.iaload, 1) := by decide +kernel
theorem dL_law_929 : decode cL_law 929 = .ok (.invokevirtual 131, 3) := by decide +kernel
theorem dL_law_932 : decode cL_law 932 = .ok (.if_icmp .eq 143, 3) := by decide +kernel
theorem dL_law_935 : decode cL_law 935 = .ok (.iconst 0, 1) := by decide +kernel
theorem dL_law_936 : decode cL_law 936 = .ok (.ireturn, 1) := by decide +kernel
theorem dL_law_937 : decode cL_law 937 = .ok (.aload_n 1, 1) := by decide +kernel
theorem dL_law_938 : decode cL_law 938 = .ok (.aload_n 0, 1) := by decide +kernel
theorem dL_law_939 : decode cL_law 939 = .ok (.iload 4, 2) := by decide +kernel
theorem dL_law_941 : decode cL_law 941 = .ok (.iconst 1, 1) := by decide +kernel
theorem dL_law_942 : decode cL_law 942 = .ok (.iadd, 1) := by decide +kernel
theorem dL_law_943 : decode cL_law 943 = .ok (.iaload, 1) := by decide +kernel
theorem dL_law_944 : decode cL_law 944 = .ok (.invokevirtual 132, 3) := by decide +kernel
theorem dL_law_947 : decode cL_law 947 = .ok (.aload_n 2, 1) := by decide +kernel
theorem dL_law_948 : decode cL_law 948 = .ok (.aload_n 0, 1) := by decide +kernel
theorem dL_law_949 : decode cL_law 949 = .ok (.iload 4, 2) := by decide +kernel
theorem dL_law_951 : decode cL_law 951 = .ok (.iconst 1, 1) := by decide +kernel
theorem dL_law_952 : decode cL_law 952 = .ok (.iadd, 1) := by decide +kernel
theorem dL_law_953 : decode cL_law 953 = .ok (.iaload, 1) := by decide +kernel
theorem dL_law_954 : decode cL_law 954 = .ok (.invokevirtual 135, 3) := by decide +kernel
theorem dL_law_957 : decode cL_law 957 = .ok (.if_icmp .eq 118, 3) := by decide +kernel
theorem dL_law_960 : decode cL_law 960 = .ok (.iconst 0, 1) := by decide +kernel
theorem dL_law_961 : decode cL_law 961 = .ok (.ireturn, 1) := by decide +kernel
theorem dL_law_962 : decode cL_law 962 = .ok (.aload_n 1, 1) := by decide +kernel
theorem dL_law_963 : decode cL_law 963 = .ok (.invokevirtual 136, 3) := by decide +kernel
theorem dL_law_966 : decode cL_law 966 = .ok (.aload_n 2, 1) := by decide +kernel
theorem dL_law_967 : decode cL_law 967 = .ok (.invokevirtual 139, 3) := by decide +kernel
theorem dL_law_970 : decode cL_law 970 = .ok (.if_icmp .eq 105, 3) := by decide +kernel
theorem dL_law_973 : decode cL_law 973 = .ok (.iconst 0, 1) := by decide +kernel
theorem dL_law_974 : decode cL_law 974 = .ok (.ireturn, 1) := by decide +kernel
theorem dL_law_975 : decode cL_law 975 = .ok (.aload_n 1, 1) := by decide +kernel
theorem dL_law_976 : decode cL_law 976 = .ok (.aload_n 0, 1) := by decide +kernel
theorem dL_law_977 : decode cL_law 977 = .ok (.iload 4, 2) := by decide +kernel
theorem dL_law_979 : decode cL_law 979 = .ok (.iconst 1, 1) := by decide +kernel
theorem dL_law_980 : decode cL_law 980 = .ok (.iadd, 1) := by decide +kernel
theorem dL_law_981 : decode cL_law 981 = .ok (.iaload, 1) := by decide +kernel
theorem dL_law_982 : decode cL_law 982 = .ok (.aload_n 0, 1) := by decide +kernel
theorem dL_law_983 : decode cL_law 983 = .ok (.iload 4, 2) := by decide +kernel
theorem dL_law_985 : decode cL_law 985 = .ok (.iconst 2, 1) := by decide +kernel
theorem dL_law_986 : decode cL_law 986 = .ok (.iadd, 1) := by decide +kernel
theorem dL_law_987 : decode cL_law 987 = .ok (.iaload, 1) := by decide +kernel
theorem dL_law_988 : decode cL_law 988 = .ok (.invokevirtual 140, 3) := by decide +kernel
theorem dL_law_991 : decode cL_law 991 = .ok (.aload_n 2, 1) := by decide +kernel
theorem dL_law_992 : decode cL_law 992 = .ok (.aload_n 0, 1) := by decide +kernel
theorem dL_law_993 : decode cL_law 993 = .ok (.iload 4, 2) := by decide +kernel
theorem dL_law_995 : decode cL_law 995 = .ok (.iconst 1, 1) := by decide +kernel
theorem dL_law_996 : decode cL_law 996 = .ok (.iadd, 1) := by decide +kernel
theorem dL_law_997 : decode cL_law 997 = .ok (.iaload, 1) := by decide +kernel
theorem dL_law_998 : decode cL_law 998 = .ok (.aload_n 0, 1) := by decide +kernel
theorem dL_law_999 : decode cL_law 999 = .ok (.iload 4, 2) := by decide +kernel
theorem dL_law_1001 : decode cL_law 1001 = .ok (.iconst 2, 1) := by decide +kernel
theorem dL_law_1002 : decode cL_law 1002 = .ok (.iadd, 1) := by decide +kernel
theorem dL_law_1003 : decode cL_law 1003 = .ok (.iaload, 1) := by decide +kernel
theorem dL_law_1004 : decode cL_law 1004 = .ok (.invokevirtual 143, 3) := by decide +kernel
theorem dL_law_1007 : decode cL_law 1007 = .ok (.if_icmp .eq 68, 3) := by decide +kernel
theorem dL_law_1010 : decode cL_law 1010 = .ok (.iconst 0, 1) := by decide +kernel
theorem dL_law_1011 : decode cL_law 1011 = .ok (.ireturn, 1) := by decide +kernel
theorem dL_law_1012 : decode cL_law 1012 = .ok (.aload_n 1, 1) := by decide +kernel
theorem dL_law_1013 : decode cL_law 1013 = .ok (.invokevirtual 144, 3) := by decide +kernel
theorem dL_law_1016 : decode cL_law 1016 = .ok (.aload_n 2, 1) := by decide +kernel
theorem dL_law_1017 : decode cL_law 1017 = .ok (.invokevirtual 147, 3) := by decide +kernel
theorem dL_law_1020 : decode cL_law 1020 = .ok (.if_icmp .eq 55, 3) := by decide +kernel
theorem dL_law_1023 : decode cL_law 1023 = .ok (.iconst 0, 1) := by decide +kernel
theorem dL_law_1024 : decode cL_law 1024 = .ok (.ireturn, 1) := by decide +kernel
theorem dL_law_1025 : decode cL_law 1025 = .ok (.aload_n 1, 1) := by decide +kernel
theorem dL_law_1026 : decode cL_law 1026 = .ok (.aload_n 0, 1) := by decide +kernel
theorem dL_law_1027 : decode cL_law 1027 = .ok (.iload 4, 2) := by decide +kernel
theorem dL_law_1029 : decode cL_law 1029 = .ok (.iconst 1, 1) := by decide +kernel
theorem dL_law_1030 : decode cL_law 1030 = .ok (.iadd, 1) := by decide +kernel
theorem dL_law_1031 : decode cL_law 1031 = .ok (.iaload, 1) := by decide +kernel
theorem dL_law_1032 : decode cL_law 1032 = .ok (.invokevirtual 148, 3) := by decide +kernel
theorem dL_law_1035 : decode cL_law 1035 = .ok (.aload_n 2, 1) := by decide +kernel
theorem dL_law_1036 : decode cL_law 1036 = .ok (.aload_n 0, 1) := by decide +kernel
theorem dL_law_1037 : decode cL_law 1037 = .ok (.iload 4, 2) := by decide +kernel
theorem dL_law_1039 : decode cL_law 1039 = .ok (.iconst 1, 1) := by decide +kernel
theorem dL_law_1040 : decode cL_law 1040 = .ok (.iadd, 1) := by decide +kernel
theorem dL_law_1041 : decode cL_law 1041 = .ok (.iaload, 1) := by decide +kernel
theorem dL_law_1042 : decode cL_law 1042 = .ok (.invokevirtual 151, 3) := by decide +kernel
theorem dL_law_1045 : decode cL_law 1045 = .ok (.if_icmp .eq 30, 3) := by decide +kernel
theorem dL_law_1048 : decode cL_law 1048 = .ok (.iconst 0, 1) := by decide +kernel
theorem dL_law_1049 : decode cL_law 1049 = .ok (.ireturn, 1) := by decide +kernel
theorem dL_law_1050 : decode cL_law 1050 = .ok (.aload_n 1, 1) := by decide +kernel
theorem dL_law_1051 : decode cL_law 1051 = .ok (.aload_n 0, 1) := by decide +kernel
theorem dL_law_1052 : decode cL_law 1052 = .ok (.iload 4, 2) := by decide +kernel
theorem dL_law_1054 : decode cL_law 1054 = .ok (.iconst 1, 1) := by decide +kernel
theorem dL_law_1055 : decode cL_law 1055 = .ok (.iadd, 1) := by decide +kernel
theorem dL_law_1056 : decode cL_law 1056 = .ok (.iaload, 1) := by decide +kernel
theorem dL_law_1057 : decode cL_law 1057 = .ok (.invokevirtual 152, 3) := by decide +kernel
theorem dL_law_1060 : decode cL_law 1060 = .ok (.aload_n 2, 1) := by decide +kernel
theorem dL_law_1061 : decode cL_law 1061 = .ok (.aload_n 0, 1) := by decide +kernel
theorem dL_law_1062 : decode cL_law 1062 = .ok (.iload 4, 2) := by decide +kernel
theorem dL_law_1064 : decode cL_law 1064 = .ok (.iconst 1, 1) := by decide +kernel
theorem dL_law_1065 : decode cL_law 1065 = .ok (.iadd, 1) := by decide +kernel
theorem dL_law_1066 : decode cL_law 1066 = .ok (.iaload, 1) := by decide +kernel
theorem dL_law_1067 : decode cL_law 1067 = .ok (.invokevirtual 155, 3) := by decide +kernel
theorem dL_law_1070 : decode cL_law 1070 = .ok (.if_icmp .eq 5, 3) := by decide +kernel
theorem dL_law_1073 : decode cL_law 1073 = .ok (.iconst 0, 1) := by decide +kernel
theorem dL_law_1074 : decode cL_law 1074 = .ok (.ireturn, 1) := by decide +kernel
theorem dL_law_1075 : decode cL_law 1075 = .ok (.iinc 4 6, 3) := by decide +kernel
theorem dL_law_1078 : decode cL_law 1078 = .ok (.goto (-1055), 3) := by decide +kernel
theorem dL_law_1081 : decode cL_law 1081 = .ok (.iconst 1, 1) := by decide +kernel
theorem dL_law_1082 : decode cL_law 1082 = .ok (.ireturn, 1) := by decide +kernel
